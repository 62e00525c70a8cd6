def LX11_decides : List (Nat × Instr × Nat) := [(0, .aload_n 0, 1), (1, .iload_n 1, 1), (2, .invokevirtual 151, 3), (5, .astore_n 3, 1), (6, .aload_n 3, 1), (7, .ifnull 10, 3), (10, .iload_n 2, 1), (11, .invokestatic 276, 3), (14, .ifCond .ne 5, 3), (17, .iconst (-1), 1), (18, .ireturn, 1), (19, .aload_n 3, 1), (20, .iload_n 2, 1), (21, .invokevirtual 301, 3), (24, .ifCond .eq 7, 3), (27, .iconst 1, 1), (28, .goto 4, 3), (31, .iconst 0, 1), (32, .ireturn, 1)]
theorem kX11_decides : chkB cX11_decides LX11_decides = true := by decide +kernel
theorem dX11_decides_0 : decode cX11_decides 0 = .ok (.aload_n 0, 1) := getB' kX11_decides 0 rfl
theorem dX11_decides_1 : decode cX11_decides 1 = .ok (.iload_n 1, 1) := getB' kX11_decides 1 rfl
theorem dX11_decides_2 : decode cX11_decides 2 = .ok (.invokevirtual 151, 3) := getB' kX11_decides 2 rfl
theorem dX11_decides_5 : decode cX11_decides 5 = .ok (.astore_n 3, 1) := getB' kX11_decides 3 rfl
theorem dX11_decides_6 : decode cX11_decides 6 = .ok (.aload_n 3, 1) := getB' kX11_decides 4 rfl
theorem dX11_decides_7 : decode cX11_decides 7 = .ok (.ifnull 10, 3) := getB' kX11_decides 5 rfl
theorem dX11_decides_10 : decode cX11_decides 10 = .ok (.iload_n 2, 1) := getB' kX11_decides 6 rfl
theorem dX11_decides_11 : decode cX11_decides 11 = .ok (.invokestatic 276, 3) := getB' kX11_decides 7 rfl
theorem dX11_decides_14 : decode cX11_decides 14 = .ok (.ifCond .ne 5, 3) := getB' kX11_decides 8 rfl
theorem dX11_decides_17 : decode cX11_decides 17 = .ok (.iconst (-1), 1) := getB' kX11_decides 9 rfl
theorem dX11_decides_18 : decode cX11_decides 18 = .ok (.ireturn, 1) := getB' kX11_decides 10 rfl
theorem dX11_decides_19 : decode cX11_decides 19 = .ok (.aload_n 3, 1) := getB' kX11_decides 11 rfl
theorem dX11_decides_20 : decode cX11_decides 20 = .ok (.iload_n 2, 1) := getB' kX11_decides 12 rfl
theorem dX11_decides_21 : decode cX11_decides 21 = .ok (.invokevirtual 301, 3) := getB' kX11_decides 13 rfl
theorem dX11_decides_24 : decode cX11_decides 24 = .ok (.ifCond .eq 7, 3) := getB' kX11_decides 14 rfl
theorem dX11_decides_27 : decode cX11_decides 27 = .ok (.iconst 1, 1) := getB' kX11_decides 15 rfl
theorem dX11_decides_28 : decode cX11_decides 28 = .ok (.goto 4, 3) := getB' kX11_decides 16 rfl
theorem dX11_decides_31 : decode cX11_decides 31 = .ok (.iconst 0, 1) := getB' kX11_decides 17 rfl
theorem dX11_decides_32 : decode cX11_decides 32 = .ok (.ireturn, 1) := getB' kX11_decides 18 rfl
def LX11_claimsAreAsleep : List (Nat × Instr × Nat) := [(0, .aload_n 0, 1), (1, .getfield 19, 3), (4, .iload_n 1, 1), (5, .aload_n 2, 1), (6, .aload_n 0, 1), (7, .getfield 12, 3), (10, .getfield 145, 3), (13, .invokevirtual 279, 3), (16, .aload_n 0, 1), (17, .getfield 19, 3), (20, .bipush 122, 2), (22, .iconst 0, 1), (23, .iconst 0, 1), (24, .invokevirtual 292, 3), (27, .iconst (-1), 1), (28, .if_icmp .eq 7, 3), (31, .iconst 1, 1), (32, .goto 4, 3), (35, .iconst 0, 1), (36, .ireturn, 1)]
theorem kX11_claimsAreAsleep : chkB cX11_claimsAreAsleep LX11_claimsAreAsleep = true := by decide +kernel
theorem dX11_claimsAreAsleep_0 : decode cX11_claimsAreAsleep 0 = .ok (.aload_n 0, 1) := getB' kX11_claimsAreAsleep 0 rfl
theorem dX11_claimsAreAsleep_1 : decode cX11_claimsAreAsleep 1 = .ok (.getfield 19, 3) := getB' kX11_claimsAreAsleep 1 rfl
theorem dX11_claimsAreAsleep_4 : decode cX11_claimsAreAsleep 4 = .ok (.iload_n 1, 1) := getB' kX11_claimsAreAsleep 2 rfl
theorem dX11_claimsAreAsleep_5 : decode cX11_claimsAreAsleep 5 = .ok (.aload_n 2, 1) := getB' kX11_claimsAreAsleep 3 rfl
theorem dX11_claimsAreAsleep_6 : decode cX11_claimsAreAsleep 6 = .ok (.aload_n 0, 1) := getB' kX11_claimsAreAsleep 4 rfl
theorem dX11_claimsAreAsleep_7 : decode cX11_claimsAreAsleep 7 = .ok (.getfield 12, 3) := getB' kX11_claimsAreAsleep 5 rfl
theorem dX11_claimsAreAsleep_10 : decode cX11_claimsAreAsleep 10 = .ok (.getfield 145, 3) := getB' kX11_claimsAreAsleep 6 rfl
theorem dX11_claimsAreAsleep_13 : decode cX11_claimsAreAsleep 13 = .ok (.invokevirtual 279, 3) := getB' kX11_claimsAreAsleep 7 rfl
theorem dX11_claimsAreAsleep_16 : decode cX11_claimsAreAsleep 16 = .ok (.aload_n 0, 1) := getB' kX11_claimsAreAsleep 8 rfl
theorem dX11_claimsAreAsleep_17 : decode cX11_claimsAreAsleep 17 = .ok (.getfield 19, 3) := getB' kX11_claimsAreAsleep 9 rfl
theorem dX11_claimsAreAsleep_20 : decode cX11_claimsAreAsleep 20 = .ok (.bipush 122, 2) := getB' kX11_claimsAreAsleep 10 rfl
theorem dX11_claimsAreAsleep_22 : decode cX11_claimsAreAsleep 22 = .ok (.iconst 0, 1) := getB' kX11_claimsAreAsleep 11 rfl
theorem dX11_claimsAreAsleep_23 : decode cX11_claimsAreAsleep 23 = .ok (.iconst 0, 1) := getB' kX11_claimsAreAsleep 12 rfl
theorem dX11_claimsAreAsleep_24 : decode cX11_claimsAreAsleep 24 = .ok (.invokevirtual 292, 3) := getB' kX11_claimsAreAsleep 13 rfl
theorem dX11_claimsAreAsleep_27 : decode cX11_claimsAreAsleep 27 = .ok (.iconst (-1), 1) := getB' kX11_claimsAreAsleep 14 rfl
theorem dX11_claimsAreAsleep_28 : decode cX11_claimsAreAsleep 28 = .ok (.if_icmp .eq 7, 3) := getB' kX11_claimsAreAsleep 15 rfl
theorem dX11_claimsAreAsleep_31 : decode cX11_claimsAreAsleep 31 = .ok (.iconst 1, 1) := getB' kX11_claimsAreAsleep 16 rfl
theorem dX11_claimsAreAsleep_32 : decode cX11_claimsAreAsleep 32 = .ok (.goto 4, 3) := getB' kX11_claimsAreAsleep 17 rfl
theorem dX11_claimsAreAsleep_35 : decode cX11_claimsAreAsleep 35 = .ok (.iconst 0, 1) := getB' kX11_claimsAreAsleep 18 rfl
theorem dX11_claimsAreAsleep_36 : decode cX11_claimsAreAsleep 36 = .ok (.ireturn, 1) := getB' kX11_claimsAreAsleep 19 rfl
def LX11_work : List (Nat × Instr × Nat) := [(0, .iload_n 1, 1), (1, .iconst 0, 1), (2, .bipush 9, 2), (4, .invokestatic 112, 3), (7, .ifCond .eq 34, 3), (10, .aload_n 0, 1), (11, .iload_n 2, 1), (12, .invokevirtual 151, 3), (15, .ifnull 26, 3), (18, .aload_n 0, 1), (19, .getfield 12, 3), (22, .iload_n 3, 1), (23, .invokevirtual 119, 3), (26, .ifCond .eq 15, 3), (29, .aload_n 0, 1), (30, .getfield 55, 3), (33, .aload_n 0, 1), (34, .getfield 51, 3), (37, .arraylength, 1), (38, .if_icmp .lt 5, 3), (41, .iconst (-1), 1), (42, .ireturn, 1), (43, .iload 4, 2), (45, .iload 5, 2), (47, .invokestatic 213, 3), (50, .ifCond .eq 38, 3), (53, .iload 4, 2), (55, .aload_n 0, 1), (56, .getfield 12, 3), (59, .getfield 145, 3), (62, .if_icmp .lt 26, 3), (65, .iload 6, 2), (67, .iconst 0, 1), (68, .sipush 500, 3), (71, .invokestatic 112, 3), (74, .ifCond .eq 14, 3), (77, .iload 7, 2), (79, .iconst 0, 1), (80, .bipush 99, 2), (82, .invokestatic 112, 3), (85, .ifCond .ne 5, 3), (88, .iconst (-1), 1), (89, .ireturn, 1), (90, .new 49, 3), (93, .dup, 1), (94, .iload_n 1, 1), (95, .iload_n 2, 1), (96, .iload_n 3, 1), (97, .iload 4, 2), (99, .iload 5, 2), (101, .invokespecial 304, 3), (104, .astore 8, 2), (106, .aload 8, 2), (108, .iload 6, 2), (110, .putfield 305, 3), (113, .aload 8, 2), (115, .iload 7, 2), (117, .putfield 306, 3), (120, .aload_n 0, 1), (121, .getfield 51, 3), (124, .aload_n 0, 1), (125, .getfield 55, 3), (128, .aload 8, 2), (130, .aastore, 1), (131, .aload_n 0, 1), (132, .dup, 1), (133, .getfield 55, 3), (136, .dup_x1, 1), (137, .iconst 1, 1), (138, .iadd, 1), (139, .putfield 55, 3), (142, .ireturn, 1)]
theorem kX11_work : chkB cX11_work LX11_work = true := by decide +kernel
theorem dX11_work_0 : decode cX11_work 0 = .ok (.iload_n 1, 1) := getB' kX11_work 0 rfl
theorem dX11_work_1 : decode cX11_work 1 = .ok (.iconst 0, 1) := getB' kX11_work 1 rfl
theorem dX11_work_2 : decode cX11_work 2 = .ok (.bipush 9, 2) := getB' kX11_work 2 rfl
theorem dX11_work_4 : decode cX11_work 4 = .ok (.invokestatic 112, 3) := getB' kX11_work 3 rfl
theorem dX11_work_7 : decode cX11_work 7 = .ok (.ifCond .eq 34, 3) := getB' kX11_work 4 rfl
theorem dX11_work_10 : decode cX11_work 10 = .ok (.aload_n 0, 1) := getB' kX11_work 5 rfl
theorem dX11_work_11 : decode cX11_work 11 = .ok (.iload_n 2, 1) := getB' kX11_work 6 rfl
theorem dX11_work_12 : decode cX11_work 12 = .ok (.invokevirtual 151, 3) := getB' kX11_work 7 rfl
theorem dX11_work_15 : decode cX11_work 15 = .ok (.ifnull 26, 3) := getB' kX11_work 8 rfl
theorem dX11_work_18 : decode cX11_work 18 = .ok (.aload_n 0, 1) := getB' kX11_work 9 rfl
theorem dX11_work_19 : decode cX11_work 19 = .ok (.getfield 12, 3) := getB' kX11_work 10 rfl
theorem dX11_work_22 : decode cX11_work 22 = .ok (.iload_n 3, 1) := getB' kX11_work 11 rfl
theorem dX11_work_23 : decode cX11_work 23 = .ok (.invokevirtual 119, 3) := getB' kX11_work 12 rfl
theorem dX11_work_26 : decode cX11_work 26 = .ok (.ifCond .eq 15, 3) := getB' kX11_work 13 rfl
theorem dX11_work_29 : decode cX11_work 29 = .ok (.aload_n 0, 1) := getB' kX11_work 14 rfl
theorem dX11_work_30 : decode cX11_work 30 = .ok (.getfield 55, 3) := getB' kX11_work 15 rfl
theorem dX11_work_33 : decode cX11_work 33 = .ok (.aload_n 0, 1) := getB' kX11_work 16 rfl
theorem dX11_work_34 : decode cX11_work 34 = .ok (.getfield 51, 3) := getB' kX11_work 17 rfl
theorem dX11_work_37 : decode cX11_work 37 = .ok (.arraylength, 1) := getB' kX11_work 18 rfl
theorem dX11_work_38 : decode cX11_work 38 = .ok (.if_icmp .lt 5, 3) := getB' kX11_work 19 rfl
theorem dX11_work_41 : decode cX11_work 41 = .ok (.iconst (-1), 1) := getB' kX11_work 20 rfl
theorem dX11_work_42 : decode cX11_work 42 = .ok (.ireturn, 1) := getB' kX11_work 21 rfl
theorem dX11_work_43 : decode cX11_work 43 = .ok (.iload 4, 2) := getB' kX11_work 22 rfl
theorem dX11_work_45 : decode cX11_work 45 = .ok (.iload 5, 2) := getB' kX11_work 23 rfl
theorem dX11_work_47 : decode cX11_work 47 = .ok (.invokestatic 213, 3) := getB' kX11_work 24 rfl
theorem dX11_work_50 : decode cX11_work 50 = .ok (.ifCond .eq 38, 3) := getB' kX11_work 25 rfl
theorem dX11_work_53 : decode cX11_work 53 = .ok (.iload 4, 2) := getB' kX11_work 26 rfl
theorem dX11_work_55 : decode cX11_work 55 = .ok (.aload_n 0, 1) := getB' kX11_work 27 rfl
theorem dX11_work_56 : decode cX11_work 56 = .ok (.getfield 12, 3) := getB' kX11_work 28 rfl
theorem dX11_work_59 : decode cX11_work 59 = .ok (.getfield 145, 3) := getB' kX11_work 29 rfl
theorem dX11_work_62 : decode cX11_work 62 = .ok (.if_icmp .lt 26, 3) := getB' kX11_work 30 rfl
theorem dX11_work_65 : decode cX11_work 65 = .ok (.iload 6, 2) := getB' kX11_work 31 rfl
theorem dX11_work_67 : decode cX11_work 67 = .ok (.iconst 0, 1) := getB' kX11_work 32 rfl
theorem dX11_work_68 : decode cX11_work 68 = .ok (.sipush 500, 3) := getB' kX11_work 33 rfl
theorem dX11_work_71 : decode cX11_work 71 = .ok (.invokestatic 112, 3) := getB' kX11_work 34 rfl
theorem dX11_work_74 : decode cX11_work 74 = .ok (.ifCond .eq 14, 3) := getB' kX11_work 35 rfl
theorem dX11_work_77 : decode cX11_work 77 = .ok (.iload 7, 2) := getB' kX11_work 36 rfl
theorem dX11_work_79 : decode cX11_work 79 = .ok (.iconst 0, 1) := getB' kX11_work 37 rfl
theorem dX11_work_80 : decode cX11_work 80 = .ok (.bipush 99, 2) := getB' kX11_work 38 rfl
theorem dX11_work_82 : decode cX11_work 82 = .ok (.invokestatic 112, 3) := getB' kX11_work 39 rfl
theorem dX11_work_85 : decode cX11_work 85 = .ok (.ifCond .ne 5, 3) := getB' kX11_work 40 rfl
theorem dX11_work_88 : decode cX11_work 88 = .ok (.iconst (-1), 1) := getB' kX11_work 41 rfl
theorem dX11_work_89 : decode cX11_work 89 = .ok (.ireturn, 1) := getB' kX11_work 42 rfl
theorem dX11_work_90 : decode cX11_work 90 = .ok (.new 49, 3) := getB' kX11_work 43 rfl
theorem dX11_work_93 : decode cX11_work 93 = .ok (.dup, 1) := getB' kX11_work 44 rfl
theorem dX11_work_94 : decode cX11_work 94 = .ok (.iload_n 1, 1) := getB' kX11_work 45 rfl
theorem dX11_work_95 : decode cX11_work 95 = .ok (.iload_n 2, 1) := getB' kX11_work 46 rfl
theorem dX11_work_96 : decode cX11_work 96 = .ok (.iload_n 3, 1) := getB' kX11_work 47 rfl
theorem dX11_work_97 : decode cX11_work 97 = .ok (.iload 4, 2) := getB' kX11_work 48 rfl
theorem dX11_work_99 : decode cX11_work 99 = .ok (.iload 5, 2) := getB' kX11_work 49 rfl
theorem dX11_work_101 : decode cX11_work 101 = .ok (.invokespecial 304, 3) := getB' kX11_work 50 rfl
theorem dX11_work_104 : decode cX11_work 104 = .ok (.astore 8, 2) := getB' kX11_work 51 rfl
theorem dX11_work_106 : decode cX11_work 106 = .ok (.aload 8, 2) := getB' kX11_work 52 rfl
theorem dX11_work_108 : decode cX11_work 108 = .ok (.iload 6, 2) := getB' kX11_work 53 rfl
theorem dX11_work_110 : decode cX11_work 110 = .ok (.putfield 305, 3) := getB' kX11_work 54 rfl
theorem dX11_work_113 : decode cX11_work 113 = .ok (.aload 8, 2) := getB' kX11_work 55 rfl
theorem dX11_work_115 : decode cX11_work 115 = .ok (.iload 7, 2) := getB' kX11_work 56 rfl
theorem dX11_work_117 : decode cX11_work 117 = .ok (.putfield 306, 3) := getB' kX11_work 57 rfl
theorem dX11_work_120 : decode cX11_work 120 = .ok (.aload_n 0, 1) := getB' kX11_work 58 rfl
theorem dX11_work_121 : decode cX11_work 121 = .ok (.getfield 51, 3) := getB' kX11_work 59 rfl
theorem dX11_work_124 : decode cX11_work 124 = .ok (.aload_n 0, 1) := getB' kX11_work 60 rfl
theorem dX11_work_125 : decode cX11_work 125 = .ok (.getfield 55, 3) := getB' kX11_work 61 rfl
theorem dX11_work_128 : decode cX11_work 128 = .ok (.aload 8, 2) := getB' kX11_work 62 rfl
theorem dX11_work_130 : decode cX11_work 130 = .ok (.aastore, 1) := getB' kX11_work 63 rfl
theorem dX11_work_131 : decode cX11_work 131 = .ok (.aload_n 0, 1) := getB' kX11_work 64 rfl
theorem dX11_work_132 : decode cX11_work 132 = .ok (.dup, 1) := getB' kX11_work 65 rfl
theorem dX11_work_133 : decode cX11_work 133 = .ok (.getfield 55, 3) := getB' kX11_work 66 rfl
theorem dX11_work_136 : decode cX11_work 136 = .ok (.dup_x1, 1) := getB' kX11_work 67 rfl
theorem dX11_work_137 : decode cX11_work 137 = .ok (.iconst 1, 1) := getB' kX11_work 68 rfl
theorem dX11_work_138 : decode cX11_work 138 = .ok (.iadd, 1) := getB' kX11_work 69 rfl
theorem dX11_work_139 : decode cX11_work 139 = .ok (.putfield 55, 3) := getB' kX11_work 70 rfl
theorem dX11_work_142 : decode cX11_work 142 = .ok (.ireturn, 1) := getB' kX11_work 71 rfl
def LX11_tell : List (Nat × Instr × Nat) := [(0, .aload_n 0, 1), (1, .iload_n 1, 1), (2, .invokevirtual 309, 3), (5, .astore_n 3, 1), (6, .aload_n 3, 1), (7, .ifnonnull 5, 3), (10, .iconst 0, 1), (11, .ireturn, 1), (12, .iload_n 2, 1), (13, .ifCond .ne 24, 3), (16, .aload_n 3, 1), (17, .getfield 313, 3), (20, .iconst (-1), 1), (21, .if_icmp .ne 16, 3), (24, .aload_n 3, 1), (25, .aload_n 0, 1), (26, .getfield 12, 3), (29, .getfield 145, 3), (32, .putfield 313, 3), (35, .iconst 1, 1), (36, .ireturn, 1), (37, .iload_n 2, 1), (38, .iconst 1, 1), (39, .if_icmp .ne 24, 3), (42, .aload_n 3, 1), (43, .getfield 316, 3), (46, .iconst (-1), 1), (47, .if_icmp .ne 16, 3), (50, .aload_n 3, 1), (51, .aload_n 0, 1), (52, .getfield 12, 3), (55, .getfield 145, 3), (58, .putfield 316, 3), (61, .iconst 1, 1), (62, .ireturn, 1), (63, .iconst 0, 1), (64, .ireturn, 1)]
theorem kX11_tell : chkB cX11_tell LX11_tell = true := by decide +kernel
theorem dX11_tell_0 : decode cX11_tell 0 = .ok (.aload_n 0, 1) := getB' kX11_tell 0 rfl
theorem dX11_tell_1 : decode cX11_tell 1 = .ok (.iload_n 1, 1) := getB' kX11_tell 1 rfl
theorem dX11_tell_2 : decode cX11_tell 2 = .ok (.invokevirtual 309, 3) := getB' kX11_tell 2 rfl
theorem dX11_tell_5 : decode cX11_tell 5 = .ok (.astore_n 3, 1) := getB' kX11_tell 3 rfl
theorem dX11_tell_6 : decode cX11_tell 6 = .ok (.aload_n 3, 1) := getB' kX11_tell 4 rfl
theorem dX11_tell_7 : decode cX11_tell 7 = .ok (.ifnonnull 5, 3) := getB' kX11_tell 5 rfl
theorem dX11_tell_10 : decode cX11_tell 10 = .ok (.iconst 0, 1) := getB' kX11_tell 6 rfl
theorem dX11_tell_11 : decode cX11_tell 11 = .ok (.ireturn, 1) := getB' kX11_tell 7 rfl
theorem dX11_tell_12 : decode cX11_tell 12 = .ok (.iload_n 2, 1) := getB' kX11_tell 8 rfl
theorem dX11_tell_13 : decode cX11_tell 13 = .ok (.ifCond .ne 24, 3) := getB' kX11_tell 9 rfl
theorem dX11_tell_16 : decode cX11_tell 16 = .ok (.aload_n 3, 1) := getB' kX11_tell 10 rfl
theorem dX11_tell_17 : decode cX11_tell 17 = .ok (.getfield 313, 3) := getB' kX11_tell 11 rfl
theorem dX11_tell_20 : decode cX11_tell 20 = .ok (.iconst (-1), 1) := getB' kX11_tell 12 rfl
theorem dX11_tell_21 : decode cX11_tell 21 = .ok (.if_icmp .ne 16, 3) := getB' kX11_tell 13 rfl
theorem dX11_tell_24 : decode cX11_tell 24 = .ok (.aload_n 3, 1) := getB' kX11_tell 14 rfl
theorem dX11_tell_25 : decode cX11_tell 25 = .ok (.aload_n 0, 1) := getB' kX11_tell 15 rfl
theorem dX11_tell_26 : decode cX11_tell 26 = .ok (.getfield 12, 3) := getB' kX11_tell 16 rfl
theorem dX11_tell_29 : decode cX11_tell 29 = .ok (.getfield 145, 3) := getB' kX11_tell 17 rfl
theorem dX11_tell_32 : decode cX11_tell 32 = .ok (.putfield 313, 3) := getB' kX11_tell 18 rfl
theorem dX11_tell_35 : decode cX11_tell 35 = .ok (.iconst 1, 1) := getB' kX11_tell 19 rfl
theorem dX11_tell_36 : decode cX11_tell 36 = .ok (.ireturn, 1) := getB' kX11_tell 20 rfl
theorem dX11_tell_37 : decode cX11_tell 37 = .ok (.iload_n 2, 1) := getB' kX11_tell 21 rfl
theorem dX11_tell_38 : decode cX11_tell 38 = .ok (.iconst 1, 1) := getB' kX11_tell 22 rfl
theorem dX11_tell_39 : decode cX11_tell 39 = .ok (.if_icmp .ne 24, 3) := getB' kX11_tell 23 rfl
theorem dX11_tell_42 : decode cX11_tell 42 = .ok (.aload_n 3, 1) := getB' kX11_tell 24 rfl
theorem dX11_tell_43 : decode cX11_tell 43 = .ok (.getfield 316, 3) := getB' kX11_tell 25 rfl
theorem dX11_tell_46 : decode cX11_tell 46 = .ok (.iconst (-1), 1) := getB' kX11_tell 26 rfl
theorem dX11_tell_47 : decode cX11_tell 47 = .ok (.if_icmp .ne 16, 3) := getB' kX11_tell 27 rfl
theorem dX11_tell_50 : decode cX11_tell 50 = .ok (.aload_n 3, 1) := getB' kX11_tell 28 rfl
theorem dX11_tell_51 : decode cX11_tell 51 = .ok (.aload_n 0, 1) := getB' kX11_tell 29 rfl
theorem dX11_tell_52 : decode cX11_tell 52 = .ok (.getfield 12, 3) := getB' kX11_tell 30 rfl
theorem dX11_tell_55 : decode cX11_tell 55 = .ok (.getfield 145, 3) := getB' kX11_tell 31 rfl
theorem dX11_tell_58 : decode cX11_tell 58 = .ok (.putfield 316, 3) := getB' kX11_tell 32 rfl
theorem dX11_tell_61 : decode cX11_tell 61 = .ok (.iconst 1, 1) := getB' kX11_tell 33 rfl
theorem dX11_tell_62 : decode cX11_tell 62 = .ok (.ireturn, 1) := getB' kX11_tell 34 rfl
theorem dX11_tell_63 : decode cX11_tell 63 = .ok (.iconst 0, 1) := getB' kX11_tell 35 rfl
theorem dX11_tell_64 : decode cX11_tell 64 = .ok (.ireturn, 1) := getB' kX11_tell 36 rfl
def LX11_study : List (Nat × Instr × Nat) := [(0, .aload_n 0, 1), (1, .iload_n 1, 1), (2, .invokevirtual 309, 3), (5, .astore_n 3, 1), (6, .aload_n 3, 1), (7, .ifnull 22, 3), (10, .iload_n 2, 1), (11, .iconst 0, 1), (12, .sipush 1000, 3), (15, .invokestatic 112, 3), (18, .ifCond .eq 11, 3), (21, .aload_n 3, 1), (22, .getfield 319, 3), (25, .iconst (-1), 1), (26, .if_icmp .eq 5, 3), (29, .iconst 0, 1), (30, .ireturn, 1), (31, .aload_n 3, 1), (32, .aload_n 0, 1), (33, .getfield 12, 3), (36, .getfield 145, 3), (39, .putfield 319, 3), (42, .aload_n 3, 1), (43, .iload_n 2, 1), (44, .putfield 322, 3), (47, .iconst 1, 1), (48, .ireturn, 1)]
theorem kX11_study : chkB cX11_study LX11_study = true := by decide +kernel
theorem dX11_study_0 : decode cX11_study 0 = .ok (.aload_n 0, 1) := getB' kX11_study 0 rfl
theorem dX11_study_1 : decode cX11_study 1 = .ok (.iload_n 1, 1) := getB' kX11_study 1 rfl
theorem dX11_study_2 : decode cX11_study 2 = .ok (.invokevirtual 309, 3) := getB' kX11_study 2 rfl
theorem dX11_study_5 : decode cX11_study 5 = .ok (.astore_n 3, 1) := getB' kX11_study 3 rfl
theorem dX11_study_6 : decode cX11_study 6 = .ok (.aload_n 3, 1) := getB' kX11_study 4 rfl
theorem dX11_study_7 : decode cX11_study 7 = .ok (.ifnull 22, 3) := getB' kX11_study 5 rfl
theorem dX11_study_10 : decode cX11_study 10 = .ok (.iload_n 2, 1) := getB' kX11_study 6 rfl
theorem dX11_study_11 : decode cX11_study 11 = .ok (.iconst 0, 1) := getB' kX11_study 7 rfl
theorem dX11_study_12 : decode cX11_study 12 = .ok (.sipush 1000, 3) := getB' kX11_study 8 rfl
theorem dX11_study_15 : decode cX11_study 15 = .ok (.invokestatic 112, 3) := getB' kX11_study 9 rfl
theorem dX11_study_18 : decode cX11_study 18 = .ok (.ifCond .eq 11, 3) := getB' kX11_study 10 rfl
theorem dX11_study_21 : decode cX11_study 21 = .ok (.aload_n 3, 1) := getB' kX11_study 11 rfl
theorem dX11_study_22 : decode cX11_study 22 = .ok (.getfield 319, 3) := getB' kX11_study 12 rfl
theorem dX11_study_25 : decode cX11_study 25 = .ok (.iconst (-1), 1) := getB' kX11_study 13 rfl
theorem dX11_study_26 : decode cX11_study 26 = .ok (.if_icmp .eq 5, 3) := getB' kX11_study 14 rfl
theorem dX11_study_29 : decode cX11_study 29 = .ok (.iconst 0, 1) := getB' kX11_study 15 rfl
theorem dX11_study_30 : decode cX11_study 30 = .ok (.ireturn, 1) := getB' kX11_study 16 rfl
theorem dX11_study_31 : decode cX11_study 31 = .ok (.aload_n 3, 1) := getB' kX11_study 17 rfl
theorem dX11_study_32 : decode cX11_study 32 = .ok (.aload_n 0, 1) := getB' kX11_study 18 rfl
theorem dX11_study_33 : decode cX11_study 33 = .ok (.getfield 12, 3) := getB' kX11_study 19 rfl
theorem dX11_study_36 : decode cX11_study 36 = .ok (.getfield 145, 3) := getB' kX11_study 20 rfl
theorem dX11_study_39 : decode cX11_study 39 = .ok (.putfield 319, 3) := getB' kX11_study 21 rfl
theorem dX11_study_42 : decode cX11_study 42 = .ok (.aload_n 3, 1) := getB' kX11_study 22 rfl
theorem dX11_study_43 : decode cX11_study 43 = .ok (.iload_n 2, 1) := getB' kX11_study 23 rfl
theorem dX11_study_44 : decode cX11_study 44 = .ok (.putfield 322, 3) := getB' kX11_study 24 rfl
theorem dX11_study_47 : decode cX11_study 47 = .ok (.iconst 1, 1) := getB' kX11_study 25 rfl
theorem dX11_study_48 : decode cX11_study 48 = .ok (.ireturn, 1) := getB' kX11_study 26 rfl
def LX11_say : List (Nat × Instr × Nat) := [(0, .aload_n 0, 1), (1, .iload_n 2, 1), (2, .invokevirtual 309, 3), (5, .astore 4, 2), (7, .aload_n 0, 1), (8, .iload_n 1, 1), (9, .invokevirtual 151, 3), (12, .ifnull 8, 3), (15, .aload 4, 2), (17, .ifnonnull 5, 3), (20, .iconst 0, 1), (21, .ireturn, 1), (22, .iconst 1, 1), (23, .iload_n 1, 1), (24, .ishl, 1), (25, .istore 5, 2), (27, .aload 4, 2), (29, .iload_n 3, 1), (30, .ifCond .eq 14, 3), (33, .aload 4, 2), (35, .getfield 325, 3), (38, .iload 5, 2), (40, .ior, 1), (41, .goto 13, 3), (44, .aload 4, 2), (46, .getfield 325, 3), (49, .iload 5, 2), (51, .iconst (-1), 1), (52, .ixor, 1), (53, .iand, 1), (54, .putfield 325, 3), (57, .aload 4, 2), (59, .iload_n 3, 1), (60, .ifCond .eq 16, 3), (63, .aload 4, 2), (65, .getfield 328, 3), (68, .iload 5, 2), (70, .iconst (-1), 1), (71, .ixor, 1), (72, .iand, 1), (73, .goto 11, 3), (76, .aload 4, 2), (78, .getfield 328, 3), (81, .iload 5, 2), (83, .ior, 1), (84, .putfield 328, 3), (87, .iconst 1, 1), (88, .ireturn, 1)]
theorem kX11_say : chkB cX11_say LX11_say = true := by decide +kernel
theorem dX11_say_0 : decode cX11_say 0 = .ok (.aload_n 0, 1) := getB' kX11_say 0 rfl
theorem dX11_say_1 : decode cX11_say 1 = .ok (.iload_n 2, 1) := getB' kX11_say 1 rfl
theorem dX11_say_2 : decode cX11_say 2 = .ok (.invokevirtual 309, 3) := getB' kX11_say 2 rfl
theorem dX11_say_5 : decode cX11_say 5 = .ok (.astore 4, 2) := getB' kX11_say 3 rfl
theorem dX11_say_7 : decode cX11_say 7 = .ok (.aload_n 0, 1) := getB' kX11_say 4 rfl
theorem dX11_say_8 : decode cX11_say 8 = .ok (.iload_n 1, 1) := getB' kX11_say 5 rfl
theorem dX11_say_9 : decode cX11_say 9 = .ok (.invokevirtual 151, 3) := getB' kX11_say 6 rfl
theorem dX11_say_12 : decode cX11_say 12 = .ok (.ifnull 8, 3) := getB' kX11_say 7 rfl
theorem dX11_say_15 : decode cX11_say 15 = .ok (.aload 4, 2) := getB' kX11_say 8 rfl
theorem dX11_say_17 : decode cX11_say 17 = .ok (.ifnonnull 5, 3) := getB' kX11_say 9 rfl
theorem dX11_say_20 : decode cX11_say 20 = .ok (.iconst 0, 1) := getB' kX11_say 10 rfl
theorem dX11_say_21 : decode cX11_say 21 = .ok (.ireturn, 1) := getB' kX11_say 11 rfl
theorem dX11_say_22 : decode cX11_say 22 = .ok (.iconst 1, 1) := getB' kX11_say 12 rfl
theorem dX11_say_23 : decode cX11_say 23 = .ok (.iload_n 1, 1) := getB' kX11_say 13 rfl
theorem dX11_say_24 : decode cX11_say 24 = .ok (.ishl, 1) := getB' kX11_say 14 rfl
theorem dX11_say_25 : decode cX11_say 25 = .ok (.istore 5, 2) := getB' kX11_say 15 rfl
theorem dX11_say_27 : decode cX11_say 27 = .ok (.aload 4, 2) := getB' kX11_say 16 rfl
theorem dX11_say_29 : decode cX11_say 29 = .ok (.iload_n 3, 1) := getB' kX11_say 17 rfl
theorem dX11_say_30 : decode cX11_say 30 = .ok (.ifCond .eq 14, 3) := getB' kX11_say 18 rfl
theorem dX11_say_33 : decode cX11_say 33 = .ok (.aload 4, 2) := getB' kX11_say 19 rfl
theorem dX11_say_35 : decode cX11_say 35 = .ok (.getfield 325, 3) := getB' kX11_say 20 rfl
theorem dX11_say_38 : decode cX11_say 38 = .ok (.iload 5, 2) := getB' kX11_say 21 rfl
theorem dX11_say_40 : decode cX11_say 40 = .ok (.ior, 1) := getB' kX11_say 22 rfl
theorem dX11_say_41 : decode cX11_say 41 = .ok (.goto 13, 3) := getB' kX11_say 23 rfl
theorem dX11_say_44 : decode cX11_say 44 = .ok (.aload 4, 2) := getB' kX11_say 24 rfl
theorem dX11_say_46 : decode cX11_say 46 = .ok (.getfield 325, 3) := getB' kX11_say 25 rfl
theorem dX11_say_49 : decode cX11_say 49 = .ok (.iload 5, 2) := getB' kX11_say 26 rfl
theorem dX11_say_51 : decode cX11_say 51 = .ok (.iconst (-1), 1) := getB' kX11_say 27 rfl
theorem dX11_say_52 : decode cX11_say 52 = .ok (.ixor, 1) := getB' kX11_say 28 rfl
theorem dX11_say_53 : decode cX11_say 53 = .ok (.iand, 1) := getB' kX11_say 29 rfl
theorem dX11_say_54 : decode cX11_say 54 = .ok (.putfield 325, 3) := getB' kX11_say 30 rfl
theorem dX11_say_57 : decode cX11_say 57 = .ok (.aload 4, 2) := getB' kX11_say 31 rfl
theorem dX11_say_59 : decode cX11_say 59 = .ok (.iload_n 3, 1) := getB' kX11_say 32 rfl
theorem dX11_say_60 : decode cX11_say 60 = .ok (.ifCond .eq 16, 3) := getB' kX11_say 33 rfl
theorem dX11_say_63 : decode cX11_say 63 = .ok (.aload 4, 2) := getB' kX11_say 34 rfl
theorem dX11_say_65 : decode cX11_say 65 = .ok (.getfield 328, 3) := getB' kX11_say 35 rfl
theorem dX11_say_68 : decode cX11_say 68 = .ok (.iload 5, 2) := getB' kX11_say 36 rfl
theorem dX11_say_70 : decode cX11_say 70 = .ok (.iconst (-1), 1) := getB' kX11_say 37 rfl
theorem dX11_say_71 : decode cX11_say 71 = .ok (.ixor, 1) := getB' kX11_say 38 rfl
theorem dX11_say_72 : decode cX11_say 72 = .ok (.iand, 1) := getB' kX11_say 39 rfl
theorem dX11_say_73 : decode cX11_say 73 = .ok (.goto 11, 3) := getB' kX11_say 40 rfl
theorem dX11_say_76 : decode cX11_say 76 = .ok (.aload 4, 2) := getB' kX11_say 41 rfl
theorem dX11_say_78 : decode cX11_say 78 = .ok (.getfield 328, 3) := getB' kX11_say 42 rfl
theorem dX11_say_81 : decode cX11_say 81 = .ok (.iload 5, 2) := getB' kX11_say 43 rfl
theorem dX11_say_83 : decode cX11_say 83 = .ok (.ior, 1) := getB' kX11_say 44 rfl
theorem dX11_say_84 : decode cX11_say 84 = .ok (.putfield 328, 3) := getB' kX11_say 45 rfl
theorem dX11_say_87 : decode cX11_say 87 = .ok (.iconst 1, 1) := getB' kX11_say 46 rfl
theorem dX11_say_88 : decode cX11_say 88 = .ok (.ireturn, 1) := getB' kX11_say 47 rfl
def LX11_may : List (Nat × Instr × Nat) := [(0, .aload_n 0, 1), (1, .iload_n 1, 1), (2, .invokevirtual 309, 3), (5, .astore 4, 2), (7, .aload 4, 2), (9, .ifnull 10, 3), (12, .iload_n 2, 1), (13, .invokestatic 276, 3), (16, .ifCond .ne 5, 3), (19, .iconst (-1), 1), (20, .ireturn, 1), (21, .aload_n 0, 1), (22, .aload 4, 2), (24, .iload_n 2, 1), (25, .iload_n 3, 1), (26, .invokevirtual 331, 3), (29, .ireturn, 1)]
theorem kX11_may : chkB cX11_may LX11_may = true := by decide +kernel
theorem dX11_may_0 : decode cX11_may 0 = .ok (.aload_n 0, 1) := getB' kX11_may 0 rfl
theorem dX11_may_1 : decode cX11_may 1 = .ok (.iload_n 1, 1) := getB' kX11_may 1 rfl
theorem dX11_may_2 : decode cX11_may 2 = .ok (.invokevirtual 309, 3) := getB' kX11_may 2 rfl
theorem dX11_may_5 : decode cX11_may 5 = .ok (.astore 4, 2) := getB' kX11_may 3 rfl
theorem dX11_may_7 : decode cX11_may 7 = .ok (.aload 4, 2) := getB' kX11_may 4 rfl
theorem dX11_may_9 : decode cX11_may 9 = .ok (.ifnull 10, 3) := getB' kX11_may 5 rfl
theorem dX11_may_12 : decode cX11_may 12 = .ok (.iload_n 2, 1) := getB' kX11_may 6 rfl
theorem dX11_may_13 : decode cX11_may 13 = .ok (.invokestatic 276, 3) := getB' kX11_may 7 rfl
theorem dX11_may_16 : decode cX11_may 16 = .ok (.ifCond .ne 5, 3) := getB' kX11_may 8 rfl
theorem dX11_may_19 : decode cX11_may 19 = .ok (.iconst (-1), 1) := getB' kX11_may 9 rfl
theorem dX11_may_20 : decode cX11_may 20 = .ok (.ireturn, 1) := getB' kX11_may 10 rfl
theorem dX11_may_21 : decode cX11_may 21 = .ok (.aload_n 0, 1) := getB' kX11_may 11 rfl
theorem dX11_may_22 : decode cX11_may 22 = .ok (.aload 4, 2) := getB' kX11_may 12 rfl
theorem dX11_may_24 : decode cX11_may 24 = .ok (.iload_n 2, 1) := getB' kX11_may 13 rfl
theorem dX11_may_25 : decode cX11_may 25 = .ok (.iload_n 3, 1) := getB' kX11_may 14 rfl
theorem dX11_may_26 : decode cX11_may 26 = .ok (.invokevirtual 331, 3) := getB' kX11_may 15 rfl
theorem dX11_may_29 : decode cX11_may 29 = .ok (.ireturn, 1) := getB' kX11_may 16 rfl
def LX11_why : List (Nat × Instr × Nat) := [(0, .aload_n 0, 1), (1, .iload_n 1, 1), (2, .invokevirtual 309, 3), (5, .astore 5, 2), (7, .aload 5, 2), (9, .ifnull 20, 3), (12, .iload_n 2, 1), (13, .invokestatic 276, 3), (16, .ifCond .eq 13, 3), (19, .iload 4, 2), (21, .iconst 0, 1), (22, .iconst 1, 1), (23, .invokestatic 112, 3), (26, .ifCond .ne 5, 3), (29, .iconst (-1), 1), (30, .ireturn, 1), (31, .aload_n 0, 1), (32, .aload 5, 2), (34, .iload_n 2, 1), (35, .iload_n 3, 1), (36, .invokevirtual 331, 3), (39, .pop, 1), (40, .iload 4, 2), (42, .ifCond .ne 13, 3), (45, .aload_n 0, 1), (46, .getfield 19, 3), (49, .getfield 335, 3), (52, .goto 10, 3), (55, .aload_n 0, 1), (56, .getfield 19, 3), (59, .getfield 338, 3), (62, .ireturn, 1)]
theorem kX11_why : chkB cX11_why LX11_why = true := by decide +kernel
theorem dX11_why_0 : decode cX11_why 0 = .ok (.aload_n 0, 1) := getB' kX11_why 0 rfl
theorem dX11_why_1 : decode cX11_why 1 = .ok (.iload_n 1, 1) := getB' kX11_why 1 rfl
theorem dX11_why_2 : decode cX11_why 2 = .ok (.invokevirtual 309, 3) := getB' kX11_why 2 rfl
theorem dX11_why_5 : decode cX11_why 5 = .ok (.astore 5, 2) := getB' kX11_why 3 rfl
theorem dX11_why_7 : decode cX11_why 7 = .ok (.aload 5, 2) := getB' kX11_why 4 rfl
theorem dX11_why_9 : decode cX11_why 9 = .ok (.ifnull 20, 3) := getB' kX11_why 5 rfl
theorem dX11_why_12 : decode cX11_why 12 = .ok (.iload_n 2, 1) := getB' kX11_why 6 rfl
theorem dX11_why_13 : decode cX11_why 13 = .ok (.invokestatic 276, 3) := getB' kX11_why 7 rfl
theorem dX11_why_16 : decode cX11_why 16 = .ok (.ifCond .eq 13, 3) := getB' kX11_why 8 rfl
theorem dX11_why_19 : decode cX11_why 19 = .ok (.iload 4, 2) := getB' kX11_why 9 rfl
theorem dX11_why_21 : decode cX11_why 21 = .ok (.iconst 0, 1) := getB' kX11_why 10 rfl
theorem dX11_why_22 : decode cX11_why 22 = .ok (.iconst 1, 1) := getB' kX11_why 11 rfl
theorem dX11_why_23 : decode cX11_why 23 = .ok (.invokestatic 112, 3) := getB' kX11_why 12 rfl
theorem dX11_why_26 : decode cX11_why 26 = .ok (.ifCond .ne 5, 3) := getB' kX11_why 13 rfl
theorem dX11_why_29 : decode cX11_why 29 = .ok (.iconst (-1), 1) := getB' kX11_why 14 rfl
theorem dX11_why_30 : decode cX11_why 30 = .ok (.ireturn, 1) := getB' kX11_why 15 rfl
theorem dX11_why_31 : decode cX11_why 31 = .ok (.aload_n 0, 1) := getB' kX11_why 16 rfl
theorem dX11_why_32 : decode cX11_why 32 = .ok (.aload 5, 2) := getB' kX11_why 17 rfl
theorem dX11_why_34 : decode cX11_why 34 = .ok (.iload_n 2, 1) := getB' kX11_why 18 rfl
theorem dX11_why_35 : decode cX11_why 35 = .ok (.iload_n 3, 1) := getB' kX11_why 19 rfl
theorem dX11_why_36 : decode cX11_why 36 = .ok (.invokevirtual 331, 3) := getB' kX11_why 20 rfl
theorem dX11_why_39 : decode cX11_why 39 = .ok (.pop, 1) := getB' kX11_why 21 rfl
theorem dX11_why_40 : decode cX11_why 40 = .ok (.iload 4, 2) := getB' kX11_why 22 rfl
theorem dX11_why_42 : decode cX11_why 42 = .ok (.ifCond .ne 13, 3) := getB' kX11_why 23 rfl
theorem dX11_why_45 : decode cX11_why 45 = .ok (.aload_n 0, 1) := getB' kX11_why 24 rfl
theorem dX11_why_46 : decode cX11_why 46 = .ok (.getfield 19, 3) := getB' kX11_why 25 rfl
theorem dX11_why_49 : decode cX11_why 49 = .ok (.getfield 335, 3) := getB' kX11_why 26 rfl
theorem dX11_why_52 : decode cX11_why 52 = .ok (.goto 10, 3) := getB' kX11_why 27 rfl
theorem dX11_why_55 : decode cX11_why 55 = .ok (.aload_n 0, 1) := getB' kX11_why 28 rfl
theorem dX11_why_56 : decode cX11_why 56 = .ok (.getfield 19, 3) := getB' kX11_why 29 rfl
theorem dX11_why_59 : decode cX11_why 59 = .ok (.getfield 338, 3) := getB' kX11_why 30 rfl
theorem dX11_why_62 : decode cX11_why 62 = .ok (.ireturn, 1) := getB' kX11_why 31 rfl
def LX11_whose : List (Nat × Instr × Nat) := [(0, .aload_n 0, 1), (1, .iload_n 1, 1), (2, .invokevirtual 151, 3), (5, .astore_n 3, 1), (6, .aload_n 3, 1), (7, .ifnull 14, 3), (10, .aload_n 0, 1), (11, .getfield 12, 3), (14, .iload_n 2, 1), (15, .invokevirtual 119, 3), (18, .ifCond .ne 5, 3), (21, .iconst (-1), 1), (22, .ireturn, 1), (23, .aload_n 0, 1), (24, .getfield 19, 3), (27, .iload_n 1, 1), (28, .aload_n 3, 1), (29, .aload_n 0, 1), (30, .getfield 12, 3), (33, .getfield 145, 3), (36, .invokevirtual 279, 3), (39, .iconst 0, 1), (40, .aload_n 0, 1), (41, .getfield 19, 3), (44, .bipush 97, 2), (46, .iconst 0, 1), (47, .iconst 0, 1), (48, .invokevirtual 292, 3), (51, .invokestatic 296, 3), (54, .istore 4, 2), (56, .aload_n 3, 1), (57, .aload_n 0, 1), (58, .getfield 12, 3), (61, .getfield 145, 3), (64, .invokevirtual 301, 3), (67, .ifCond .eq 20, 3), (70, .aload_n 0, 1), (71, .getfield 12, 3), (74, .getfield 145, 3), (77, .aload_n 3, 1), (78, .getfield 341, 3), (81, .isub, 1), (82, .iload 4, 2), (84, .if_icmp .ge 6, 3), (87, .bipush (-2), 2), (89, .ireturn, 1), (90, .iconst (-1), 1), (91, .istore 5, 2), (93, .iconst (-1), 1), (94, .istore 6, 2), (96, .iconst 0, 1), (97, .istore 7, 2), (99, .iload 7, 2), (101, .aload_n 0, 1), (102, .getfield 46, 3), (105, .if_icmp .ge 65, 3), (108, .aload_n 0, 1), (109, .iload 7, 2), (111, .iconst 0, 1), (112, .invokevirtual 169, 3), (115, .astore 8, 2), (117, .aload 8, 2), (119, .ifnull 45, 3), (122, .aload 8, 2), (124, .getfield 176, 3), (127, .iload 6, 2), (129, .if_icmp .le 35, 3), (132, .aload_n 0, 1), (133, .getfield 12, 3), (136, .iload_n 2, 1), (137, .aload 8, 2), (139, .getfield 344, 3), (142, .aload 8, 2), (144, .getfield 347, 3), (147, .invokevirtual 350, 3), (150, .ifCond .eq 14, 3), (153, .iload 7, 2), (155, .istore 5, 2), (157, .aload 8, 2), (159, .getfield 176, 3), (162, .istore 6, 2), (164, .iinc 7 1, 3), (167, .goto (-68), 3), (170, .iload 5, 2), (172, .ireturn, 1)]
theorem kX11_whose : chkB cX11_whose LX11_whose = true := by decide +kernel
theorem dX11_whose_0 : decode cX11_whose 0 = .ok (.aload_n 0, 1) := getB' kX11_whose 0 rfl
theorem dX11_whose_1 : decode cX11_whose 1 = .ok (.iload_n 1, 1) := getB' kX11_whose 1 rfl
theorem dX11_whose_2 : decode cX11_whose 2 = .ok (.invokevirtual 151, 3) := getB' kX11_whose 2 rfl
theorem dX11_whose_5 : decode cX11_whose 5 = .ok (.astore_n 3, 1) := getB' kX11_whose 3 rfl
theorem dX11_whose_6 : decode cX11_whose 6 = .ok (.aload_n 3, 1) := getB' kX11_whose 4 rfl
theorem dX11_whose_7 : decode cX11_whose 7 = .ok (.ifnull 14, 3) := getB' kX11_whose 5 rfl
theorem dX11_whose_10 : decode cX11_whose 10 = .ok (.aload_n 0, 1) := getB' kX11_whose 6 rfl
theorem dX11_whose_11 : decode cX11_whose 11 = .ok (.getfield 12, 3) := getB' kX11_whose 7 rfl
theorem dX11_whose_14 : decode cX11_whose 14 = .ok (.iload_n 2, 1) := getB' kX11_whose 8 rfl
theorem dX11_whose_15 : decode cX11_whose 15 = .ok (.invokevirtual 119, 3) := getB' kX11_whose 9 rfl
theorem dX11_whose_18 : decode cX11_whose 18 = .ok (.ifCond .ne 5, 3) := getB' kX11_whose 10 rfl
theorem dX11_whose_21 : decode cX11_whose 21 = .ok (.iconst (-1), 1) := getB' kX11_whose 11 rfl
theorem dX11_whose_22 : decode cX11_whose 22 = .ok (.ireturn, 1) := getB' kX11_whose 12 rfl
theorem dX11_whose_23 : decode cX11_whose 23 = .ok (.aload_n 0, 1) := getB' kX11_whose 13 rfl
theorem dX11_whose_24 : decode cX11_whose 24 = .ok (.getfield 19, 3) := getB' kX11_whose 14 rfl
theorem dX11_whose_27 : decode cX11_whose 27 = .ok (.iload_n 1, 1) := getB' kX11_whose 15 rfl
theorem dX11_whose_28 : decode cX11_whose 28 = .ok (.aload_n 3, 1) := getB' kX11_whose 16 rfl
theorem dX11_whose_29 : decode cX11_whose 29 = .ok (.aload_n 0, 1) := getB' kX11_whose 17 rfl
theorem dX11_whose_30 : decode cX11_whose 30 = .ok (.getfield 12, 3) := getB' kX11_whose 18 rfl
theorem dX11_whose_33 : decode cX11_whose 33 = .ok (.getfield 145, 3) := getB' kX11_whose 19 rfl
theorem dX11_whose_36 : decode cX11_whose 36 = .ok (.invokevirtual 279, 3) := getB' kX11_whose 20 rfl
theorem dX11_whose_39 : decode cX11_whose 39 = .ok (.iconst 0, 1) := getB' kX11_whose 21 rfl
theorem dX11_whose_40 : decode cX11_whose 40 = .ok (.aload_n 0, 1) := getB' kX11_whose 22 rfl
theorem dX11_whose_41 : decode cX11_whose 41 = .ok (.getfield 19, 3) := getB' kX11_whose 23 rfl
theorem dX11_whose_44 : decode cX11_whose 44 = .ok (.bipush 97, 2) := getB' kX11_whose 24 rfl
theorem dX11_whose_46 : decode cX11_whose 46 = .ok (.iconst 0, 1) := getB' kX11_whose 25 rfl
theorem dX11_whose_47 : decode cX11_whose 47 = .ok (.iconst 0, 1) := getB' kX11_whose 26 rfl
theorem dX11_whose_48 : decode cX11_whose 48 = .ok (.invokevirtual 292, 3) := getB' kX11_whose 27 rfl
theorem dX11_whose_51 : decode cX11_whose 51 = .ok (.invokestatic 296, 3) := getB' kX11_whose 28 rfl
theorem dX11_whose_54 : decode cX11_whose 54 = .ok (.istore 4, 2) := getB' kX11_whose 29 rfl
theorem dX11_whose_56 : decode cX11_whose 56 = .ok (.aload_n 3, 1) := getB' kX11_whose 30 rfl
theorem dX11_whose_57 : decode cX11_whose 57 = .ok (.aload_n 0, 1) := getB' kX11_whose 31 rfl
theorem dX11_whose_58 : decode cX11_whose 58 = .ok (.getfield 12, 3) := getB' kX11_whose 32 rfl
theorem dX11_whose_61 : decode cX11_whose 61 = .ok (.getfield 145, 3) := getB' kX11_whose 33 rfl
theorem dX11_whose_64 : decode cX11_whose 64 = .ok (.invokevirtual 301, 3) := getB' kX11_whose 34 rfl
theorem dX11_whose_67 : decode cX11_whose 67 = .ok (.ifCond .eq 20, 3) := getB' kX11_whose 35 rfl
theorem dX11_whose_70 : decode cX11_whose 70 = .ok (.aload_n 0, 1) := getB' kX11_whose 36 rfl
theorem dX11_whose_71 : decode cX11_whose 71 = .ok (.getfield 12, 3) := getB' kX11_whose 37 rfl
theorem dX11_whose_74 : decode cX11_whose 74 = .ok (.getfield 145, 3) := getB' kX11_whose 38 rfl
theorem dX11_whose_77 : decode cX11_whose 77 = .ok (.aload_n 3, 1) := getB' kX11_whose 39 rfl
theorem dX11_whose_78 : decode cX11_whose 78 = .ok (.getfield 341, 3) := getB' kX11_whose 40 rfl
theorem dX11_whose_81 : decode cX11_whose 81 = .ok (.isub, 1) := getB' kX11_whose 41 rfl
theorem dX11_whose_82 : decode cX11_whose 82 = .ok (.iload 4, 2) := getB' kX11_whose 42 rfl
theorem dX11_whose_84 : decode cX11_whose 84 = .ok (.if_icmp .ge 6, 3) := getB' kX11_whose 43 rfl
theorem dX11_whose_87 : decode cX11_whose 87 = .ok (.bipush (-2), 2) := getB' kX11_whose 44 rfl
theorem dX11_whose_89 : decode cX11_whose 89 = .ok (.ireturn, 1) := getB' kX11_whose 45 rfl
theorem dX11_whose_90 : decode cX11_whose 90 = .ok (.iconst (-1), 1) := getB' kX11_whose 46 rfl
theorem dX11_whose_91 : decode cX11_whose 91 = .ok (.istore 5, 2) := getB' kX11_whose 47 rfl
theorem dX11_whose_93 : decode cX11_whose 93 = .ok (.iconst (-1), 1) := getB' kX11_whose 48 rfl
theorem dX11_whose_94 : decode cX11_whose 94 = .ok (.istore 6, 2) := getB' kX11_whose 49 rfl
theorem dX11_whose_96 : decode cX11_whose 96 = .ok (.iconst 0, 1) := getB' kX11_whose 50 rfl
theorem dX11_whose_97 : decode cX11_whose 97 = .ok (.istore 7, 2) := getB' kX11_whose 51 rfl
theorem dX11_whose_99 : decode cX11_whose 99 = .ok (.iload 7, 2) := getB' kX11_whose 52 rfl
theorem dX11_whose_101 : decode cX11_whose 101 = .ok (.aload_n 0, 1) := getB' kX11_whose 53 rfl
theorem dX11_whose_102 : decode cX11_whose 102 = .ok (.getfield 46, 3) := getB' kX11_whose 54 rfl
theorem dX11_whose_105 : decode cX11_whose 105 = .ok (.if_icmp .ge 65, 3) := getB' kX11_whose 55 rfl
theorem dX11_whose_108 : decode cX11_whose 108 = .ok (.aload_n 0, 1) := getB' kX11_whose 56 rfl
theorem dX11_whose_109 : decode cX11_whose 109 = .ok (.iload 7, 2) := getB' kX11_whose 57 rfl
theorem dX11_whose_111 : decode cX11_whose 111 = .ok (.iconst 0, 1) := getB' kX11_whose 58 rfl
theorem dX11_whose_112 : decode cX11_whose 112 = .ok (.invokevirtual 169, 3) := getB' kX11_whose 59 rfl
theorem dX11_whose_115 : decode cX11_whose 115 = .ok (.astore 8, 2) := getB' kX11_whose 60 rfl
theorem dX11_whose_117 : decode cX11_whose 117 = .ok (.aload 8, 2) := getB' kX11_whose 61 rfl
theorem dX11_whose_119 : decode cX11_whose 119 = .ok (.ifnull 45, 3) := getB' kX11_whose 62 rfl
theorem dX11_whose_122 : decode cX11_whose 122 = .ok (.aload 8, 2) := getB' kX11_whose 63 rfl
theorem dX11_whose_124 : decode cX11_whose 124 = .ok (.getfield 176, 3) := getB' kX11_whose 64 rfl
theorem dX11_whose_127 : decode cX11_whose 127 = .ok (.iload 6, 2) := getB' kX11_whose 65 rfl
theorem dX11_whose_129 : decode cX11_whose 129 = .ok (.if_icmp .le 35, 3) := getB' kX11_whose 66 rfl
theorem dX11_whose_132 : decode cX11_whose 132 = .ok (.aload_n 0, 1) := getB' kX11_whose 67 rfl
theorem dX11_whose_133 : decode cX11_whose 133 = .ok (.getfield 12, 3) := getB' kX11_whose 68 rfl
theorem dX11_whose_136 : decode cX11_whose 136 = .ok (.iload_n 2, 1) := getB' kX11_whose 69 rfl
theorem dX11_whose_137 : decode cX11_whose 137 = .ok (.aload 8, 2) := getB' kX11_whose 70 rfl
theorem dX11_whose_139 : decode cX11_whose 139 = .ok (.getfield 344, 3) := getB' kX11_whose 71 rfl
theorem dX11_whose_142 : decode cX11_whose 142 = .ok (.aload 8, 2) := getB' kX11_whose 72 rfl
theorem dX11_whose_144 : decode cX11_whose 144 = .ok (.getfield 347, 3) := getB' kX11_whose 73 rfl
theorem dX11_whose_147 : decode cX11_whose 147 = .ok (.invokevirtual 350, 3) := getB' kX11_whose 74 rfl
theorem dX11_whose_150 : decode cX11_whose 150 = .ok (.ifCond .eq 14, 3) := getB' kX11_whose 75 rfl
theorem dX11_whose_153 : decode cX11_whose 153 = .ok (.iload 7, 2) := getB' kX11_whose 76 rfl
theorem dX11_whose_155 : decode cX11_whose 155 = .ok (.istore 5, 2) := getB' kX11_whose 77 rfl
theorem dX11_whose_157 : decode cX11_whose 157 = .ok (.aload 8, 2) := getB' kX11_whose 78 rfl
theorem dX11_whose_159 : decode cX11_whose 159 = .ok (.getfield 176, 3) := getB' kX11_whose 79 rfl
theorem dX11_whose_162 : decode cX11_whose 162 = .ok (.istore 6, 2) := getB' kX11_whose 80 rfl
theorem dX11_whose_164 : decode cX11_whose 164 = .ok (.iinc 7 1, 3) := getB' kX11_whose 81 rfl
theorem dX11_whose_167 : decode cX11_whose 167 = .ok (.goto (-68), 3) := getB' kX11_whose 82 rfl
theorem dX11_whose_170 : decode cX11_whose 170 = .ok (.iload 5, 2) := getB' kX11_whose 83 rfl
theorem dX11_whose_172 : decode cX11_whose 172 = .ok (.ireturn, 1) := getB' kX11_whose 84 rfl
def LX11_judge : List (Nat × Instr × Nat) := [(0, .aload_n 0, 1), (1, .aload_n 1, 1), (2, .getfield 353, 3), (5, .invokevirtual 151, 3), (8, .astore 4, 2), (10, .aload 4, 2), (12, .ifnonnull 5, 3), (15, .iconst (-1), 1), (16, .ireturn, 1), (17, .aload_n 0, 1), (18, .aload_n 1, 1), (19, .aload 4, 2), (21, .iload_n 2, 1), (22, .invokevirtual 354, 3), (25, .aload_n 0, 1), (26, .aload_n 1, 1), (27, .invokevirtual 358, 3), (30, .aload_n 0, 1), (31, .getfield 19, 3), (34, .aload_n 1, 1), (35, .getfield 353, 3), (38, .aload 4, 2), (40, .iload_n 2, 1), (41, .invokevirtual 279, 3), (44, .aload_n 0, 1), (45, .getfield 19, 3), (48, .aload_n 1, 1), (49, .iload_n 2, 1), (50, .iload_n 3, 1), (51, .aload_n 0, 1), (52, .aload_n 1, 1), (53, .iload_n 2, 1), (54, .invokevirtual 362, 3), (57, .invokevirtual 366, 3), (60, .ireturn, 1)]
theorem kX11_judge : chkB cX11_judge LX11_judge = true := by decide +kernel
theorem dX11_judge_0 : decode cX11_judge 0 = .ok (.aload_n 0, 1) := getB' kX11_judge 0 rfl
theorem dX11_judge_1 : decode cX11_judge 1 = .ok (.aload_n 1, 1) := getB' kX11_judge 1 rfl
theorem dX11_judge_2 : decode cX11_judge 2 = .ok (.getfield 353, 3) := getB' kX11_judge 2 rfl
theorem dX11_judge_5 : decode cX11_judge 5 = .ok (.invokevirtual 151, 3) := getB' kX11_judge 3 rfl
theorem dX11_judge_8 : decode cX11_judge 8 = .ok (.astore 4, 2) := getB' kX11_judge 4 rfl
theorem dX11_judge_10 : decode cX11_judge 10 = .ok (.aload 4, 2) := getB' kX11_judge 5 rfl
theorem dX11_judge_12 : decode cX11_judge 12 = .ok (.ifnonnull 5, 3) := getB' kX11_judge 6 rfl
theorem dX11_judge_15 : decode cX11_judge 15 = .ok (.iconst (-1), 1) := getB' kX11_judge 7 rfl
theorem dX11_judge_16 : decode cX11_judge 16 = .ok (.ireturn, 1) := getB' kX11_judge 8 rfl
theorem dX11_judge_17 : decode cX11_judge 17 = .ok (.aload_n 0, 1) := getB' kX11_judge 9 rfl
theorem dX11_judge_18 : decode cX11_judge 18 = .ok (.aload_n 1, 1) := getB' kX11_judge 10 rfl
theorem dX11_judge_19 : decode cX11_judge 19 = .ok (.aload 4, 2) := getB' kX11_judge 11 rfl
theorem dX11_judge_21 : decode cX11_judge 21 = .ok (.iload_n 2, 1) := getB' kX11_judge 12 rfl
theorem dX11_judge_22 : decode cX11_judge 22 = .ok (.invokevirtual 354, 3) := getB' kX11_judge 13 rfl
theorem dX11_judge_25 : decode cX11_judge 25 = .ok (.aload_n 0, 1) := getB' kX11_judge 14 rfl
theorem dX11_judge_26 : decode cX11_judge 26 = .ok (.aload_n 1, 1) := getB' kX11_judge 15 rfl
theorem dX11_judge_27 : decode cX11_judge 27 = .ok (.invokevirtual 358, 3) := getB' kX11_judge 16 rfl
theorem dX11_judge_30 : decode cX11_judge 30 = .ok (.aload_n 0, 1) := getB' kX11_judge 17 rfl
theorem dX11_judge_31 : decode cX11_judge 31 = .ok (.getfield 19, 3) := getB' kX11_judge 18 rfl
theorem dX11_judge_34 : decode cX11_judge 34 = .ok (.aload_n 1, 1) := getB' kX11_judge 19 rfl
theorem dX11_judge_35 : decode cX11_judge 35 = .ok (.getfield 353, 3) := getB' kX11_judge 20 rfl
theorem dX11_judge_38 : decode cX11_judge 38 = .ok (.aload 4, 2) := getB' kX11_judge 21 rfl
theorem dX11_judge_40 : decode cX11_judge 40 = .ok (.iload_n 2, 1) := getB' kX11_judge 22 rfl
theorem dX11_judge_41 : decode cX11_judge 41 = .ok (.invokevirtual 279, 3) := getB' kX11_judge 23 rfl
theorem dX11_judge_44 : decode cX11_judge 44 = .ok (.aload_n 0, 1) := getB' kX11_judge 24 rfl
theorem dX11_judge_45 : decode cX11_judge 45 = .ok (.getfield 19, 3) := getB' kX11_judge 25 rfl
theorem dX11_judge_48 : decode cX11_judge 48 = .ok (.aload_n 1, 1) := getB' kX11_judge 26 rfl
theorem dX11_judge_49 : decode cX11_judge 49 = .ok (.iload_n 2, 1) := getB' kX11_judge 27 rfl
theorem dX11_judge_50 : decode cX11_judge 50 = .ok (.iload_n 3, 1) := getB' kX11_judge 28 rfl
theorem dX11_judge_51 : decode cX11_judge 51 = .ok (.aload_n 0, 1) := getB' kX11_judge 29 rfl
theorem dX11_judge_52 : decode cX11_judge 52 = .ok (.aload_n 1, 1) := getB' kX11_judge 30 rfl
theorem dX11_judge_53 : decode cX11_judge 53 = .ok (.iload_n 2, 1) := getB' kX11_judge 31 rfl
theorem dX11_judge_54 : decode cX11_judge 54 = .ok (.invokevirtual 362, 3) := getB' kX11_judge 32 rfl
theorem dX11_judge_57 : decode cX11_judge 57 = .ok (.invokevirtual 366, 3) := getB' kX11_judge 33 rfl
theorem dX11_judge_60 : decode cX11_judge 60 = .ok (.ireturn, 1) := getB' kX11_judge 34 rfl
def LX11_hasConsent : List (Nat × Instr × Nat) := [(0, .aload_n 0, 1), (1, .iload_n 2, 1), (2, .invokevirtual 369, 3), (5, .istore_n 3, 1), (6, .aload_n 1, 1), (7, .getfield 328, 3), (10, .iload_n 3, 1), (11, .iand, 1), (12, .ifCond .eq 5, 3), (15, .iconst 0, 1), (16, .ireturn, 1), (17, .iconst 2, 1), (18, .aload_n 1, 1), (19, .getfield 325, 3), (22, .iload_n 3, 1), (23, .iand, 1), (24, .invokestatic 286, 3), (27, .imul, 1), (28, .iload_n 3, 1), (29, .invokestatic 286, 3), (32, .if_icmp .le 7, 3), (35, .iconst 1, 1), (36, .goto 4, 3), (39, .iconst 0, 1), (40, .ireturn, 1)]
theorem kX11_hasConsent : chkB cX11_hasConsent LX11_hasConsent = true := by decide +kernel
theorem dX11_hasConsent_0 : decode cX11_hasConsent 0 = .ok (.aload_n 0, 1) := getB' kX11_hasConsent 0 rfl
theorem dX11_hasConsent_1 : decode cX11_hasConsent 1 = .ok (.iload_n 2, 1) := getB' kX11_hasConsent 1 rfl
theorem dX11_hasConsent_2 : decode cX11_hasConsent 2 = .ok (.invokevirtual 369, 3) := getB' kX11_hasConsent 2 rfl
theorem dX11_hasConsent_5 : decode cX11_hasConsent 5 = .ok (.istore_n 3, 1) := getB' kX11_hasConsent 3 rfl
theorem dX11_hasConsent_6 : decode cX11_hasConsent 6 = .ok (.aload_n 1, 1) := getB' kX11_hasConsent 4 rfl
theorem dX11_hasConsent_7 : decode cX11_hasConsent 7 = .ok (.getfield 328, 3) := getB' kX11_hasConsent 5 rfl
theorem dX11_hasConsent_10 : decode cX11_hasConsent 10 = .ok (.iload_n 3, 1) := getB' kX11_hasConsent 6 rfl
theorem dX11_hasConsent_11 : decode cX11_hasConsent 11 = .ok (.iand, 1) := getB' kX11_hasConsent 7 rfl
theorem dX11_hasConsent_12 : decode cX11_hasConsent 12 = .ok (.ifCond .eq 5, 3) := getB' kX11_hasConsent 8 rfl
theorem dX11_hasConsent_15 : decode cX11_hasConsent 15 = .ok (.iconst 0, 1) := getB' kX11_hasConsent 9 rfl
theorem dX11_hasConsent_16 : decode cX11_hasConsent 16 = .ok (.ireturn, 1) := getB' kX11_hasConsent 10 rfl
theorem dX11_hasConsent_17 : decode cX11_hasConsent 17 = .ok (.iconst 2, 1) := getB' kX11_hasConsent 11 rfl
theorem dX11_hasConsent_18 : decode cX11_hasConsent 18 = .ok (.aload_n 1, 1) := getB' kX11_hasConsent 12 rfl
theorem dX11_hasConsent_19 : decode cX11_hasConsent 19 = .ok (.getfield 325, 3) := getB' kX11_hasConsent 13 rfl
theorem dX11_hasConsent_22 : decode cX11_hasConsent 22 = .ok (.iload_n 3, 1) := getB' kX11_hasConsent 14 rfl
theorem dX11_hasConsent_23 : decode cX11_hasConsent 23 = .ok (.iand, 1) := getB' kX11_hasConsent 15 rfl
theorem dX11_hasConsent_24 : decode cX11_hasConsent 24 = .ok (.invokestatic 286, 3) := getB' kX11_hasConsent 16 rfl
theorem dX11_hasConsent_27 : decode cX11_hasConsent 27 = .ok (.imul, 1) := getB' kX11_hasConsent 17 rfl
theorem dX11_hasConsent_28 : decode cX11_hasConsent 28 = .ok (.iload_n 3, 1) := getB' kX11_hasConsent 18 rfl
theorem dX11_hasConsent_29 : decode cX11_hasConsent 29 = .ok (.invokestatic 286, 3) := getB' kX11_hasConsent 19 rfl
theorem dX11_hasConsent_32 : decode cX11_hasConsent 32 = .ok (.if_icmp .le 7, 3) := getB' kX11_hasConsent 20 rfl
theorem dX11_hasConsent_35 : decode cX11_hasConsent 35 = .ok (.iconst 1, 1) := getB' kX11_hasConsent 21 rfl
theorem dX11_hasConsent_36 : decode cX11_hasConsent 36 = .ok (.goto 4, 3) := getB' kX11_hasConsent 22 rfl
theorem dX11_hasConsent_39 : decode cX11_hasConsent 39 = .ok (.iconst 0, 1) := getB' kX11_hasConsent 23 rfl
theorem dX11_hasConsent_40 : decode cX11_hasConsent 40 = .ok (.ireturn, 1) := getB' kX11_hasConsent 24 rfl
def LX11_decidingOn : List (Nat × Instr × Nat) := [(0, .iconst 0, 1), (1, .istore_n 2, 1), (2, .iconst 0, 1), (3, .istore_n 3, 1), (4, .iload_n 3, 1), (5, .aload_n 0, 1), (6, .getfield 36, 3), (9, .if_icmp .ge 36, 3), (12, .aload_n 0, 1), (13, .iload_n 3, 1), (14, .invokevirtual 151, 3), (17, .astore 4, 2), (19, .aload 4, 2), (21, .ifnull 18, 3), (24, .aload 4, 2), (26, .iload_n 1, 1), (27, .invokevirtual 301, 3), (30, .ifCond .eq 9, 3), (33, .iload_n 2, 1), (34, .iconst 1, 1), (35, .iload_n 3, 1), (36, .ishl, 1), (37, .ior, 1), (38, .istore_n 2, 1), (39, .iinc 3 1, 3), (42, .goto (-38), 3), (45, .iload_n 2, 1), (46, .ireturn, 1)]
theorem kX11_decidingOn : chkB cX11_decidingOn LX11_decidingOn = true := by decide +kernel
theorem dX11_decidingOn_0 : decode cX11_decidingOn 0 = .ok (.iconst 0, 1) := getB' kX11_decidingOn 0 rfl
theorem dX11_decidingOn_1 : decode cX11_decidingOn 1 = .ok (.istore_n 2, 1) := getB' kX11_decidingOn 1 rfl
theorem dX11_decidingOn_2 : decode cX11_decidingOn 2 = .ok (.iconst 0, 1) := getB' kX11_decidingOn 2 rfl
theorem dX11_decidingOn_3 : decode cX11_decidingOn 3 = .ok (.istore_n 3, 1) := getB' kX11_decidingOn 3 rfl
theorem dX11_decidingOn_4 : decode cX11_decidingOn 4 = .ok (.iload_n 3, 1) := getB' kX11_decidingOn 4 rfl
theorem dX11_decidingOn_5 : decode cX11_decidingOn 5 = .ok (.aload_n 0, 1) := getB' kX11_decidingOn 5 rfl
theorem dX11_decidingOn_6 : decode cX11_decidingOn 6 = .ok (.getfield 36, 3) := getB' kX11_decidingOn 6 rfl
theorem dX11_decidingOn_9 : decode cX11_decidingOn 9 = .ok (.if_icmp .ge 36, 3) := getB' kX11_decidingOn 7 rfl
theorem dX11_decidingOn_12 : decode cX11_decidingOn 12 = .ok (.aload_n 0, 1) := getB' kX11_decidingOn 8 rfl
theorem dX11_decidingOn_13 : decode cX11_decidingOn 13 = .ok (.iload_n 3, 1) := getB' kX11_decidingOn 9 rfl
theorem dX11_decidingOn_14 : decode cX11_decidingOn 14 = .ok (.invokevirtual 151, 3) := getB' kX11_decidingOn 10 rfl
theorem dX11_decidingOn_17 : decode cX11_decidingOn 17 = .ok (.astore 4, 2) := getB' kX11_decidingOn 11 rfl
theorem dX11_decidingOn_19 : decode cX11_decidingOn 19 = .ok (.aload 4, 2) := getB' kX11_decidingOn 12 rfl
theorem dX11_decidingOn_21 : decode cX11_decidingOn 21 = .ok (.ifnull 18, 3) := getB' kX11_decidingOn 13 rfl
theorem dX11_decidingOn_24 : decode cX11_decidingOn 24 = .ok (.aload 4, 2) := getB' kX11_decidingOn 14 rfl
theorem dX11_decidingOn_26 : decode cX11_decidingOn 26 = .ok (.iload_n 1, 1) := getB' kX11_decidingOn 15 rfl
theorem dX11_decidingOn_27 : decode cX11_decidingOn 27 = .ok (.invokevirtual 301, 3) := getB' kX11_decidingOn 16 rfl
theorem dX11_decidingOn_30 : decode cX11_decidingOn 30 = .ok (.ifCond .eq 9, 3) := getB' kX11_decidingOn 17 rfl
theorem dX11_decidingOn_33 : decode cX11_decidingOn 33 = .ok (.iload_n 2, 1) := getB' kX11_decidingOn 18 rfl
theorem dX11_decidingOn_34 : decode cX11_decidingOn 34 = .ok (.iconst 1, 1) := getB' kX11_decidingOn 19 rfl
theorem dX11_decidingOn_35 : decode cX11_decidingOn 35 = .ok (.iload_n 3, 1) := getB' kX11_decidingOn 20 rfl
theorem dX11_decidingOn_36 : decode cX11_decidingOn 36 = .ok (.ishl, 1) := getB' kX11_decidingOn 21 rfl
theorem dX11_decidingOn_37 : decode cX11_decidingOn 37 = .ok (.ior, 1) := getB' kX11_decidingOn 22 rfl
theorem dX11_decidingOn_38 : decode cX11_decidingOn 38 = .ok (.istore_n 2, 1) := getB' kX11_decidingOn 23 rfl
theorem dX11_decidingOn_39 : decode cX11_decidingOn 39 = .ok (.iinc 3 1, 3) := getB' kX11_decidingOn 24 rfl
theorem dX11_decidingOn_42 : decode cX11_decidingOn 42 = .ok (.goto (-38), 3) := getB' kX11_decidingOn 25 rfl
theorem dX11_decidingOn_45 : decode cX11_decidingOn 45 = .ok (.iload_n 2, 1) := getB' kX11_decidingOn 26 rfl
theorem dX11_decidingOn_46 : decode cX11_decidingOn 46 = .ok (.ireturn, 1) := getB' kX11_decidingOn 27 rfl
def LX11_tellLetters : List (Nat × Instr × Nat) := [(0, .aload_n 0, 1), (1, .getfield 19, 3), (4, .getfield 372, 3), (7, .astore 4, 2), (9, .aload 4, 2), (11, .iconst 0, 1), (12, .aload_n 1, 1), (13, .getfield 375, 3), (16, .invokestatic 108, 3), (19, .aload 4, 2), (21, .iconst 1, 1), (22, .aload_n 1, 1), (23, .getfield 353, 3), (26, .invokestatic 108, 3), (29, .aload 4, 2), (31, .iconst 2, 1), (32, .aload_n 2, 1), (33, .iload_n 3, 1), (34, .invokevirtual 301, 3), (37, .ifCond .eq 7, 3), (40, .iconst 1, 1), (41, .goto 4, 3), (44, .iconst 0, 1), (45, .invokestatic 108, 3), (48, .aload 4, 2), (50, .iconst 3, 1), (51, .aload_n 0, 1), (52, .getfield 12, 3), (55, .getfield 123, 3), (58, .aload_n 1, 1), (59, .getfield 378, 3), (62, .invokestatic 253, 3), (65, .invokestatic 108, 3), (68, .aload 4, 2), (70, .iconst 4, 1), (71, .aload_n 0, 1), (72, .getfield 12, 3), (75, .getfield 126, 3), (78, .aload_n 1, 1), (79, .getfield 378, 3), (82, .invokestatic 253, 3), (85, .invokestatic 108, 3), (88, .aload 4, 2), (90, .bipush 9, 2), (92, .aload_n 1, 1), (93, .getfield 305, 3), (96, .invokestatic 108, 3), (99, .aload 4, 2), (101, .bipush 10, 2), (103, .aload_n 1, 1), (104, .getfield 306, 3), (107, .invokestatic 108, 3), (110, .aload 4, 2), (112, .bipush 11, 2), (114, .iload_n 3, 1), (115, .sipush 360, 3), (118, .irem, 1), (119, .invokestatic 108, 3), (122, .aload 4, 2), (124, .bipush 12, 2), (126, .iload_n 3, 1), (127, .sipush 360, 3), (130, .idiv, 1), (131, .invokestatic 108, 3), (134, .aload 4, 2), (136, .bipush 13, 2), (138, .aload_n 0, 1), (139, .getfield 12, 3), (142, .iload_n 3, 1), (143, .invokevirtual 381, 3), (146, .ifCond .eq 7, 3), (149, .iconst 1, 1), (150, .goto 4, 3), (153, .iconst 0, 1), (154, .invokestatic 108, 3), (157, .return_, 1)]
theorem kX11_tellLetters : chkB cX11_tellLetters LX11_tellLetters = true := by decide +kernel
theorem dX11_tellLetters_0 : decode cX11_tellLetters 0 = .ok (.aload_n 0, 1) := getB' kX11_tellLetters 0 rfl
theorem dX11_tellLetters_1 : decode cX11_tellLetters 1 = .ok (.getfield 19, 3) := getB' kX11_tellLetters 1 rfl
theorem dX11_tellLetters_4 : decode cX11_tellLetters 4 = .ok (.getfield 372, 3) := getB' kX11_tellLetters 2 rfl
theorem dX11_tellLetters_7 : decode cX11_tellLetters 7 = .ok (.astore 4, 2) := getB' kX11_tellLetters 3 rfl
theorem dX11_tellLetters_9 : decode cX11_tellLetters 9 = .ok (.aload 4, 2) := getB' kX11_tellLetters 4 rfl
theorem dX11_tellLetters_11 : decode cX11_tellLetters 11 = .ok (.iconst 0, 1) := getB' kX11_tellLetters 5 rfl
theorem dX11_tellLetters_12 : decode cX11_tellLetters 12 = .ok (.aload_n 1, 1) := getB' kX11_tellLetters 6 rfl
theorem dX11_tellLetters_13 : decode cX11_tellLetters 13 = .ok (.getfield 375, 3) := getB' kX11_tellLetters 7 rfl
theorem dX11_tellLetters_16 : decode cX11_tellLetters 16 = .ok (.invokestatic 108, 3) := getB' kX11_tellLetters 8 rfl
theorem dX11_tellLetters_19 : decode cX11_tellLetters 19 = .ok (.aload 4, 2) := getB' kX11_tellLetters 9 rfl
theorem dX11_tellLetters_21 : decode cX11_tellLetters 21 = .ok (.iconst 1, 1) := getB' kX11_tellLetters 10 rfl
theorem dX11_tellLetters_22 : decode cX11_tellLetters 22 = .ok (.aload_n 1, 1) := getB' kX11_tellLetters 11 rfl
theorem dX11_tellLetters_23 : decode cX11_tellLetters 23 = .ok (.getfield 353, 3) := getB' kX11_tellLetters 12 rfl
theorem dX11_tellLetters_26 : decode cX11_tellLetters 26 = .ok (.invokestatic 108, 3) := getB' kX11_tellLetters 13 rfl
theorem dX11_tellLetters_29 : decode cX11_tellLetters 29 = .ok (.aload 4, 2) := getB' kX11_tellLetters 14 rfl
theorem dX11_tellLetters_31 : decode cX11_tellLetters 31 = .ok (.iconst 2, 1) := getB' kX11_tellLetters 15 rfl
theorem dX11_tellLetters_32 : decode cX11_tellLetters 32 = .ok (.aload_n 2, 1) := getB' kX11_tellLetters 16 rfl
theorem dX11_tellLetters_33 : decode cX11_tellLetters 33 = .ok (.iload_n 3, 1) := getB' kX11_tellLetters 17 rfl
theorem dX11_tellLetters_34 : decode cX11_tellLetters 34 = .ok (.invokevirtual 301, 3) := getB' kX11_tellLetters 18 rfl
theorem dX11_tellLetters_37 : decode cX11_tellLetters 37 = .ok (.ifCond .eq 7, 3) := getB' kX11_tellLetters 19 rfl
theorem dX11_tellLetters_40 : decode cX11_tellLetters 40 = .ok (.iconst 1, 1) := getB' kX11_tellLetters 20 rfl
theorem dX11_tellLetters_41 : decode cX11_tellLetters 41 = .ok (.goto 4, 3) := getB' kX11_tellLetters 21 rfl
theorem dX11_tellLetters_44 : decode cX11_tellLetters 44 = .ok (.iconst 0, 1) := getB' kX11_tellLetters 22 rfl
theorem dX11_tellLetters_45 : decode cX11_tellLetters 45 = .ok (.invokestatic 108, 3) := getB' kX11_tellLetters 23 rfl
theorem dX11_tellLetters_48 : decode cX11_tellLetters 48 = .ok (.aload 4, 2) := getB' kX11_tellLetters 24 rfl
theorem dX11_tellLetters_50 : decode cX11_tellLetters 50 = .ok (.iconst 3, 1) := getB' kX11_tellLetters 25 rfl
theorem dX11_tellLetters_51 : decode cX11_tellLetters 51 = .ok (.aload_n 0, 1) := getB' kX11_tellLetters 26 rfl
theorem dX11_tellLetters_52 : decode cX11_tellLetters 52 = .ok (.getfield 12, 3) := getB' kX11_tellLetters 27 rfl
theorem dX11_tellLetters_55 : decode cX11_tellLetters 55 = .ok (.getfield 123, 3) := getB' kX11_tellLetters 28 rfl
theorem dX11_tellLetters_58 : decode cX11_tellLetters 58 = .ok (.aload_n 1, 1) := getB' kX11_tellLetters 29 rfl
theorem dX11_tellLetters_59 : decode cX11_tellLetters 59 = .ok (.getfield 378, 3) := getB' kX11_tellLetters 30 rfl
theorem dX11_tellLetters_62 : decode cX11_tellLetters 62 = .ok (.invokestatic 253, 3) := getB' kX11_tellLetters 31 rfl
theorem dX11_tellLetters_65 : decode cX11_tellLetters 65 = .ok (.invokestatic 108, 3) := getB' kX11_tellLetters 32 rfl
theorem dX11_tellLetters_68 : decode cX11_tellLetters 68 = .ok (.aload 4, 2) := getB' kX11_tellLetters 33 rfl
theorem dX11_tellLetters_70 : decode cX11_tellLetters 70 = .ok (.iconst 4, 1) := getB' kX11_tellLetters 34 rfl
theorem dX11_tellLetters_71 : decode cX11_tellLetters 71 = .ok (.aload_n 0, 1) := getB' kX11_tellLetters 35 rfl
theorem dX11_tellLetters_72 : decode cX11_tellLetters 72 = .ok (.getfield 12, 3) := getB' kX11_tellLetters 36 rfl
theorem dX11_tellLetters_75 : decode cX11_tellLetters 75 = .ok (.getfield 126, 3) := getB' kX11_tellLetters 37 rfl
theorem dX11_tellLetters_78 : decode cX11_tellLetters 78 = .ok (.aload_n 1, 1) := getB' kX11_tellLetters 38 rfl
theorem dX11_tellLetters_79 : decode cX11_tellLetters 79 = .ok (.getfield 378, 3) := getB' kX11_tellLetters 39 rfl
theorem dX11_tellLetters_82 : decode cX11_tellLetters 82 = .ok (.invokestatic 253, 3) := getB' kX11_tellLetters 40 rfl
theorem dX11_tellLetters_85 : decode cX11_tellLetters 85 = .ok (.invokestatic 108, 3) := getB' kX11_tellLetters 41 rfl
theorem dX11_tellLetters_88 : decode cX11_tellLetters 88 = .ok (.aload 4, 2) := getB' kX11_tellLetters 42 rfl
theorem dX11_tellLetters_90 : decode cX11_tellLetters 90 = .ok (.bipush 9, 2) := getB' kX11_tellLetters 43 rfl
theorem dX11_tellLetters_92 : decode cX11_tellLetters 92 = .ok (.aload_n 1, 1) := getB' kX11_tellLetters 44 rfl
theorem dX11_tellLetters_93 : decode cX11_tellLetters 93 = .ok (.getfield 305, 3) := getB' kX11_tellLetters 45 rfl
theorem dX11_tellLetters_96 : decode cX11_tellLetters 96 = .ok (.invokestatic 108, 3) := getB' kX11_tellLetters 46 rfl
theorem dX11_tellLetters_99 : decode cX11_tellLetters 99 = .ok (.aload 4, 2) := getB' kX11_tellLetters 47 rfl
theorem dX11_tellLetters_101 : decode cX11_tellLetters 101 = .ok (.bipush 10, 2) := getB' kX11_tellLetters 48 rfl
theorem dX11_tellLetters_103 : decode cX11_tellLetters 103 = .ok (.aload_n 1, 1) := getB' kX11_tellLetters 49 rfl
theorem dX11_tellLetters_104 : decode cX11_tellLetters 104 = .ok (.getfield 306, 3) := getB' kX11_tellLetters 50 rfl
theorem dX11_tellLetters_107 : decode cX11_tellLetters 107 = .ok (.invokestatic 108, 3) := getB' kX11_tellLetters 51 rfl
theorem dX11_tellLetters_110 : decode cX11_tellLetters 110 = .ok (.aload 4, 2) := getB' kX11_tellLetters 52 rfl
theorem dX11_tellLetters_112 : decode cX11_tellLetters 112 = .ok (.bipush 11, 2) := getB' kX11_tellLetters 53 rfl
theorem dX11_tellLetters_114 : decode cX11_tellLetters 114 = .ok (.iload_n 3, 1) := getB' kX11_tellLetters 54 rfl
theorem dX11_tellLetters_115 : decode cX11_tellLetters 115 = .ok (.sipush 360, 3) := getB' kX11_tellLetters 55 rfl
theorem dX11_tellLetters_118 : decode cX11_tellLetters 118 = .ok (.irem, 1) := getB' kX11_tellLetters 56 rfl
theorem dX11_tellLetters_119 : decode cX11_tellLetters 119 = .ok (.invokestatic 108, 3) := getB' kX11_tellLetters 57 rfl
theorem dX11_tellLetters_122 : decode cX11_tellLetters 122 = .ok (.aload 4, 2) := getB' kX11_tellLetters 58 rfl
theorem dX11_tellLetters_124 : decode cX11_tellLetters 124 = .ok (.bipush 12, 2) := getB' kX11_tellLetters 59 rfl
theorem dX11_tellLetters_126 : decode cX11_tellLetters 126 = .ok (.iload_n 3, 1) := getB' kX11_tellLetters 60 rfl
theorem dX11_tellLetters_127 : decode cX11_tellLetters 127 = .ok (.sipush 360, 3) := getB' kX11_tellLetters 61 rfl
theorem dX11_tellLetters_130 : decode cX11_tellLetters 130 = .ok (.idiv, 1) := getB' kX11_tellLetters 62 rfl
theorem dX11_tellLetters_131 : decode cX11_tellLetters 131 = .ok (.invokestatic 108, 3) := getB' kX11_tellLetters 63 rfl
theorem dX11_tellLetters_134 : decode cX11_tellLetters 134 = .ok (.aload 4, 2) := getB' kX11_tellLetters 64 rfl
theorem dX11_tellLetters_136 : decode cX11_tellLetters 136 = .ok (.bipush 13, 2) := getB' kX11_tellLetters 65 rfl
theorem dX11_tellLetters_138 : decode cX11_tellLetters 138 = .ok (.aload_n 0, 1) := getB' kX11_tellLetters 66 rfl
theorem dX11_tellLetters_139 : decode cX11_tellLetters 139 = .ok (.getfield 12, 3) := getB' kX11_tellLetters 67 rfl
theorem dX11_tellLetters_142 : decode cX11_tellLetters 142 = .ok (.iload_n 3, 1) := getB' kX11_tellLetters 68 rfl
theorem dX11_tellLetters_143 : decode cX11_tellLetters 143 = .ok (.invokevirtual 381, 3) := getB' kX11_tellLetters 69 rfl
theorem dX11_tellLetters_146 : decode cX11_tellLetters 146 = .ok (.ifCond .eq 7, 3) := getB' kX11_tellLetters 70 rfl
theorem dX11_tellLetters_149 : decode cX11_tellLetters 149 = .ok (.iconst 1, 1) := getB' kX11_tellLetters 71 rfl
theorem dX11_tellLetters_150 : decode cX11_tellLetters 150 = .ok (.goto 4, 3) := getB' kX11_tellLetters 72 rfl
theorem dX11_tellLetters_153 : decode cX11_tellLetters 153 = .ok (.iconst 0, 1) := getB' kX11_tellLetters 73 rfl
theorem dX11_tellLetters_154 : decode cX11_tellLetters 154 = .ok (.invokestatic 108, 3) := getB' kX11_tellLetters 74 rfl
theorem dX11_tellLetters_157 : decode cX11_tellLetters 157 = .ok (.return_, 1) := getB' kX11_tellLetters 75 rfl
def LX11_tellNeighbours : List (Nat × Instr × Nat) := [(0, .iconst 0, 1), (1, .istore_n 2, 1), (2, .iconst 0, 1), (3, .istore_n 3, 1), (4, .iconst 0, 1), (5, .istore 4, 2), (7, .iconst 0, 1), (8, .istore 5, 2), (10, .iconst 0, 1), (11, .istore 6, 2), (13, .iload 6, 2), (15, .aload_n 0, 1), (16, .getfield 46, 3), (19, .if_icmp .ge 185, 3), (22, .aload_n 0, 1), (23, .iload 6, 2), (25, .invokevirtual 384, 3), (28, .astore 7, 2), (30, .aload 7, 2), (32, .ifnonnull 6, 3), (35, .goto 163, 3), (38, .aload 7, 2), (40, .getfield 387, 3), (43, .iconst 3, 1), (44, .if_icmp .ne 40, 3), (47, .aload_n 0, 1), (48, .getfield 12, 3), (51, .aload_n 1, 1), (52, .getfield 378, 3), (55, .aload 7, 2), (57, .getfield 344, 3), (60, .aload 7, 2), (62, .getfield 347, 3), (65, .invokevirtual 350, 3), (68, .ifCond .eq 16, 3), (71, .iload_n 2, 1), (72, .aload 7, 2), (74, .getfield 176, 3), (77, .invokestatic 296, 3), (80, .istore_n 2, 1), (81, .goto 117, 3), (84, .aload 7, 2), (86, .getfield 387, 3), (89, .iconst 4, 1), (90, .if_icmp .ne 29, 3), (93, .aload_n 0, 1), (94, .getfield 12, 3), (97, .aload_n 1, 1), (98, .getfield 378, 3), (101, .aload 7, 2), (103, .getfield 344, 3), (106, .invokevirtual 388, 3), (109, .iconst 1, 1), (110, .if_icmp .gt 9, 3), (113, .iinc 3 1, 3), (116, .goto 82, 3), (119, .aload 7, 2), (121, .getfield 387, 3), (124, .iconst 5, 1), (125, .if_icmp .ne 29, 3), (128, .aload_n 0, 1), (129, .getfield 12, 3), (132, .aload_n 1, 1), (133, .getfield 378, 3), (136, .aload 7, 2), (138, .getfield 344, 3), (141, .invokevirtual 388, 3), (144, .iconst 2, 1), (145, .if_icmp .gt 9, 3), (148, .iinc 4 1, 3), (151, .goto 47, 3), (154, .aload 7, 2), (156, .getfield 387, 3), (159, .iconst 1, 1), (160, .if_icmp .ne 38, 3), (163, .aload 7, 2), (165, .getfield 173, 3), (168, .aload_n 1, 1), (169, .getfield 353, 3), (172, .if_icmp .eq 26, 3), (175, .aload_n 0, 1), (176, .getfield 12, 3), (179, .aload_n 1, 1), (180, .getfield 378, 3), (183, .aload 7, 2), (185, .getfield 344, 3), (188, .invokevirtual 388, 3), (191, .iconst 3, 1), (192, .if_icmp .gt 6, 3), (195, .iinc 5 1, 3), (198, .iinc 6 1, 3), (201, .goto (-188), 3), (204, .aload_n 0, 1), (205, .getfield 19, 3), (208, .getfield 372, 3), (211, .iconst 5, 1), (212, .iload_n 2, 1), (213, .invokestatic 108, 3), (216, .aload_n 0, 1), (217, .getfield 19, 3), (220, .getfield 372, 3), (223, .bipush 6, 2), (225, .iload_n 3, 1), (226, .invokestatic 108, 3), (229, .aload_n 0, 1), (230, .getfield 19, 3), (233, .getfield 372, 3), (236, .bipush 7, 2), (238, .iload 4, 2), (240, .invokestatic 108, 3), (243, .aload_n 0, 1), (244, .getfield 19, 3), (247, .getfield 372, 3), (250, .bipush 8, 2), (252, .iload 5, 2), (254, .invokestatic 108, 3), (257, .return_, 1)]
theorem kX11_tellNeighbours : chkB cX11_tellNeighbours LX11_tellNeighbours = true := by decide +kernel
theorem dX11_tellNeighbours_0 : decode cX11_tellNeighbours 0 = .ok (.iconst 0, 1) := getB' kX11_tellNeighbours 0 rfl
theorem dX11_tellNeighbours_1 : decode cX11_tellNeighbours 1 = .ok (.istore_n 2, 1) := getB' kX11_tellNeighbours 1 rfl
theorem dX11_tellNeighbours_2 : decode cX11_tellNeighbours 2 = .ok (.iconst 0, 1) := getB' kX11_tellNeighbours 2 rfl
theorem dX11_tellNeighbours_3 : decode cX11_tellNeighbours 3 = .ok (.istore_n 3, 1) := getB' kX11_tellNeighbours 3 rfl
theorem dX11_tellNeighbours_4 : decode cX11_tellNeighbours 4 = .ok (.iconst 0, 1) := getB' kX11_tellNeighbours 4 rfl
theorem dX11_tellNeighbours_5 : decode cX11_tellNeighbours 5 = .ok (.istore 4, 2) := getB' kX11_tellNeighbours 5 rfl
theorem dX11_tellNeighbours_7 : decode cX11_tellNeighbours 7 = .ok (.iconst 0, 1) := getB' kX11_tellNeighbours 6 rfl
theorem dX11_tellNeighbours_8 : decode cX11_tellNeighbours 8 = .ok (.istore 5, 2) := getB' kX11_tellNeighbours 7 rfl
theorem dX11_tellNeighbours_10 : decode cX11_tellNeighbours 10 = .ok (.iconst 0, 1) := getB' kX11_tellNeighbours 8 rfl
theorem dX11_tellNeighbours_11 : decode cX11_tellNeighbours 11 = .ok (.istore 6, 2) := getB' kX11_tellNeighbours 9 rfl
theorem dX11_tellNeighbours_13 : decode cX11_tellNeighbours 13 = .ok (.iload 6, 2) := getB' kX11_tellNeighbours 10 rfl
theorem dX11_tellNeighbours_15 : decode cX11_tellNeighbours 15 = .ok (.aload_n 0, 1) := getB' kX11_tellNeighbours 11 rfl
theorem dX11_tellNeighbours_16 : decode cX11_tellNeighbours 16 = .ok (.getfield 46, 3) := getB' kX11_tellNeighbours 12 rfl
theorem dX11_tellNeighbours_19 : decode cX11_tellNeighbours 19 = .ok (.if_icmp .ge 185, 3) := getB' kX11_tellNeighbours 13 rfl
theorem dX11_tellNeighbours_22 : decode cX11_tellNeighbours 22 = .ok (.aload_n 0, 1) := getB' kX11_tellNeighbours 14 rfl
theorem dX11_tellNeighbours_23 : decode cX11_tellNeighbours 23 = .ok (.iload 6, 2) := getB' kX11_tellNeighbours 15 rfl
theorem dX11_tellNeighbours_25 : decode cX11_tellNeighbours 25 = .ok (.invokevirtual 384, 3) := getB' kX11_tellNeighbours 16 rfl
theorem dX11_tellNeighbours_28 : decode cX11_tellNeighbours 28 = .ok (.astore 7, 2) := getB' kX11_tellNeighbours 17 rfl
theorem dX11_tellNeighbours_30 : decode cX11_tellNeighbours 30 = .ok (.aload 7, 2) := getB' kX11_tellNeighbours 18 rfl
theorem dX11_tellNeighbours_32 : decode cX11_tellNeighbours 32 = .ok (.ifnonnull 6, 3) := getB' kX11_tellNeighbours 19 rfl
theorem dX11_tellNeighbours_35 : decode cX11_tellNeighbours 35 = .ok (.goto 163, 3) := getB' kX11_tellNeighbours 20 rfl
theorem dX11_tellNeighbours_38 : decode cX11_tellNeighbours 38 = .ok (.aload 7, 2) := getB' kX11_tellNeighbours 21 rfl
theorem dX11_tellNeighbours_40 : decode cX11_tellNeighbours 40 = .ok (.getfield 387, 3) := getB' kX11_tellNeighbours 22 rfl
theorem dX11_tellNeighbours_43 : decode cX11_tellNeighbours 43 = .ok (.iconst 3, 1) := getB' kX11_tellNeighbours 23 rfl
theorem dX11_tellNeighbours_44 : decode cX11_tellNeighbours 44 = .ok (.if_icmp .ne 40, 3) := getB' kX11_tellNeighbours 24 rfl
theorem dX11_tellNeighbours_47 : decode cX11_tellNeighbours 47 = .ok (.aload_n 0, 1) := getB' kX11_tellNeighbours 25 rfl
theorem dX11_tellNeighbours_48 : decode cX11_tellNeighbours 48 = .ok (.getfield 12, 3) := getB' kX11_tellNeighbours 26 rfl
theorem dX11_tellNeighbours_51 : decode cX11_tellNeighbours 51 = .ok (.aload_n 1, 1) := getB' kX11_tellNeighbours 27 rfl
theorem dX11_tellNeighbours_52 : decode cX11_tellNeighbours 52 = .ok (.getfield 378, 3) := getB' kX11_tellNeighbours 28 rfl
theorem dX11_tellNeighbours_55 : decode cX11_tellNeighbours 55 = .ok (.aload 7, 2) := getB' kX11_tellNeighbours 29 rfl
theorem dX11_tellNeighbours_57 : decode cX11_tellNeighbours 57 = .ok (.getfield 344, 3) := getB' kX11_tellNeighbours 30 rfl
theorem dX11_tellNeighbours_60 : decode cX11_tellNeighbours 60 = .ok (.aload 7, 2) := getB' kX11_tellNeighbours 31 rfl
theorem dX11_tellNeighbours_62 : decode cX11_tellNeighbours 62 = .ok (.getfield 347, 3) := getB' kX11_tellNeighbours 32 rfl
theorem dX11_tellNeighbours_65 : decode cX11_tellNeighbours 65 = .ok (.invokevirtual 350, 3) := getB' kX11_tellNeighbours 33 rfl
theorem dX11_tellNeighbours_68 : decode cX11_tellNeighbours 68 = .ok (.ifCond .eq 16, 3) := getB' kX11_tellNeighbours 34 rfl
theorem dX11_tellNeighbours_71 : decode cX11_tellNeighbours 71 = .ok (.iload_n 2, 1) := getB' kX11_tellNeighbours 35 rfl
theorem dX11_tellNeighbours_72 : decode cX11_tellNeighbours 72 = .ok (.aload 7, 2) := getB' kX11_tellNeighbours 36 rfl
theorem dX11_tellNeighbours_74 : decode cX11_tellNeighbours 74 = .ok (.getfield 176, 3) := getB' kX11_tellNeighbours 37 rfl
theorem dX11_tellNeighbours_77 : decode cX11_tellNeighbours 77 = .ok (.invokestatic 296, 3) := getB' kX11_tellNeighbours 38 rfl
theorem dX11_tellNeighbours_80 : decode cX11_tellNeighbours 80 = .ok (.istore_n 2, 1) := getB' kX11_tellNeighbours 39 rfl
theorem dX11_tellNeighbours_81 : decode cX11_tellNeighbours 81 = .ok (.goto 117, 3) := getB' kX11_tellNeighbours 40 rfl
theorem dX11_tellNeighbours_84 : decode cX11_tellNeighbours 84 = .ok (.aload 7, 2) := getB' kX11_tellNeighbours 41 rfl
theorem dX11_tellNeighbours_86 : decode cX11_tellNeighbours 86 = .ok (.getfield 387, 3) := getB' kX11_tellNeighbours 42 rfl
theorem dX11_tellNeighbours_89 : decode cX11_tellNeighbours 89 = .ok (.iconst 4, 1) := getB' kX11_tellNeighbours 43 rfl
theorem dX11_tellNeighbours_90 : decode cX11_tellNeighbours 90 = .ok (.if_icmp .ne 29, 3) := getB' kX11_tellNeighbours 44 rfl
theorem dX11_tellNeighbours_93 : decode cX11_tellNeighbours 93 = .ok (.aload_n 0, 1) := getB' kX11_tellNeighbours 45 rfl
theorem dX11_tellNeighbours_94 : decode cX11_tellNeighbours 94 = .ok (.getfield 12, 3) := getB' kX11_tellNeighbours 46 rfl
theorem dX11_tellNeighbours_97 : decode cX11_tellNeighbours 97 = .ok (.aload_n 1, 1) := getB' kX11_tellNeighbours 47 rfl
theorem dX11_tellNeighbours_98 : decode cX11_tellNeighbours 98 = .ok (.getfield 378, 3) := getB' kX11_tellNeighbours 48 rfl
theorem dX11_tellNeighbours_101 : decode cX11_tellNeighbours 101 = .ok (.aload 7, 2) := getB' kX11_tellNeighbours 49 rfl
theorem dX11_tellNeighbours_103 : decode cX11_tellNeighbours 103 = .ok (.getfield 344, 3) := getB' kX11_tellNeighbours 50 rfl
theorem dX11_tellNeighbours_106 : decode cX11_tellNeighbours 106 = .ok (.invokevirtual 388, 3) := getB' kX11_tellNeighbours 51 rfl
theorem dX11_tellNeighbours_109 : decode cX11_tellNeighbours 109 = .ok (.iconst 1, 1) := getB' kX11_tellNeighbours 52 rfl
theorem dX11_tellNeighbours_110 : decode cX11_tellNeighbours 110 = .ok (.if_icmp .gt 9, 3) := getB' kX11_tellNeighbours 53 rfl
theorem dX11_tellNeighbours_113 : decode cX11_tellNeighbours 113 = .ok (.iinc 3 1, 3) := getB' kX11_tellNeighbours 54 rfl
theorem dX11_tellNeighbours_116 : decode cX11_tellNeighbours 116 = .ok (.goto 82, 3) := getB' kX11_tellNeighbours 55 rfl
theorem dX11_tellNeighbours_119 : decode cX11_tellNeighbours 119 = .ok (.aload 7, 2) := getB' kX11_tellNeighbours 56 rfl
theorem dX11_tellNeighbours_121 : decode cX11_tellNeighbours 121 = .ok (.getfield 387, 3) := getB' kX11_tellNeighbours 57 rfl
theorem dX11_tellNeighbours_124 : decode cX11_tellNeighbours 124 = .ok (.iconst 5, 1) := getB' kX11_tellNeighbours 58 rfl
theorem dX11_tellNeighbours_125 : decode cX11_tellNeighbours 125 = .ok (.if_icmp .ne 29, 3) := getB' kX11_tellNeighbours 59 rfl
theorem dX11_tellNeighbours_128 : decode cX11_tellNeighbours 128 = .ok (.aload_n 0, 1) := getB' kX11_tellNeighbours 60 rfl
theorem dX11_tellNeighbours_129 : decode cX11_tellNeighbours 129 = .ok (.getfield 12, 3) := getB' kX11_tellNeighbours 61 rfl
theorem dX11_tellNeighbours_132 : decode cX11_tellNeighbours 132 = .ok (.aload_n 1, 1) := getB' kX11_tellNeighbours 62 rfl
theorem dX11_tellNeighbours_133 : decode cX11_tellNeighbours 133 = .ok (.getfield 378, 3) := getB' kX11_tellNeighbours 63 rfl
theorem dX11_tellNeighbours_136 : decode cX11_tellNeighbours 136 = .ok (.aload 7, 2) := getB' kX11_tellNeighbours 64 rfl
theorem dX11_tellNeighbours_138 : decode cX11_tellNeighbours 138 = .ok (.getfield 344, 3) := getB' kX11_tellNeighbours 65 rfl
theorem dX11_tellNeighbours_141 : decode cX11_tellNeighbours 141 = .ok (.invokevirtual 388, 3) := getB' kX11_tellNeighbours 66 rfl
theorem dX11_tellNeighbours_144 : decode cX11_tellNeighbours 144 = .ok (.iconst 2, 1) := getB' kX11_tellNeighbours 67 rfl
theorem dX11_tellNeighbours_145 : decode cX11_tellNeighbours 145 = .ok (.if_icmp .gt 9, 3) := getB' kX11_tellNeighbours 68 rfl
theorem dX11_tellNeighbours_148 : decode cX11_tellNeighbours 148 = .ok (.iinc 4 1, 3) := getB' kX11_tellNeighbours 69 rfl
theorem dX11_tellNeighbours_151 : decode cX11_tellNeighbours 151 = .ok (.goto 47, 3) := getB' kX11_tellNeighbours 70 rfl
theorem dX11_tellNeighbours_154 : decode cX11_tellNeighbours 154 = .ok (.aload 7, 2) := getB' kX11_tellNeighbours 71 rfl
theorem dX11_tellNeighbours_156 : decode cX11_tellNeighbours 156 = .ok (.getfield 387, 3) := getB' kX11_tellNeighbours 72 rfl
theorem dX11_tellNeighbours_159 : decode cX11_tellNeighbours 159 = .ok (.iconst 1, 1) := getB' kX11_tellNeighbours 73 rfl
theorem dX11_tellNeighbours_160 : decode cX11_tellNeighbours 160 = .ok (.if_icmp .ne 38, 3) := getB' kX11_tellNeighbours 74 rfl
theorem dX11_tellNeighbours_163 : decode cX11_tellNeighbours 163 = .ok (.aload 7, 2) := getB' kX11_tellNeighbours 75 rfl
theorem dX11_tellNeighbours_165 : decode cX11_tellNeighbours 165 = .ok (.getfield 173, 3) := getB' kX11_tellNeighbours 76 rfl
theorem dX11_tellNeighbours_168 : decode cX11_tellNeighbours 168 = .ok (.aload_n 1, 1) := getB' kX11_tellNeighbours 77 rfl
theorem dX11_tellNeighbours_169 : decode cX11_tellNeighbours 169 = .ok (.getfield 353, 3) := getB' kX11_tellNeighbours 78 rfl
theorem dX11_tellNeighbours_172 : decode cX11_tellNeighbours 172 = .ok (.if_icmp .eq 26, 3) := getB' kX11_tellNeighbours 79 rfl
theorem dX11_tellNeighbours_175 : decode cX11_tellNeighbours 175 = .ok (.aload_n 0, 1) := getB' kX11_tellNeighbours 80 rfl
theorem dX11_tellNeighbours_176 : decode cX11_tellNeighbours 176 = .ok (.getfield 12, 3) := getB' kX11_tellNeighbours 81 rfl
theorem dX11_tellNeighbours_179 : decode cX11_tellNeighbours 179 = .ok (.aload_n 1, 1) := getB' kX11_tellNeighbours 82 rfl
theorem dX11_tellNeighbours_180 : decode cX11_tellNeighbours 180 = .ok (.getfield 378, 3) := getB' kX11_tellNeighbours 83 rfl
theorem dX11_tellNeighbours_183 : decode cX11_tellNeighbours 183 = .ok (.aload 7, 2) := getB' kX11_tellNeighbours 84 rfl
theorem dX11_tellNeighbours_185 : decode cX11_tellNeighbours 185 = .ok (.getfield 344, 3) := getB' kX11_tellNeighbours 85 rfl
theorem dX11_tellNeighbours_188 : decode cX11_tellNeighbours 188 = .ok (.invokevirtual 388, 3) := getB' kX11_tellNeighbours 86 rfl
theorem dX11_tellNeighbours_191 : decode cX11_tellNeighbours 191 = .ok (.iconst 3, 1) := getB' kX11_tellNeighbours 87 rfl
theorem dX11_tellNeighbours_192 : decode cX11_tellNeighbours 192 = .ok (.if_icmp .gt 6, 3) := getB' kX11_tellNeighbours 88 rfl
theorem dX11_tellNeighbours_195 : decode cX11_tellNeighbours 195 = .ok (.iinc 5 1, 3) := getB' kX11_tellNeighbours 89 rfl
theorem dX11_tellNeighbours_198 : decode cX11_tellNeighbours 198 = .ok (.iinc 6 1, 3) := getB' kX11_tellNeighbours 90 rfl
theorem dX11_tellNeighbours_201 : decode cX11_tellNeighbours 201 = .ok (.goto (-188), 3) := getB' kX11_tellNeighbours 91 rfl
theorem dX11_tellNeighbours_204 : decode cX11_tellNeighbours 204 = .ok (.aload_n 0, 1) := getB' kX11_tellNeighbours 92 rfl
theorem dX11_tellNeighbours_205 : decode cX11_tellNeighbours 205 = .ok (.getfield 19, 3) := getB' kX11_tellNeighbours 93 rfl
theorem dX11_tellNeighbours_208 : decode cX11_tellNeighbours 208 = .ok (.getfield 372, 3) := getB' kX11_tellNeighbours 94 rfl
theorem dX11_tellNeighbours_211 : decode cX11_tellNeighbours 211 = .ok (.iconst 5, 1) := getB' kX11_tellNeighbours 95 rfl
theorem dX11_tellNeighbours_212 : decode cX11_tellNeighbours 212 = .ok (.iload_n 2, 1) := getB' kX11_tellNeighbours 96 rfl
theorem dX11_tellNeighbours_213 : decode cX11_tellNeighbours 213 = .ok (.invokestatic 108, 3) := getB' kX11_tellNeighbours 97 rfl
theorem dX11_tellNeighbours_216 : decode cX11_tellNeighbours 216 = .ok (.aload_n 0, 1) := getB' kX11_tellNeighbours 98 rfl
theorem dX11_tellNeighbours_217 : decode cX11_tellNeighbours 217 = .ok (.getfield 19, 3) := getB' kX11_tellNeighbours 99 rfl
theorem dX11_tellNeighbours_220 : decode cX11_tellNeighbours 220 = .ok (.getfield 372, 3) := getB' kX11_tellNeighbours 100 rfl
theorem dX11_tellNeighbours_223 : decode cX11_tellNeighbours 223 = .ok (.bipush 6, 2) := getB' kX11_tellNeighbours 101 rfl
theorem dX11_tellNeighbours_225 : decode cX11_tellNeighbours 225 = .ok (.iload_n 3, 1) := getB' kX11_tellNeighbours 102 rfl
theorem dX11_tellNeighbours_226 : decode cX11_tellNeighbours 226 = .ok (.invokestatic 108, 3) := getB' kX11_tellNeighbours 103 rfl
theorem dX11_tellNeighbours_229 : decode cX11_tellNeighbours 229 = .ok (.aload_n 0, 1) := getB' kX11_tellNeighbours 104 rfl
theorem dX11_tellNeighbours_230 : decode cX11_tellNeighbours 230 = .ok (.getfield 19, 3) := getB' kX11_tellNeighbours 105 rfl
theorem dX11_tellNeighbours_233 : decode cX11_tellNeighbours 233 = .ok (.getfield 372, 3) := getB' kX11_tellNeighbours 106 rfl
theorem dX11_tellNeighbours_236 : decode cX11_tellNeighbours 236 = .ok (.bipush 7, 2) := getB' kX11_tellNeighbours 107 rfl
theorem dX11_tellNeighbours_238 : decode cX11_tellNeighbours 238 = .ok (.iload 4, 2) := getB' kX11_tellNeighbours 108 rfl
theorem dX11_tellNeighbours_240 : decode cX11_tellNeighbours 240 = .ok (.invokestatic 108, 3) := getB' kX11_tellNeighbours 109 rfl
theorem dX11_tellNeighbours_243 : decode cX11_tellNeighbours 243 = .ok (.aload_n 0, 1) := getB' kX11_tellNeighbours 110 rfl
theorem dX11_tellNeighbours_244 : decode cX11_tellNeighbours 244 = .ok (.getfield 19, 3) := getB' kX11_tellNeighbours 111 rfl
theorem dX11_tellNeighbours_247 : decode cX11_tellNeighbours 247 = .ok (.getfield 372, 3) := getB' kX11_tellNeighbours 112 rfl
theorem dX11_tellNeighbours_250 : decode cX11_tellNeighbours 250 = .ok (.bipush 8, 2) := getB' kX11_tellNeighbours 113 rfl
theorem dX11_tellNeighbours_252 : decode cX11_tellNeighbours 252 = .ok (.iload 5, 2) := getB' kX11_tellNeighbours 114 rfl
theorem dX11_tellNeighbours_254 : decode cX11_tellNeighbours 254 = .ok (.invokestatic 108, 3) := getB' kX11_tellNeighbours 115 rfl
theorem dX11_tellNeighbours_257 : decode cX11_tellNeighbours 257 = .ok (.return_, 1) := getB' kX11_tellNeighbours 116 rfl
def LX11_ship : List (Nat × Instr × Nat) := [(0, .aload_n 0, 1), (1, .iload_n 1, 1), (2, .invokevirtual 151, 3), (5, .ifnull 24, 3), (8, .iload_n 2, 1), (9, .iconst 1, 1), (10, .sipush 10000, 3), (13, .invokestatic 112, 3), (16, .ifCond .eq 13, 3), (19, .iload_n 3, 1), (20, .iconst 0, 1), (21, .bipush 100, 2), (23, .invokestatic 112, 3), (26, .ifCond .ne 5, 3), (29, .iconst (-1), 1), (30, .ireturn, 1), (31, .aload_n 0, 1), (32, .getfield 64, 3), (35, .aload_n 0, 1), (36, .getfield 60, 3), (39, .arraylength, 1), (40, .if_icmp .lt 5, 3), (43, .iconst (-1), 1), (44, .ireturn, 1), (45, .aload_n 0, 1), (46, .getfield 60, 3), (49, .aload_n 0, 1), (50, .getfield 64, 3), (53, .new 58, 3), (56, .dup, 1), (57, .iload_n 1, 1), (58, .iload_n 2, 1), (59, .iload_n 3, 1), (60, .invokespecial 391, 3), (63, .aastore, 1), (64, .aload_n 0, 1), (65, .dup, 1), (66, .getfield 64, 3), (69, .dup_x1, 1), (70, .iconst 1, 1), (71, .iadd, 1), (72, .putfield 64, 3), (75, .ireturn, 1)]
theorem kX11_ship : chkB cX11_ship LX11_ship = true := by decide +kernel
theorem dX11_ship_0 : decode cX11_ship 0 = .ok (.aload_n 0, 1) := getB' kX11_ship 0 rfl
theorem dX11_ship_1 : decode cX11_ship 1 = .ok (.iload_n 1, 1) := getB' kX11_ship 1 rfl
theorem dX11_ship_2 : decode cX11_ship 2 = .ok (.invokevirtual 151, 3) := getB' kX11_ship 2 rfl
theorem dX11_ship_5 : decode cX11_ship 5 = .ok (.ifnull 24, 3) := getB' kX11_ship 3 rfl
theorem dX11_ship_8 : decode cX11_ship 8 = .ok (.iload_n 2, 1) := getB' kX11_ship 4 rfl
theorem dX11_ship_9 : decode cX11_ship 9 = .ok (.iconst 1, 1) := getB' kX11_ship 5 rfl
theorem dX11_ship_10 : decode cX11_ship 10 = .ok (.sipush 10000, 3) := getB' kX11_ship 6 rfl
theorem dX11_ship_13 : decode cX11_ship 13 = .ok (.invokestatic 112, 3) := getB' kX11_ship 7 rfl
theorem dX11_ship_16 : decode cX11_ship 16 = .ok (.ifCond .eq 13, 3) := getB' kX11_ship 8 rfl
theorem dX11_ship_19 : decode cX11_ship 19 = .ok (.iload_n 3, 1) := getB' kX11_ship 9 rfl
theorem dX11_ship_20 : decode cX11_ship 20 = .ok (.iconst 0, 1) := getB' kX11_ship 10 rfl
theorem dX11_ship_21 : decode cX11_ship 21 = .ok (.bipush 100, 2) := getB' kX11_ship 11 rfl
theorem dX11_ship_23 : decode cX11_ship 23 = .ok (.invokestatic 112, 3) := getB' kX11_ship 12 rfl
theorem dX11_ship_26 : decode cX11_ship 26 = .ok (.ifCond .ne 5, 3) := getB' kX11_ship 13 rfl
theorem dX11_ship_29 : decode cX11_ship 29 = .ok (.iconst (-1), 1) := getB' kX11_ship 14 rfl
theorem dX11_ship_30 : decode cX11_ship 30 = .ok (.ireturn, 1) := getB' kX11_ship 15 rfl
theorem dX11_ship_31 : decode cX11_ship 31 = .ok (.aload_n 0, 1) := getB' kX11_ship 16 rfl
theorem dX11_ship_32 : decode cX11_ship 32 = .ok (.getfield 64, 3) := getB' kX11_ship 17 rfl
theorem dX11_ship_35 : decode cX11_ship 35 = .ok (.aload_n 0, 1) := getB' kX11_ship 18 rfl
theorem dX11_ship_36 : decode cX11_ship 36 = .ok (.getfield 60, 3) := getB' kX11_ship 19 rfl
theorem dX11_ship_39 : decode cX11_ship 39 = .ok (.arraylength, 1) := getB' kX11_ship 20 rfl
theorem dX11_ship_40 : decode cX11_ship 40 = .ok (.if_icmp .lt 5, 3) := getB' kX11_ship 21 rfl
theorem dX11_ship_43 : decode cX11_ship 43 = .ok (.iconst (-1), 1) := getB' kX11_ship 22 rfl
theorem dX11_ship_44 : decode cX11_ship 44 = .ok (.ireturn, 1) := getB' kX11_ship 23 rfl
theorem dX11_ship_45 : decode cX11_ship 45 = .ok (.aload_n 0, 1) := getB' kX11_ship 24 rfl
theorem dX11_ship_46 : decode cX11_ship 46 = .ok (.getfield 60, 3) := getB' kX11_ship 25 rfl
theorem dX11_ship_49 : decode cX11_ship 49 = .ok (.aload_n 0, 1) := getB' kX11_ship 26 rfl
theorem dX11_ship_50 : decode cX11_ship 50 = .ok (.getfield 64, 3) := getB' kX11_ship 27 rfl
theorem dX11_ship_53 : decode cX11_ship 53 = .ok (.new 58, 3) := getB' kX11_ship 28 rfl
theorem dX11_ship_56 : decode cX11_ship 56 = .ok (.dup, 1) := getB' kX11_ship 29 rfl
theorem dX11_ship_57 : decode cX11_ship 57 = .ok (.iload_n 1, 1) := getB' kX11_ship 30 rfl
theorem dX11_ship_58 : decode cX11_ship 58 = .ok (.iload_n 2, 1) := getB' kX11_ship 31 rfl
theorem dX11_ship_59 : decode cX11_ship 59 = .ok (.iload_n 3, 1) := getB' kX11_ship 32 rfl
theorem dX11_ship_60 : decode cX11_ship 60 = .ok (.invokespecial 391, 3) := getB' kX11_ship 33 rfl
theorem dX11_ship_63 : decode cX11_ship 63 = .ok (.aastore, 1) := getB' kX11_ship 34 rfl
theorem dX11_ship_64 : decode cX11_ship 64 = .ok (.aload_n 0, 1) := getB' kX11_ship 35 rfl
theorem dX11_ship_65 : decode cX11_ship 65 = .ok (.dup, 1) := getB' kX11_ship 36 rfl
theorem dX11_ship_66 : decode cX11_ship 66 = .ok (.getfield 64, 3) := getB' kX11_ship 37 rfl
theorem dX11_ship_69 : decode cX11_ship 69 = .ok (.dup_x1, 1) := getB' kX11_ship 38 rfl
theorem dX11_ship_70 : decode cX11_ship 70 = .ok (.iconst 1, 1) := getB' kX11_ship 39 rfl
theorem dX11_ship_71 : decode cX11_ship 71 = .ok (.iadd, 1) := getB' kX11_ship 40 rfl
theorem dX11_ship_72 : decode cX11_ship 72 = .ok (.putfield 64, 3) := getB' kX11_ship 41 rfl
theorem dX11_ship_75 : decode cX11_ship 75 = .ok (.ireturn, 1) := getB' kX11_ship 42 rfl
def LX11_cover : List (Nat × Instr × Nat) := [(0, .iload_n 1, 1), (1, .invokestatic 394, 3), (4, .ifCond .eq 23, 3), (7, .iload_n 2, 1), (8, .iconst 0, 1), (9, .bipush 11, 2), (11, .invokestatic 112, 3), (14, .ifCond .eq 13, 3), (17, .iload_n 3, 1), (18, .iconst 0, 1), (19, .bipush 100, 2), (21, .invokestatic 112, 3), (24, .ifCond .ne 5, 3), (27, .iconst 0, 1), (28, .ireturn, 1), (29, .aload_n 0, 1), (30, .getfield 12, 3), (33, .getfield 397, 3), (36, .iload_n 1, 1), (37, .bipush 12, 2), (39, .imul, 1), (40, .iload_n 2, 1), (41, .iadd, 1), (42, .iload_n 3, 1), (43, .invokestatic 108, 3), (46, .iconst 1, 1), (47, .ireturn, 1)]
theorem kX11_cover : chkB cX11_cover LX11_cover = true := by decide +kernel
theorem dX11_cover_0 : decode cX11_cover 0 = .ok (.iload_n 1, 1) := getB' kX11_cover 0 rfl
theorem dX11_cover_1 : decode cX11_cover 1 = .ok (.invokestatic 394, 3) := getB' kX11_cover 1 rfl
theorem dX11_cover_4 : decode cX11_cover 4 = .ok (.ifCond .eq 23, 3) := getB' kX11_cover 2 rfl
theorem dX11_cover_7 : decode cX11_cover 7 = .ok (.iload_n 2, 1) := getB' kX11_cover 3 rfl
theorem dX11_cover_8 : decode cX11_cover 8 = .ok (.iconst 0, 1) := getB' kX11_cover 4 rfl
theorem dX11_cover_9 : decode cX11_cover 9 = .ok (.bipush 11, 2) := getB' kX11_cover 5 rfl
theorem dX11_cover_11 : decode cX11_cover 11 = .ok (.invokestatic 112, 3) := getB' kX11_cover 6 rfl
theorem dX11_cover_14 : decode cX11_cover 14 = .ok (.ifCond .eq 13, 3) := getB' kX11_cover 7 rfl
theorem dX11_cover_17 : decode cX11_cover 17 = .ok (.iload_n 3, 1) := getB' kX11_cover 8 rfl
theorem dX11_cover_18 : decode cX11_cover 18 = .ok (.iconst 0, 1) := getB' kX11_cover 9 rfl
theorem dX11_cover_19 : decode cX11_cover 19 = .ok (.bipush 100, 2) := getB' kX11_cover 10 rfl
theorem dX11_cover_21 : decode cX11_cover 21 = .ok (.invokestatic 112, 3) := getB' kX11_cover 11 rfl
theorem dX11_cover_24 : decode cX11_cover 24 = .ok (.ifCond .ne 5, 3) := getB' kX11_cover 12 rfl
theorem dX11_cover_27 : decode cX11_cover 27 = .ok (.iconst 0, 1) := getB' kX11_cover 13 rfl
theorem dX11_cover_28 : decode cX11_cover 28 = .ok (.ireturn, 1) := getB' kX11_cover 14 rfl
theorem dX11_cover_29 : decode cX11_cover 29 = .ok (.aload_n 0, 1) := getB' kX11_cover 15 rfl
theorem dX11_cover_30 : decode cX11_cover 30 = .ok (.getfield 12, 3) := getB' kX11_cover 16 rfl
theorem dX11_cover_33 : decode cX11_cover 33 = .ok (.getfield 397, 3) := getB' kX11_cover 17 rfl
theorem dX11_cover_36 : decode cX11_cover 36 = .ok (.iload_n 1, 1) := getB' kX11_cover 18 rfl
theorem dX11_cover_37 : decode cX11_cover 37 = .ok (.bipush 12, 2) := getB' kX11_cover 19 rfl
theorem dX11_cover_39 : decode cX11_cover 39 = .ok (.imul, 1) := getB' kX11_cover 20 rfl
theorem dX11_cover_40 : decode cX11_cover 40 = .ok (.iload_n 2, 1) := getB' kX11_cover 21 rfl
theorem dX11_cover_41 : decode cX11_cover 41 = .ok (.iadd, 1) := getB' kX11_cover 22 rfl
theorem dX11_cover_42 : decode cX11_cover 42 = .ok (.iload_n 3, 1) := getB' kX11_cover 23 rfl
theorem dX11_cover_43 : decode cX11_cover 43 = .ok (.invokestatic 108, 3) := getB' kX11_cover 24 rfl
theorem dX11_cover_46 : decode cX11_cover 46 = .ok (.iconst 1, 1) := getB' kX11_cover 25 rfl
theorem dX11_cover_47 : decode cX11_cover 47 = .ok (.ireturn, 1) := getB' kX11_cover 26 rfl
def LX11_sea : List (Nat × Instr × Nat) := [(0, .iload_n 1, 1), (1, .invokestatic 394, 3), (4, .ifCond .eq 13, 3), (7, .iload_n 2, 1), (8, .iconst 1, 1), (9, .bipush 90, 2), (11, .invokestatic 112, 3), (14, .ifCond .ne 5, 3), (17, .iconst 0, 1), (18, .ireturn, 1), (19, .aload_n 0, 1), (20, .getfield 12, 3), (23, .getfield 400, 3), (26, .iload_n 1, 1), (27, .iload_n 2, 1), (28, .invokestatic 108, 3), (31, .iconst 1, 1), (32, .ireturn, 1)]
theorem kX11_sea : chkB cX11_sea LX11_sea = true := by decide +kernel
theorem dX11_sea_0 : decode cX11_sea 0 = .ok (.iload_n 1, 1) := getB' kX11_sea 0 rfl
theorem dX11_sea_1 : decode cX11_sea 1 = .ok (.invokestatic 394, 3) := getB' kX11_sea 1 rfl
theorem dX11_sea_4 : decode cX11_sea 4 = .ok (.ifCond .eq 13, 3) := getB' kX11_sea 2 rfl
theorem dX11_sea_7 : decode cX11_sea 7 = .ok (.iload_n 2, 1) := getB' kX11_sea 3 rfl
theorem dX11_sea_8 : decode cX11_sea 8 = .ok (.iconst 1, 1) := getB' kX11_sea 4 rfl
theorem dX11_sea_9 : decode cX11_sea 9 = .ok (.bipush 90, 2) := getB' kX11_sea 5 rfl
theorem dX11_sea_11 : decode cX11_sea 11 = .ok (.invokestatic 112, 3) := getB' kX11_sea 6 rfl
theorem dX11_sea_14 : decode cX11_sea 14 = .ok (.ifCond .ne 5, 3) := getB' kX11_sea 7 rfl
theorem dX11_sea_17 : decode cX11_sea 17 = .ok (.iconst 0, 1) := getB' kX11_sea 8 rfl
theorem dX11_sea_18 : decode cX11_sea 18 = .ok (.ireturn, 1) := getB' kX11_sea 9 rfl
theorem dX11_sea_19 : decode cX11_sea 19 = .ok (.aload_n 0, 1) := getB' kX11_sea 10 rfl
theorem dX11_sea_20 : decode cX11_sea 20 = .ok (.getfield 12, 3) := getB' kX11_sea 11 rfl
theorem dX11_sea_23 : decode cX11_sea 23 = .ok (.getfield 400, 3) := getB' kX11_sea 12 rfl
theorem dX11_sea_26 : decode cX11_sea 26 = .ok (.iload_n 1, 1) := getB' kX11_sea 13 rfl
theorem dX11_sea_27 : decode cX11_sea 27 = .ok (.iload_n 2, 1) := getB' kX11_sea 14 rfl
theorem dX11_sea_28 : decode cX11_sea 28 = .ok (.invokestatic 108, 3) := getB' kX11_sea 15 rfl
theorem dX11_sea_31 : decode cX11_sea 31 = .ok (.iconst 1, 1) := getB' kX11_sea 16 rfl
theorem dX11_sea_32 : decode cX11_sea 32 = .ok (.ireturn, 1) := getB' kX11_sea 17 rfl
def LX11_voyage : List (Nat × Instr × Nat) := [(0, .aload_n 0, 1), (1, .iload_n 1, 1), (2, .invokevirtual 403, 3), (5, .astore 5, 2), (7, .aload_n 0, 1), (8, .iload_n 3, 1), (9, .invokevirtual 195, 3), (12, .astore 6, 2), (14, .aload 5, 2), (16, .ifnull 29, 3), (19, .iload_n 2, 1), (20, .invokestatic 394, 3), (23, .ifCond .eq 22, 3), (26, .aload 6, 2), (28, .ifnull 17, 3), (31, .iload 4, 2), (33, .iconst 0, 1), (34, .aload 5, 2), (36, .getfield 407, 3), (39, .invokestatic 112, 3), (42, .ifCond .ne 5, 3), (45, .iconst 0, 1), (46, .ireturn, 1), (47, .aload 5, 2), (49, .getfield 410, 3), (52, .ifCond .ne 18, 3), (55, .aload_n 0, 1), (56, .getfield 12, 3), (59, .aload 6, 2), (61, .getfield 344, 3), (64, .invokevirtual 413, 3), (67, .ifCond .ne 5, 3), (70, .iconst 0, 1), (71, .ireturn, 1), (72, .aload 5, 2), (74, .iload_n 2, 1), (75, .iload_n 3, 1), (76, .iload 4, 2), (78, .aload_n 0, 1), (79, .getfield 12, 3), (82, .getfield 145, 3), (85, .aload_n 0, 1), (86, .getfield 12, 3), (89, .getfield 400, 3), (92, .iload_n 2, 1), (93, .invokestatic 253, 3), (96, .invokevirtual 416, 3), (99, .aload_n 0, 1), (100, .iconst 0, 1), (101, .iload 4, 2), (103, .invokevirtual 192, 3), (106, .iconst 1, 1), (107, .ireturn, 1)]
theorem kX11_voyage : chkB cX11_voyage LX11_voyage = true := by decide +kernel
theorem dX11_voyage_0 : decode cX11_voyage 0 = .ok (.aload_n 0, 1) := getB' kX11_voyage 0 rfl
theorem dX11_voyage_1 : decode cX11_voyage 1 = .ok (.iload_n 1, 1) := getB' kX11_voyage 1 rfl
theorem dX11_voyage_2 : decode cX11_voyage 2 = .ok (.invokevirtual 403, 3) := getB' kX11_voyage 2 rfl
theorem dX11_voyage_5 : decode cX11_voyage 5 = .ok (.astore 5, 2) := getB' kX11_voyage 3 rfl
theorem dX11_voyage_7 : decode cX11_voyage 7 = .ok (.aload_n 0, 1) := getB' kX11_voyage 4 rfl
theorem dX11_voyage_8 : decode cX11_voyage 8 = .ok (.iload_n 3, 1) := getB' kX11_voyage 5 rfl
theorem dX11_voyage_9 : decode cX11_voyage 9 = .ok (.invokevirtual 195, 3) := getB' kX11_voyage 6 rfl
theorem dX11_voyage_12 : decode cX11_voyage 12 = .ok (.astore 6, 2) := getB' kX11_voyage 7 rfl
theorem dX11_voyage_14 : decode cX11_voyage 14 = .ok (.aload 5, 2) := getB' kX11_voyage 8 rfl
theorem dX11_voyage_16 : decode cX11_voyage 16 = .ok (.ifnull 29, 3) := getB' kX11_voyage 9 rfl
theorem dX11_voyage_19 : decode cX11_voyage 19 = .ok (.iload_n 2, 1) := getB' kX11_voyage 10 rfl
theorem dX11_voyage_20 : decode cX11_voyage 20 = .ok (.invokestatic 394, 3) := getB' kX11_voyage 11 rfl
theorem dX11_voyage_23 : decode cX11_voyage 23 = .ok (.ifCond .eq 22, 3) := getB' kX11_voyage 12 rfl
theorem dX11_voyage_26 : decode cX11_voyage 26 = .ok (.aload 6, 2) := getB' kX11_voyage 13 rfl
theorem dX11_voyage_28 : decode cX11_voyage 28 = .ok (.ifnull 17, 3) := getB' kX11_voyage 14 rfl
theorem dX11_voyage_31 : decode cX11_voyage 31 = .ok (.iload 4, 2) := getB' kX11_voyage 15 rfl
theorem dX11_voyage_33 : decode cX11_voyage 33 = .ok (.iconst 0, 1) := getB' kX11_voyage 16 rfl
theorem dX11_voyage_34 : decode cX11_voyage 34 = .ok (.aload 5, 2) := getB' kX11_voyage 17 rfl
theorem dX11_voyage_36 : decode cX11_voyage 36 = .ok (.getfield 407, 3) := getB' kX11_voyage 18 rfl
theorem dX11_voyage_39 : decode cX11_voyage 39 = .ok (.invokestatic 112, 3) := getB' kX11_voyage 19 rfl
theorem dX11_voyage_42 : decode cX11_voyage 42 = .ok (.ifCond .ne 5, 3) := getB' kX11_voyage 20 rfl
theorem dX11_voyage_45 : decode cX11_voyage 45 = .ok (.iconst 0, 1) := getB' kX11_voyage 21 rfl
theorem dX11_voyage_46 : decode cX11_voyage 46 = .ok (.ireturn, 1) := getB' kX11_voyage 22 rfl
theorem dX11_voyage_47 : decode cX11_voyage 47 = .ok (.aload 5, 2) := getB' kX11_voyage 23 rfl
theorem dX11_voyage_49 : decode cX11_voyage 49 = .ok (.getfield 410, 3) := getB' kX11_voyage 24 rfl
theorem dX11_voyage_52 : decode cX11_voyage 52 = .ok (.ifCond .ne 18, 3) := getB' kX11_voyage 25 rfl
theorem dX11_voyage_55 : decode cX11_voyage 55 = .ok (.aload_n 0, 1) := getB' kX11_voyage 26 rfl
theorem dX11_voyage_56 : decode cX11_voyage 56 = .ok (.getfield 12, 3) := getB' kX11_voyage 27 rfl
theorem dX11_voyage_59 : decode cX11_voyage 59 = .ok (.aload 6, 2) := getB' kX11_voyage 28 rfl
theorem dX11_voyage_61 : decode cX11_voyage 61 = .ok (.getfield 344, 3) := getB' kX11_voyage 29 rfl
theorem dX11_voyage_64 : decode cX11_voyage 64 = .ok (.invokevirtual 413, 3) := getB' kX11_voyage 30 rfl
theorem dX11_voyage_67 : decode cX11_voyage 67 = .ok (.ifCond .ne 5, 3) := getB' kX11_voyage 31 rfl
theorem dX11_voyage_70 : decode cX11_voyage 70 = .ok (.iconst 0, 1) := getB' kX11_voyage 32 rfl
theorem dX11_voyage_71 : decode cX11_voyage 71 = .ok (.ireturn, 1) := getB' kX11_voyage 33 rfl
theorem dX11_voyage_72 : decode cX11_voyage 72 = .ok (.aload 5, 2) := getB' kX11_voyage 34 rfl
theorem dX11_voyage_74 : decode cX11_voyage 74 = .ok (.iload_n 2, 1) := getB' kX11_voyage 35 rfl
theorem dX11_voyage_75 : decode cX11_voyage 75 = .ok (.iload_n 3, 1) := getB' kX11_voyage 36 rfl
theorem dX11_voyage_76 : decode cX11_voyage 76 = .ok (.iload 4, 2) := getB' kX11_voyage 37 rfl
theorem dX11_voyage_78 : decode cX11_voyage 78 = .ok (.aload_n 0, 1) := getB' kX11_voyage 38 rfl
theorem dX11_voyage_79 : decode cX11_voyage 79 = .ok (.getfield 12, 3) := getB' kX11_voyage 39 rfl
theorem dX11_voyage_82 : decode cX11_voyage 82 = .ok (.getfield 145, 3) := getB' kX11_voyage 40 rfl
theorem dX11_voyage_85 : decode cX11_voyage 85 = .ok (.aload_n 0, 1) := getB' kX11_voyage 41 rfl
theorem dX11_voyage_86 : decode cX11_voyage 86 = .ok (.getfield 12, 3) := getB' kX11_voyage 42 rfl
theorem dX11_voyage_89 : decode cX11_voyage 89 = .ok (.getfield 400, 3) := getB' kX11_voyage 43 rfl
theorem dX11_voyage_92 : decode cX11_voyage 92 = .ok (.iload_n 2, 1) := getB' kX11_voyage 44 rfl
theorem dX11_voyage_93 : decode cX11_voyage 93 = .ok (.invokestatic 253, 3) := getB' kX11_voyage 45 rfl
theorem dX11_voyage_96 : decode cX11_voyage 96 = .ok (.invokevirtual 416, 3) := getB' kX11_voyage 46 rfl
theorem dX11_voyage_99 : decode cX11_voyage 99 = .ok (.aload_n 0, 1) := getB' kX11_voyage 47 rfl
theorem dX11_voyage_100 : decode cX11_voyage 100 = .ok (.iconst 0, 1) := getB' kX11_voyage 48 rfl
theorem dX11_voyage_101 : decode cX11_voyage 101 = .ok (.iload 4, 2) := getB' kX11_voyage 49 rfl
theorem dX11_voyage_103 : decode cX11_voyage 103 = .ok (.invokevirtual 192, 3) := getB' kX11_voyage 50 rfl
theorem dX11_voyage_106 : decode cX11_voyage 106 = .ok (.iconst 1, 1) := getB' kX11_voyage 51 rfl
theorem dX11_voyage_107 : decode cX11_voyage 107 = .ok (.ireturn, 1) := getB' kX11_voyage 52 rfl
def LX11_sledge : List (Nat × Instr × Nat) := [(0, .aload_n 0, 1), (1, .iload_n 1, 1), (2, .invokevirtual 195, 3), (5, .astore 4, 2), (7, .aload_n 0, 1), (8, .iload_n 2, 1), (9, .invokevirtual 195, 3), (12, .astore 5, 2), (14, .aload 4, 2), (16, .ifnull 26, 3), (19, .aload 5, 2), (21, .ifnull 21, 3), (24, .iload_n 1, 1), (25, .iload_n 2, 1), (26, .if_icmp .eq 16, 3), (29, .aload 4, 2), (31, .getfield 173, 3), (34, .aload 5, 2), (36, .getfield 173, 3), (39, .if_icmp .eq 5, 3), (42, .iconst (-1), 1), (43, .ireturn, 1), (44, .iload_n 3, 1), (45, .iconst 1, 1), (46, .sipush 500, 3), (49, .invokestatic 112, 3), (52, .ifCond .eq 22, 3), (55, .iload_n 3, 1), (56, .aload 4, 2), (58, .getfield 186, 3), (61, .if_icmp .gt 13, 3), (64, .aload_n 0, 1), (65, .getfield 72, 3), (68, .invokevirtual 265, 3), (71, .ifCond .eq 5, 3), (74, .iconst (-1), 1), (75, .ireturn, 1), (76, .aload_n 0, 1), (77, .getfield 12, 3), (80, .aload 4, 2), (82, .getfield 344, 3), (85, .aload 5, 2), (87, .getfield 344, 3), (90, .invokevirtual 418, 3), (93, .istore 6, 2), (95, .iload 6, 2), (97, .iconst (-1), 1), (98, .if_icmp .eq 9, 3), (101, .iload 6, 2), (103, .iload_n 3, 1), (104, .if_icmp .lt 5, 3), (107, .iconst (-1), 1), (108, .ireturn, 1), (109, .aload 4, 2), (111, .dup, 1), (112, .getfield 186, 3), (115, .iload_n 3, 1), (116, .isub, 1), (117, .putfield 186, 3), (120, .aload_n 0, 1), (121, .iconst 1, 1), (122, .iload 6, 2), (124, .invokevirtual 192, 3), (127, .aload_n 0, 1), (128, .getfield 12, 3), (131, .getfield 145, 3), (134, .iconst 1, 1), (135, .iload 6, 2), (137, .invokestatic 296, 3), (140, .iadd, 1), (141, .istore 7, 2), (143, .aload_n 0, 1), (144, .getfield 72, 3), (147, .iload_n 2, 1), (148, .aload 5, 2), (150, .getfield 344, 3), (153, .iload 7, 2), (155, .iload_n 3, 1), (156, .iload 6, 2), (158, .isub, 1), (159, .iconst 1, 1), (160, .invokevirtual 205, 3), (163, .pop, 1), (164, .iload 7, 2), (166, .ireturn, 1)]
theorem kX11_sledge : chkB cX11_sledge LX11_sledge = true := by decide +kernel
theorem dX11_sledge_0 : decode cX11_sledge 0 = .ok (.aload_n 0, 1) := getB' kX11_sledge 0 rfl
theorem dX11_sledge_1 : decode cX11_sledge 1 = .ok (.iload_n 1, 1) := getB' kX11_sledge 1 rfl
theorem dX11_sledge_2 : decode cX11_sledge 2 = .ok (.invokevirtual 195, 3) := getB' kX11_sledge 2 rfl
theorem dX11_sledge_5 : decode cX11_sledge 5 = .ok (.astore 4, 2) := getB' kX11_sledge 3 rfl
theorem dX11_sledge_7 : decode cX11_sledge 7 = .ok (.aload_n 0, 1) := getB' kX11_sledge 4 rfl
theorem dX11_sledge_8 : decode cX11_sledge 8 = .ok (.iload_n 2, 1) := getB' kX11_sledge 5 rfl
theorem dX11_sledge_9 : decode cX11_sledge 9 = .ok (.invokevirtual 195, 3) := getB' kX11_sledge 6 rfl
theorem dX11_sledge_12 : decode cX11_sledge 12 = .ok (.astore 5, 2) := getB' kX11_sledge 7 rfl
theorem dX11_sledge_14 : decode cX11_sledge 14 = .ok (.aload 4, 2) := getB' kX11_sledge 8 rfl
theorem dX11_sledge_16 : decode cX11_sledge 16 = .ok (.ifnull 26, 3) := getB' kX11_sledge 9 rfl
theorem dX11_sledge_19 : decode cX11_sledge 19 = .ok (.aload 5, 2) := getB' kX11_sledge 10 rfl
theorem dX11_sledge_21 : decode cX11_sledge 21 = .ok (.ifnull 21, 3) := getB' kX11_sledge 11 rfl
theorem dX11_sledge_24 : decode cX11_sledge 24 = .ok (.iload_n 1, 1) := getB' kX11_sledge 12 rfl
theorem dX11_sledge_25 : decode cX11_sledge 25 = .ok (.iload_n 2, 1) := getB' kX11_sledge 13 rfl
theorem dX11_sledge_26 : decode cX11_sledge 26 = .ok (.if_icmp .eq 16, 3) := getB' kX11_sledge 14 rfl
theorem dX11_sledge_29 : decode cX11_sledge 29 = .ok (.aload 4, 2) := getB' kX11_sledge 15 rfl
theorem dX11_sledge_31 : decode cX11_sledge 31 = .ok (.getfield 173, 3) := getB' kX11_sledge 16 rfl
theorem dX11_sledge_34 : decode cX11_sledge 34 = .ok (.aload 5, 2) := getB' kX11_sledge 17 rfl
theorem dX11_sledge_36 : decode cX11_sledge 36 = .ok (.getfield 173, 3) := getB' kX11_sledge 18 rfl
theorem dX11_sledge_39 : decode cX11_sledge 39 = .ok (.if_icmp .eq 5, 3) := getB' kX11_sledge 19 rfl
theorem dX11_sledge_42 : decode cX11_sledge 42 = .ok (.iconst (-1), 1) := getB' kX11_sledge 20 rfl
theorem dX11_sledge_43 : decode cX11_sledge 43 = .ok (.ireturn, 1) := getB' kX11_sledge 21 rfl
theorem dX11_sledge_44 : decode cX11_sledge 44 = .ok (.iload_n 3, 1) := getB' kX11_sledge 22 rfl
theorem dX11_sledge_45 : decode cX11_sledge 45 = .ok (.iconst 1, 1) := getB' kX11_sledge 23 rfl
theorem dX11_sledge_46 : decode cX11_sledge 46 = .ok (.sipush 500, 3) := getB' kX11_sledge 24 rfl
theorem dX11_sledge_49 : decode cX11_sledge 49 = .ok (.invokestatic 112, 3) := getB' kX11_sledge 25 rfl
theorem dX11_sledge_52 : decode cX11_sledge 52 = .ok (.ifCond .eq 22, 3) := getB' kX11_sledge 26 rfl
theorem dX11_sledge_55 : decode cX11_sledge 55 = .ok (.iload_n 3, 1) := getB' kX11_sledge 27 rfl
theorem dX11_sledge_56 : decode cX11_sledge 56 = .ok (.aload 4, 2) := getB' kX11_sledge 28 rfl
theorem dX11_sledge_58 : decode cX11_sledge 58 = .ok (.getfield 186, 3) := getB' kX11_sledge 29 rfl
theorem dX11_sledge_61 : decode cX11_sledge 61 = .ok (.if_icmp .gt 13, 3) := getB' kX11_sledge 30 rfl
theorem dX11_sledge_64 : decode cX11_sledge 64 = .ok (.aload_n 0, 1) := getB' kX11_sledge 31 rfl
theorem dX11_sledge_65 : decode cX11_sledge 65 = .ok (.getfield 72, 3) := getB' kX11_sledge 32 rfl
theorem dX11_sledge_68 : decode cX11_sledge 68 = .ok (.invokevirtual 265, 3) := getB' kX11_sledge 33 rfl
theorem dX11_sledge_71 : decode cX11_sledge 71 = .ok (.ifCond .eq 5, 3) := getB' kX11_sledge 34 rfl
theorem dX11_sledge_74 : decode cX11_sledge 74 = .ok (.iconst (-1), 1) := getB' kX11_sledge 35 rfl
theorem dX11_sledge_75 : decode cX11_sledge 75 = .ok (.ireturn, 1) := getB' kX11_sledge 36 rfl
theorem dX11_sledge_76 : decode cX11_sledge 76 = .ok (.aload_n 0, 1) := getB' kX11_sledge 37 rfl
theorem dX11_sledge_77 : decode cX11_sledge 77 = .ok (.getfield 12, 3) := getB' kX11_sledge 38 rfl
theorem dX11_sledge_80 : decode cX11_sledge 80 = .ok (.aload 4, 2) := getB' kX11_sledge 39 rfl
theorem dX11_sledge_82 : decode cX11_sledge 82 = .ok (.getfield 344, 3) := getB' kX11_sledge 40 rfl
theorem dX11_sledge_85 : decode cX11_sledge 85 = .ok (.aload 5, 2) := getB' kX11_sledge 41 rfl
theorem dX11_sledge_87 : decode cX11_sledge 87 = .ok (.getfield 344, 3) := getB' kX11_sledge 42 rfl
theorem dX11_sledge_90 : decode cX11_sledge 90 = .ok (.invokevirtual 418, 3) := getB' kX11_sledge 43 rfl
theorem dX11_sledge_93 : decode cX11_sledge 93 = .ok (.istore 6, 2) := getB' kX11_sledge 44 rfl
theorem dX11_sledge_95 : decode cX11_sledge 95 = .ok (.iload 6, 2) := getB' kX11_sledge 45 rfl
theorem dX11_sledge_97 : decode cX11_sledge 97 = .ok (.iconst (-1), 1) := getB' kX11_sledge 46 rfl
theorem dX11_sledge_98 : decode cX11_sledge 98 = .ok (.if_icmp .eq 9, 3) := getB' kX11_sledge 47 rfl
theorem dX11_sledge_101 : decode cX11_sledge 101 = .ok (.iload 6, 2) := getB' kX11_sledge 48 rfl
theorem dX11_sledge_103 : decode cX11_sledge 103 = .ok (.iload_n 3, 1) := getB' kX11_sledge 49 rfl
theorem dX11_sledge_104 : decode cX11_sledge 104 = .ok (.if_icmp .lt 5, 3) := getB' kX11_sledge 50 rfl
theorem dX11_sledge_107 : decode cX11_sledge 107 = .ok (.iconst (-1), 1) := getB' kX11_sledge 51 rfl
theorem dX11_sledge_108 : decode cX11_sledge 108 = .ok (.ireturn, 1) := getB' kX11_sledge 52 rfl
theorem dX11_sledge_109 : decode cX11_sledge 109 = .ok (.aload 4, 2) := getB' kX11_sledge 53 rfl
theorem dX11_sledge_111 : decode cX11_sledge 111 = .ok (.dup, 1) := getB' kX11_sledge 54 rfl
theorem dX11_sledge_112 : decode cX11_sledge 112 = .ok (.getfield 186, 3) := getB' kX11_sledge 55 rfl
theorem dX11_sledge_115 : decode cX11_sledge 115 = .ok (.iload_n 3, 1) := getB' kX11_sledge 56 rfl
theorem dX11_sledge_116 : decode cX11_sledge 116 = .ok (.isub, 1) := getB' kX11_sledge 57 rfl
theorem dX11_sledge_117 : decode cX11_sledge 117 = .ok (.putfield 186, 3) := getB' kX11_sledge 58 rfl
theorem dX11_sledge_120 : decode cX11_sledge 120 = .ok (.aload_n 0, 1) := getB' kX11_sledge 59 rfl
theorem dX11_sledge_121 : decode cX11_sledge 121 = .ok (.iconst 1, 1) := getB' kX11_sledge 60 rfl
theorem dX11_sledge_122 : decode cX11_sledge 122 = .ok (.iload 6, 2) := getB' kX11_sledge 61 rfl
theorem dX11_sledge_124 : decode cX11_sledge 124 = .ok (.invokevirtual 192, 3) := getB' kX11_sledge 62 rfl
theorem dX11_sledge_127 : decode cX11_sledge 127 = .ok (.aload_n 0, 1) := getB' kX11_sledge 63 rfl
theorem dX11_sledge_128 : decode cX11_sledge 128 = .ok (.getfield 12, 3) := getB' kX11_sledge 64 rfl
theorem dX11_sledge_131 : decode cX11_sledge 131 = .ok (.getfield 145, 3) := getB' kX11_sledge 65 rfl
theorem dX11_sledge_134 : decode cX11_sledge 134 = .ok (.iconst 1, 1) := getB' kX11_sledge 66 rfl
theorem dX11_sledge_135 : decode cX11_sledge 135 = .ok (.iload 6, 2) := getB' kX11_sledge 67 rfl
theorem dX11_sledge_137 : decode cX11_sledge 137 = .ok (.invokestatic 296, 3) := getB' kX11_sledge 68 rfl
theorem dX11_sledge_140 : decode cX11_sledge 140 = .ok (.iadd, 1) := getB' kX11_sledge 69 rfl
theorem dX11_sledge_141 : decode cX11_sledge 141 = .ok (.istore 7, 2) := getB' kX11_sledge 70 rfl
theorem dX11_sledge_143 : decode cX11_sledge 143 = .ok (.aload_n 0, 1) := getB' kX11_sledge 71 rfl
theorem dX11_sledge_144 : decode cX11_sledge 144 = .ok (.getfield 72, 3) := getB' kX11_sledge 72 rfl
theorem dX11_sledge_147 : decode cX11_sledge 147 = .ok (.iload_n 2, 1) := getB' kX11_sledge 73 rfl
theorem dX11_sledge_148 : decode cX11_sledge 148 = .ok (.aload 5, 2) := getB' kX11_sledge 74 rfl
theorem dX11_sledge_150 : decode cX11_sledge 150 = .ok (.getfield 344, 3) := getB' kX11_sledge 75 rfl
theorem dX11_sledge_153 : decode cX11_sledge 153 = .ok (.iload 7, 2) := getB' kX11_sledge 76 rfl
theorem dX11_sledge_155 : decode cX11_sledge 155 = .ok (.iload_n 3, 1) := getB' kX11_sledge 77 rfl
theorem dX11_sledge_156 : decode cX11_sledge 156 = .ok (.iload 6, 2) := getB' kX11_sledge 78 rfl
theorem dX11_sledge_158 : decode cX11_sledge 158 = .ok (.isub, 1) := getB' kX11_sledge 79 rfl
theorem dX11_sledge_159 : decode cX11_sledge 159 = .ok (.iconst 1, 1) := getB' kX11_sledge 80 rfl
theorem dX11_sledge_160 : decode cX11_sledge 160 = .ok (.invokevirtual 205, 3) := getB' kX11_sledge 81 rfl
theorem dX11_sledge_163 : decode cX11_sledge 163 = .ok (.pop, 1) := getB' kX11_sledge 82 rfl
theorem dX11_sledge_164 : decode cX11_sledge 164 = .ok (.iload 7, 2) := getB' kX11_sledge 83 rfl
theorem dX11_sledge_166 : decode cX11_sledge 166 = .ok (.ireturn, 1) := getB' kX11_sledge 84 rfl
def LX11_people : List (Nat × Instr × Nat) := [(0, .aload_n 0, 1), (1, .iload_n 1, 1), (2, .invokevirtual 195, 3), (5, .astore_n 3, 1), (6, .aload_n 3, 1), (7, .ifnull 32, 3), (10, .iload_n 2, 1), (11, .sipush (-500), 3), (14, .sipush 500, 3), (17, .invokestatic 112, 3), (20, .ifCond .eq 19, 3), (23, .aload_n 3, 1), (24, .getfield 183, 3), (27, .iload_n 2, 1), (28, .iadd, 1), (29, .iconst 0, 1), (30, .sipush 500, 3), (33, .invokestatic 112, 3), (36, .ifCond .ne 5, 3), (39, .iconst 0, 1), (40, .ireturn, 1), (41, .aload_n 3, 1), (42, .dup, 1), (43, .getfield 183, 3), (46, .iload_n 2, 1), (47, .iadd, 1), (48, .putfield 183, 3), (51, .iconst 1, 1), (52, .ireturn, 1)]
theorem kX11_people : chkB cX11_people LX11_people = true := by decide +kernel
theorem dX11_people_0 : decode cX11_people 0 = .ok (.aload_n 0, 1) := getB' kX11_people 0 rfl
theorem dX11_people_1 : decode cX11_people 1 = .ok (.iload_n 1, 1) := getB' kX11_people 1 rfl
theorem dX11_people_2 : decode cX11_people 2 = .ok (.invokevirtual 195, 3) := getB' kX11_people 2 rfl
theorem dX11_people_5 : decode cX11_people 5 = .ok (.astore_n 3, 1) := getB' kX11_people 3 rfl
theorem dX11_people_6 : decode cX11_people 6 = .ok (.aload_n 3, 1) := getB' kX11_people 4 rfl
theorem dX11_people_7 : decode cX11_people 7 = .ok (.ifnull 32, 3) := getB' kX11_people 5 rfl
theorem dX11_people_10 : decode cX11_people 10 = .ok (.iload_n 2, 1) := getB' kX11_people 6 rfl
theorem dX11_people_11 : decode cX11_people 11 = .ok (.sipush (-500), 3) := getB' kX11_people 7 rfl
theorem dX11_people_14 : decode cX11_people 14 = .ok (.sipush 500, 3) := getB' kX11_people 8 rfl
theorem dX11_people_17 : decode cX11_people 17 = .ok (.invokestatic 112, 3) := getB' kX11_people 9 rfl
theorem dX11_people_20 : decode cX11_people 20 = .ok (.ifCond .eq 19, 3) := getB' kX11_people 10 rfl
theorem dX11_people_23 : decode cX11_people 23 = .ok (.aload_n 3, 1) := getB' kX11_people 11 rfl
theorem dX11_people_24 : decode cX11_people 24 = .ok (.getfield 183, 3) := getB' kX11_people 12 rfl
theorem dX11_people_27 : decode cX11_people 27 = .ok (.iload_n 2, 1) := getB' kX11_people 13 rfl
theorem dX11_people_28 : decode cX11_people 28 = .ok (.iadd, 1) := getB' kX11_people 14 rfl
theorem dX11_people_29 : decode cX11_people 29 = .ok (.iconst 0, 1) := getB' kX11_people 15 rfl
theorem dX11_people_30 : decode cX11_people 30 = .ok (.sipush 500, 3) := getB' kX11_people 16 rfl
theorem dX11_people_33 : decode cX11_people 33 = .ok (.invokestatic 112, 3) := getB' kX11_people 17 rfl
theorem dX11_people_36 : decode cX11_people 36 = .ok (.ifCond .ne 5, 3) := getB' kX11_people 18 rfl
theorem dX11_people_39 : decode cX11_people 39 = .ok (.iconst 0, 1) := getB' kX11_people 19 rfl
theorem dX11_people_40 : decode cX11_people 40 = .ok (.ireturn, 1) := getB' kX11_people 20 rfl
theorem dX11_people_41 : decode cX11_people 41 = .ok (.aload_n 3, 1) := getB' kX11_people 21 rfl
theorem dX11_people_42 : decode cX11_people 42 = .ok (.dup, 1) := getB' kX11_people 22 rfl
theorem dX11_people_43 : decode cX11_people 43 = .ok (.getfield 183, 3) := getB' kX11_people 23 rfl
theorem dX11_people_46 : decode cX11_people 46 = .ok (.iload_n 2, 1) := getB' kX11_people 24 rfl
theorem dX11_people_47 : decode cX11_people 47 = .ok (.iadd, 1) := getB' kX11_people 25 rfl
theorem dX11_people_48 : decode cX11_people 48 = .ok (.putfield 183, 3) := getB' kX11_people 26 rfl
theorem dX11_people_51 : decode cX11_people 51 = .ok (.iconst 1, 1) := getB' kX11_people 27 rfl
theorem dX11_people_52 : decode cX11_people 52 = .ok (.ireturn, 1) := getB' kX11_people 28 rfl
def LX11_hide : List (Nat × Instr × Nat) := [(0, .aload_n 0, 1), (1, .iload_n 1, 1), (2, .invokevirtual 195, 3), (5, .astore_n 3, 1), (6, .aload_n 3, 1), (7, .ifnull 20, 3), (10, .iload_n 2, 1), (11, .aload_n 3, 1), (12, .getfield 186, 3), (15, .if_icmp .gt 12, 3), (18, .iload_n 2, 1), (19, .aload_n 3, 1), (20, .getfield 421, 3), (23, .ineg, 1), (24, .if_icmp .ge 5, 3), (27, .iconst 0, 1), (28, .ireturn, 1), (29, .aload_n 3, 1), (30, .dup, 1), (31, .getfield 186, 3), (34, .iload_n 2, 1), (35, .isub, 1), (36, .putfield 186, 3), (39, .aload_n 3, 1), (40, .dup, 1), (41, .getfield 421, 3), (44, .iload_n 2, 1), (45, .iadd, 1), (46, .putfield 421, 3), (49, .iconst 1, 1), (50, .ireturn, 1)]
theorem kX11_hide : chkB cX11_hide LX11_hide = true := by decide +kernel
theorem dX11_hide_0 : decode cX11_hide 0 = .ok (.aload_n 0, 1) := getB' kX11_hide 0 rfl
theorem dX11_hide_1 : decode cX11_hide 1 = .ok (.iload_n 1, 1) := getB' kX11_hide 1 rfl
theorem dX11_hide_2 : decode cX11_hide 2 = .ok (.invokevirtual 195, 3) := getB' kX11_hide 2 rfl
theorem dX11_hide_5 : decode cX11_hide 5 = .ok (.astore_n 3, 1) := getB' kX11_hide 3 rfl
theorem dX11_hide_6 : decode cX11_hide 6 = .ok (.aload_n 3, 1) := getB' kX11_hide 4 rfl
theorem dX11_hide_7 : decode cX11_hide 7 = .ok (.ifnull 20, 3) := getB' kX11_hide 5 rfl
theorem dX11_hide_10 : decode cX11_hide 10 = .ok (.iload_n 2, 1) := getB' kX11_hide 6 rfl
theorem dX11_hide_11 : decode cX11_hide 11 = .ok (.aload_n 3, 1) := getB' kX11_hide 7 rfl
theorem dX11_hide_12 : decode cX11_hide 12 = .ok (.getfield 186, 3) := getB' kX11_hide 8 rfl
theorem dX11_hide_15 : decode cX11_hide 15 = .ok (.if_icmp .gt 12, 3) := getB' kX11_hide 9 rfl
theorem dX11_hide_18 : decode cX11_hide 18 = .ok (.iload_n 2, 1) := getB' kX11_hide 10 rfl
theorem dX11_hide_19 : decode cX11_hide 19 = .ok (.aload_n 3, 1) := getB' kX11_hide 11 rfl
theorem dX11_hide_20 : decode cX11_hide 20 = .ok (.getfield 421, 3) := getB' kX11_hide 12 rfl
theorem dX11_hide_23 : decode cX11_hide 23 = .ok (.ineg, 1) := getB' kX11_hide 13 rfl
theorem dX11_hide_24 : decode cX11_hide 24 = .ok (.if_icmp .ge 5, 3) := getB' kX11_hide 14 rfl
theorem dX11_hide_27 : decode cX11_hide 27 = .ok (.iconst 0, 1) := getB' kX11_hide 15 rfl
theorem dX11_hide_28 : decode cX11_hide 28 = .ok (.ireturn, 1) := getB' kX11_hide 16 rfl
theorem dX11_hide_29 : decode cX11_hide 29 = .ok (.aload_n 3, 1) := getB' kX11_hide 17 rfl
theorem dX11_hide_30 : decode cX11_hide 30 = .ok (.dup, 1) := getB' kX11_hide 18 rfl
theorem dX11_hide_31 : decode cX11_hide 31 = .ok (.getfield 186, 3) := getB' kX11_hide 19 rfl
theorem dX11_hide_34 : decode cX11_hide 34 = .ok (.iload_n 2, 1) := getB' kX11_hide 20 rfl
theorem dX11_hide_35 : decode cX11_hide 35 = .ok (.isub, 1) := getB' kX11_hide 21 rfl
theorem dX11_hide_36 : decode cX11_hide 36 = .ok (.putfield 186, 3) := getB' kX11_hide 22 rfl
theorem dX11_hide_39 : decode cX11_hide 39 = .ok (.aload_n 3, 1) := getB' kX11_hide 23 rfl
theorem dX11_hide_40 : decode cX11_hide 40 = .ok (.dup, 1) := getB' kX11_hide 24 rfl
theorem dX11_hide_41 : decode cX11_hide 41 = .ok (.getfield 421, 3) := getB' kX11_hide 25 rfl
theorem dX11_hide_44 : decode cX11_hide 44 = .ok (.iload_n 2, 1) := getB' kX11_hide 26 rfl
theorem dX11_hide_45 : decode cX11_hide 45 = .ok (.iadd, 1) := getB' kX11_hide 27 rfl
theorem dX11_hide_46 : decode cX11_hide 46 = .ok (.putfield 421, 3) := getB' kX11_hide 28 rfl
theorem dX11_hide_49 : decode cX11_hide 49 = .ok (.iconst 1, 1) := getB' kX11_hide 29 rfl
theorem dX11_hide_50 : decode cX11_hide 50 = .ok (.ireturn, 1) := getB' kX11_hide 30 rfl
def LX11_declare : List (Nat × Instr × Nat) := [(0, .aload_n 0, 1), (1, .iload_n 1, 1), (2, .iconst 1, 1), (3, .invokevirtual 169, 3), (6, .astore 4, 2), (8, .aload 4, 2), (10, .ifnull 25, 3), (13, .iload_n 2, 1), (14, .iconst 0, 1), (15, .sipush 500, 3), (18, .invokestatic 112, 3), (21, .ifCond .eq 14, 3), (24, .iload_n 3, 1), (25, .iconst 0, 1), (26, .ldc_w 424, 3), (29, .invokestatic 112, 3), (32, .ifCond .ne 5, 3), (35, .iconst 0, 1), (36, .ireturn, 1), (37, .aload 4, 2), (39, .iload_n 2, 1), (40, .putfield 425, 3), (43, .aload 4, 2), (45, .iload_n 3, 1), (46, .putfield 428, 3), (49, .iconst 1, 1), (50, .ireturn, 1)]
theorem kX11_declare : chkB cX11_declare LX11_declare = true := by decide +kernel
theorem dX11_declare_0 : decode cX11_declare 0 = .ok (.aload_n 0, 1) := getB' kX11_declare 0 rfl
theorem dX11_declare_1 : decode cX11_declare 1 = .ok (.iload_n 1, 1) := getB' kX11_declare 1 rfl
theorem dX11_declare_2 : decode cX11_declare 2 = .ok (.iconst 1, 1) := getB' kX11_declare 2 rfl
theorem dX11_declare_3 : decode cX11_declare 3 = .ok (.invokevirtual 169, 3) := getB' kX11_declare 3 rfl
theorem dX11_declare_6 : decode cX11_declare 6 = .ok (.astore 4, 2) := getB' kX11_declare 4 rfl
theorem dX11_declare_8 : decode cX11_declare 8 = .ok (.aload 4, 2) := getB' kX11_declare 5 rfl
theorem dX11_declare_10 : decode cX11_declare 10 = .ok (.ifnull 25, 3) := getB' kX11_declare 6 rfl
theorem dX11_declare_13 : decode cX11_declare 13 = .ok (.iload_n 2, 1) := getB' kX11_declare 7 rfl
theorem dX11_declare_14 : decode cX11_declare 14 = .ok (.iconst 0, 1) := getB' kX11_declare 8 rfl
theorem dX11_declare_15 : decode cX11_declare 15 = .ok (.sipush 500, 3) := getB' kX11_declare 9 rfl
theorem dX11_declare_18 : decode cX11_declare 18 = .ok (.invokestatic 112, 3) := getB' kX11_declare 10 rfl
theorem dX11_declare_21 : decode cX11_declare 21 = .ok (.ifCond .eq 14, 3) := getB' kX11_declare 11 rfl
theorem dX11_declare_24 : decode cX11_declare 24 = .ok (.iload_n 3, 1) := getB' kX11_declare 12 rfl
theorem dX11_declare_25 : decode cX11_declare 25 = .ok (.iconst 0, 1) := getB' kX11_declare 13 rfl
theorem dX11_declare_26 : decode cX11_declare 26 = .ok (.ldc_w 424, 3) := getB' kX11_declare 14 rfl
theorem dX11_declare_29 : decode cX11_declare 29 = .ok (.invokestatic 112, 3) := getB' kX11_declare 15 rfl
theorem dX11_declare_32 : decode cX11_declare 32 = .ok (.ifCond .ne 5, 3) := getB' kX11_declare 16 rfl
theorem dX11_declare_35 : decode cX11_declare 35 = .ok (.iconst 0, 1) := getB' kX11_declare 17 rfl
theorem dX11_declare_36 : decode cX11_declare 36 = .ok (.ireturn, 1) := getB' kX11_declare 18 rfl
theorem dX11_declare_37 : decode cX11_declare 37 = .ok (.aload 4, 2) := getB' kX11_declare 19 rfl
theorem dX11_declare_39 : decode cX11_declare 39 = .ok (.iload_n 2, 1) := getB' kX11_declare 20 rfl
theorem dX11_declare_40 : decode cX11_declare 40 = .ok (.putfield 425, 3) := getB' kX11_declare 21 rfl
theorem dX11_declare_43 : decode cX11_declare 43 = .ok (.aload 4, 2) := getB' kX11_declare 22 rfl
theorem dX11_declare_45 : decode cX11_declare 45 = .ok (.iload_n 3, 1) := getB' kX11_declare 23 rfl
theorem dX11_declare_46 : decode cX11_declare 46 = .ok (.putfield 428, 3) := getB' kX11_declare 24 rfl
theorem dX11_declare_49 : decode cX11_declare 49 = .ok (.iconst 1, 1) := getB' kX11_declare 25 rfl
theorem dX11_declare_50 : decode cX11_declare 50 = .ok (.ireturn, 1) := getB' kX11_declare 26 rfl
def LX11_visit : List (Nat × Instr × Nat) := [(0, .aload_n 0, 1), (1, .iload_n 1, 1), (2, .invokevirtual 151, 3), (5, .astore_n 3, 1), (6, .aload_n 0, 1), (7, .iload_n 2, 1), (8, .invokevirtual 195, 3), (11, .astore 4, 2), (13, .aload_n 3, 1), (14, .ifnull 31, 3), (17, .aload 4, 2), (19, .ifnull 26, 3), (22, .aload 4, 2), (24, .getfield 173, 3), (27, .iload_n 1, 1), (28, .if_icmp .eq 17, 3), (31, .aload_n 3, 1), (32, .aload_n 0, 1), (33, .getfield 12, 3), (36, .getfield 145, 3), (39, .invokevirtual 301, 3), (42, .ifCond .ne 5, 3), (45, .iconst (-1), 1), (46, .ireturn, 1), (47, .aload 4, 2), (49, .getfield 183, 3), (52, .aload 4, 2), (54, .getfield 425, 3), (57, .isub, 1), (58, .istore 5, 2), (60, .aload_n 0, 1), (61, .getfield 76, 3), (64, .iload_n 1, 1), (65, .iload_n 2, 1), (66, .aload_n 0, 1), (67, .getfield 12, 3), (70, .getfield 145, 3), (73, .iload 5, 2), (75, .aload 4, 2), (77, .getfield 186, 3), (80, .aload 4, 2), (82, .getfield 428, 3), (85, .isub, 1), (86, .invokevirtual 205, 3), (89, .ireturn, 1)]
theorem kX11_visit : chkB cX11_visit LX11_visit = true := by decide +kernel
theorem dX11_visit_0 : decode cX11_visit 0 = .ok (.aload_n 0, 1) := getB' kX11_visit 0 rfl
theorem dX11_visit_1 : decode cX11_visit 1 = .ok (.iload_n 1, 1) := getB' kX11_visit 1 rfl
theorem dX11_visit_2 : decode cX11_visit 2 = .ok (.invokevirtual 151, 3) := getB' kX11_visit 2 rfl
theorem dX11_visit_5 : decode cX11_visit 5 = .ok (.astore_n 3, 1) := getB' kX11_visit 3 rfl
theorem dX11_visit_6 : decode cX11_visit 6 = .ok (.aload_n 0, 1) := getB' kX11_visit 4 rfl
theorem dX11_visit_7 : decode cX11_visit 7 = .ok (.iload_n 2, 1) := getB' kX11_visit 5 rfl
theorem dX11_visit_8 : decode cX11_visit 8 = .ok (.invokevirtual 195, 3) := getB' kX11_visit 6 rfl
theorem dX11_visit_11 : decode cX11_visit 11 = .ok (.astore 4, 2) := getB' kX11_visit 7 rfl
theorem dX11_visit_13 : decode cX11_visit 13 = .ok (.aload_n 3, 1) := getB' kX11_visit 8 rfl
theorem dX11_visit_14 : decode cX11_visit 14 = .ok (.ifnull 31, 3) := getB' kX11_visit 9 rfl
theorem dX11_visit_17 : decode cX11_visit 17 = .ok (.aload 4, 2) := getB' kX11_visit 10 rfl
theorem dX11_visit_19 : decode cX11_visit 19 = .ok (.ifnull 26, 3) := getB' kX11_visit 11 rfl
theorem dX11_visit_22 : decode cX11_visit 22 = .ok (.aload 4, 2) := getB' kX11_visit 12 rfl
theorem dX11_visit_24 : decode cX11_visit 24 = .ok (.getfield 173, 3) := getB' kX11_visit 13 rfl
theorem dX11_visit_27 : decode cX11_visit 27 = .ok (.iload_n 1, 1) := getB' kX11_visit 14 rfl
theorem dX11_visit_28 : decode cX11_visit 28 = .ok (.if_icmp .eq 17, 3) := getB' kX11_visit 15 rfl
theorem dX11_visit_31 : decode cX11_visit 31 = .ok (.aload_n 3, 1) := getB' kX11_visit 16 rfl
theorem dX11_visit_32 : decode cX11_visit 32 = .ok (.aload_n 0, 1) := getB' kX11_visit 17 rfl
theorem dX11_visit_33 : decode cX11_visit 33 = .ok (.getfield 12, 3) := getB' kX11_visit 18 rfl
theorem dX11_visit_36 : decode cX11_visit 36 = .ok (.getfield 145, 3) := getB' kX11_visit 19 rfl
theorem dX11_visit_39 : decode cX11_visit 39 = .ok (.invokevirtual 301, 3) := getB' kX11_visit 20 rfl
theorem dX11_visit_42 : decode cX11_visit 42 = .ok (.ifCond .ne 5, 3) := getB' kX11_visit 21 rfl
theorem dX11_visit_45 : decode cX11_visit 45 = .ok (.iconst (-1), 1) := getB' kX11_visit 22 rfl
theorem dX11_visit_46 : decode cX11_visit 46 = .ok (.ireturn, 1) := getB' kX11_visit 23 rfl
theorem dX11_visit_47 : decode cX11_visit 47 = .ok (.aload 4, 2) := getB' kX11_visit 24 rfl
theorem dX11_visit_49 : decode cX11_visit 49 = .ok (.getfield 183, 3) := getB' kX11_visit 25 rfl
theorem dX11_visit_52 : decode cX11_visit 52 = .ok (.aload 4, 2) := getB' kX11_visit 26 rfl
theorem dX11_visit_54 : decode cX11_visit 54 = .ok (.getfield 425, 3) := getB' kX11_visit 27 rfl
theorem dX11_visit_57 : decode cX11_visit 57 = .ok (.isub, 1) := getB' kX11_visit 28 rfl
theorem dX11_visit_58 : decode cX11_visit 58 = .ok (.istore 5, 2) := getB' kX11_visit 29 rfl
theorem dX11_visit_60 : decode cX11_visit 60 = .ok (.aload_n 0, 1) := getB' kX11_visit 30 rfl
theorem dX11_visit_61 : decode cX11_visit 61 = .ok (.getfield 76, 3) := getB' kX11_visit 31 rfl
theorem dX11_visit_64 : decode cX11_visit 64 = .ok (.iload_n 1, 1) := getB' kX11_visit 32 rfl
theorem dX11_visit_65 : decode cX11_visit 65 = .ok (.iload_n 2, 1) := getB' kX11_visit 33 rfl
theorem dX11_visit_66 : decode cX11_visit 66 = .ok (.aload_n 0, 1) := getB' kX11_visit 34 rfl
theorem dX11_visit_67 : decode cX11_visit 67 = .ok (.getfield 12, 3) := getB' kX11_visit 35 rfl
theorem dX11_visit_70 : decode cX11_visit 70 = .ok (.getfield 145, 3) := getB' kX11_visit 36 rfl
theorem dX11_visit_73 : decode cX11_visit 73 = .ok (.iload 5, 2) := getB' kX11_visit 37 rfl
theorem dX11_visit_75 : decode cX11_visit 75 = .ok (.aload 4, 2) := getB' kX11_visit 38 rfl
theorem dX11_visit_77 : decode cX11_visit 77 = .ok (.getfield 186, 3) := getB' kX11_visit 39 rfl
theorem dX11_visit_80 : decode cX11_visit 80 = .ok (.aload 4, 2) := getB' kX11_visit 40 rfl
theorem dX11_visit_82 : decode cX11_visit 82 = .ok (.getfield 428, 3) := getB' kX11_visit 41 rfl
theorem dX11_visit_85 : decode cX11_visit 85 = .ok (.isub, 1) := getB' kX11_visit 42 rfl
theorem dX11_visit_86 : decode cX11_visit 86 = .ok (.invokevirtual 205, 3) := getB' kX11_visit 43 rfl
theorem dX11_visit_89 : decode cX11_visit 89 = .ok (.ireturn, 1) := getB' kX11_visit 44 rfl
def LX11_seen : List (Nat × Instr × Nat) := [(0, .aload_n 0, 1), (1, .getfield 76, 3), (4, .iload_n 1, 1), (5, .invokevirtual 431, 3), (8, .ifCond .eq 12, 3), (11, .iload_n 2, 1), (12, .iconst 0, 1), (13, .iconst 4, 1), (14, .invokestatic 112, 3), (17, .ifCond .ne 7, 3), (20, .ldc_w 434, 3), (23, .ireturn, 1), (24, .aload_n 0, 1), (25, .getfield 76, 3), (28, .iload_n 1, 1), (29, .iload_n 2, 1), (30, .invokevirtual 209, 3), (33, .ireturn, 1)]
theorem kX11_seen : chkB cX11_seen LX11_seen = true := by decide +kernel
theorem dX11_seen_0 : decode cX11_seen 0 = .ok (.aload_n 0, 1) := getB' kX11_seen 0 rfl
theorem dX11_seen_1 : decode cX11_seen 1 = .ok (.getfield 76, 3) := getB' kX11_seen 1 rfl
theorem dX11_seen_4 : decode cX11_seen 4 = .ok (.iload_n 1, 1) := getB' kX11_seen 2 rfl
theorem dX11_seen_5 : decode cX11_seen 5 = .ok (.invokevirtual 431, 3) := getB' kX11_seen 3 rfl
theorem dX11_seen_8 : decode cX11_seen 8 = .ok (.ifCond .eq 12, 3) := getB' kX11_seen 4 rfl
theorem dX11_seen_11 : decode cX11_seen 11 = .ok (.iload_n 2, 1) := getB' kX11_seen 5 rfl
theorem dX11_seen_12 : decode cX11_seen 12 = .ok (.iconst 0, 1) := getB' kX11_seen 6 rfl
theorem dX11_seen_13 : decode cX11_seen 13 = .ok (.iconst 4, 1) := getB' kX11_seen 7 rfl
theorem dX11_seen_14 : decode cX11_seen 14 = .ok (.invokestatic 112, 3) := getB' kX11_seen 8 rfl
theorem dX11_seen_17 : decode cX11_seen 17 = .ok (.ifCond .ne 7, 3) := getB' kX11_seen 9 rfl
theorem dX11_seen_20 : decode cX11_seen 20 = .ok (.ldc_w 434, 3) := getB' kX11_seen 10 rfl
theorem dX11_seen_23 : decode cX11_seen 23 = .ok (.ireturn, 1) := getB' kX11_seen 11 rfl
theorem dX11_seen_24 : decode cX11_seen 24 = .ok (.aload_n 0, 1) := getB' kX11_seen 12 rfl
theorem dX11_seen_25 : decode cX11_seen 25 = .ok (.getfield 76, 3) := getB' kX11_seen 13 rfl
theorem dX11_seen_28 : decode cX11_seen 28 = .ok (.iload_n 1, 1) := getB' kX11_seen 14 rfl
theorem dX11_seen_29 : decode cX11_seen 29 = .ok (.iload_n 2, 1) := getB' kX11_seen 15 rfl
theorem dX11_seen_30 : decode cX11_seen 30 = .ok (.invokevirtual 209, 3) := getB' kX11_seen 16 rfl
theorem dX11_seen_33 : decode cX11_seen 33 = .ok (.ireturn, 1) := getB' kX11_seen 17 rfl
def LX11_day : List (Nat × Instr × Nat) := [(0, .aload_n 0, 1), (1, .getfield 12, 3), (4, .getfield 145, 3), (7, .sipush 3599, 3), (10, .if_icmp .lt 5, 3), (13, .iconst (-1), 1), (14, .ireturn, 1), (15, .aload_n 0, 1), (16, .getfield 12, 3), (19, .dup, 1), (20, .getfield 145, 3), (23, .iconst 1, 1), (24, .iadd, 1), (25, .putfield 145, 3), (28, .aload_n 0, 1), (29, .getfield 26, 3), (32, .invokevirtual 435, 3), (35, .iconst 0, 1), (36, .istore_n 1, 1), (37, .iload_n 1, 1), (38, .aload_n 0, 1), (39, .getfield 55, 3), (42, .if_icmp .ge 14, 3), (45, .aload_n 0, 1), (46, .iload_n 1, 1), (47, .invokevirtual 436, 3), (50, .iinc 1 1, 3), (53, .goto (-16), 3), (56, .aload_n 0, 1), (57, .invokevirtual 439, 3), (60, .iconst 0, 1), (61, .istore_n 1, 1), (62, .iload_n 1, 1), (63, .aload_n 0, 1), (64, .getfield 46, 3), (67, .if_icmp .ge 14, 3), (70, .aload_n 0, 1), (71, .iload_n 1, 1), (72, .invokevirtual 442, 3), (75, .iinc 1 1, 3), (78, .goto (-16), 3), (81, .iconst 0, 1), (82, .istore_n 1, 1), (83, .iload_n 1, 1), (84, .aload_n 0, 1), (85, .getfield 64, 3), (88, .if_icmp .ge 18, 3), (91, .aload_n 0, 1), (92, .aload_n 0, 1), (93, .iload_n 1, 1), (94, .invokevirtual 403, 3), (97, .invokevirtual 445, 3), (100, .iinc 1 1, 3), (103, .goto (-20), 3), (106, .iconst 0, 1), (107, .istore_n 1, 1), (108, .iload_n 1, 1), (109, .aload_n 0, 1), (110, .getfield 72, 3), (113, .getfield 199, 3), (116, .if_icmp .ge 14, 3), (119, .aload_n 0, 1), (120, .iload_n 1, 1), (121, .invokevirtual 449, 3), (124, .iinc 1 1, 3), (127, .goto (-19), 3), (130, .aload_n 0, 1), (131, .getfield 12, 3), (134, .getfield 145, 3), (137, .ireturn, 1)]
theorem kX11_day : chkB cX11_day LX11_day = true := by decide +kernel
theorem dX11_day_0 : decode cX11_day 0 = .ok (.aload_n 0, 1) := getB' kX11_day 0 rfl
theorem dX11_day_1 : decode cX11_day 1 = .ok (.getfield 12, 3) := getB' kX11_day 1 rfl
theorem dX11_day_4 : decode cX11_day 4 = .ok (.getfield 145, 3) := getB' kX11_day 2 rfl
theorem dX11_day_7 : decode cX11_day 7 = .ok (.sipush 3599, 3) := getB' kX11_day 3 rfl
theorem dX11_day_10 : decode cX11_day 10 = .ok (.if_icmp .lt 5, 3) := getB' kX11_day 4 rfl
theorem dX11_day_13 : decode cX11_day 13 = .ok (.iconst (-1), 1) := getB' kX11_day 5 rfl
theorem dX11_day_14 : decode cX11_day 14 = .ok (.ireturn, 1) := getB' kX11_day 6 rfl
theorem dX11_day_15 : decode cX11_day 15 = .ok (.aload_n 0, 1) := getB' kX11_day 7 rfl
theorem dX11_day_16 : decode cX11_day 16 = .ok (.getfield 12, 3) := getB' kX11_day 8 rfl
theorem dX11_day_19 : decode cX11_day 19 = .ok (.dup, 1) := getB' kX11_day 9 rfl
theorem dX11_day_20 : decode cX11_day 20 = .ok (.getfield 145, 3) := getB' kX11_day 10 rfl
theorem dX11_day_23 : decode cX11_day 23 = .ok (.iconst 1, 1) := getB' kX11_day 11 rfl
theorem dX11_day_24 : decode cX11_day 24 = .ok (.iadd, 1) := getB' kX11_day 12 rfl
theorem dX11_day_25 : decode cX11_day 25 = .ok (.putfield 145, 3) := getB' kX11_day 13 rfl
theorem dX11_day_28 : decode cX11_day 28 = .ok (.aload_n 0, 1) := getB' kX11_day 14 rfl
theorem dX11_day_29 : decode cX11_day 29 = .ok (.getfield 26, 3) := getB' kX11_day 15 rfl
theorem dX11_day_32 : decode cX11_day 32 = .ok (.invokevirtual 435, 3) := getB' kX11_day 16 rfl
theorem dX11_day_35 : decode cX11_day 35 = .ok (.iconst 0, 1) := getB' kX11_day 17 rfl
theorem dX11_day_36 : decode cX11_day 36 = .ok (.istore_n 1, 1) := getB' kX11_day 18 rfl
theorem dX11_day_37 : decode cX11_day 37 = .ok (.iload_n 1, 1) := getB' kX11_day 19 rfl
theorem dX11_day_38 : decode cX11_day 38 = .ok (.aload_n 0, 1) := getB' kX11_day 20 rfl
theorem dX11_day_39 : decode cX11_day 39 = .ok (.getfield 55, 3) := getB' kX11_day 21 rfl
theorem dX11_day_42 : decode cX11_day 42 = .ok (.if_icmp .ge 14, 3) := getB' kX11_day 22 rfl
theorem dX11_day_45 : decode cX11_day 45 = .ok (.aload_n 0, 1) := getB' kX11_day 23 rfl
theorem dX11_day_46 : decode cX11_day 46 = .ok (.iload_n 1, 1) := getB' kX11_day 24 rfl
theorem dX11_day_47 : decode cX11_day 47 = .ok (.invokevirtual 436, 3) := getB' kX11_day 25 rfl
theorem dX11_day_50 : decode cX11_day 50 = .ok (.iinc 1 1, 3) := getB' kX11_day 26 rfl
theorem dX11_day_53 : decode cX11_day 53 = .ok (.goto (-16), 3) := getB' kX11_day 27 rfl
theorem dX11_day_56 : decode cX11_day 56 = .ok (.aload_n 0, 1) := getB' kX11_day 28 rfl
theorem dX11_day_57 : decode cX11_day 57 = .ok (.invokevirtual 439, 3) := getB' kX11_day 29 rfl
theorem dX11_day_60 : decode cX11_day 60 = .ok (.iconst 0, 1) := getB' kX11_day 30 rfl
theorem dX11_day_61 : decode cX11_day 61 = .ok (.istore_n 1, 1) := getB' kX11_day 31 rfl
theorem dX11_day_62 : decode cX11_day 62 = .ok (.iload_n 1, 1) := getB' kX11_day 32 rfl
theorem dX11_day_63 : decode cX11_day 63 = .ok (.aload_n 0, 1) := getB' kX11_day 33 rfl
theorem dX11_day_64 : decode cX11_day 64 = .ok (.getfield 46, 3) := getB' kX11_day 34 rfl
theorem dX11_day_67 : decode cX11_day 67 = .ok (.if_icmp .ge 14, 3) := getB' kX11_day 35 rfl
theorem dX11_day_70 : decode cX11_day 70 = .ok (.aload_n 0, 1) := getB' kX11_day 36 rfl
theorem dX11_day_71 : decode cX11_day 71 = .ok (.iload_n 1, 1) := getB' kX11_day 37 rfl
theorem dX11_day_72 : decode cX11_day 72 = .ok (.invokevirtual 442, 3) := getB' kX11_day 38 rfl
theorem dX11_day_75 : decode cX11_day 75 = .ok (.iinc 1 1, 3) := getB' kX11_day 39 rfl
theorem dX11_day_78 : decode cX11_day 78 = .ok (.goto (-16), 3) := getB' kX11_day 40 rfl
theorem dX11_day_81 : decode cX11_day 81 = .ok (.iconst 0, 1) := getB' kX11_day 41 rfl
theorem dX11_day_82 : decode cX11_day 82 = .ok (.istore_n 1, 1) := getB' kX11_day 42 rfl
theorem dX11_day_83 : decode cX11_day 83 = .ok (.iload_n 1, 1) := getB' kX11_day 43 rfl
theorem dX11_day_84 : decode cX11_day 84 = .ok (.aload_n 0, 1) := getB' kX11_day 44 rfl
theorem dX11_day_85 : decode cX11_day 85 = .ok (.getfield 64, 3) := getB' kX11_day 45 rfl
theorem dX11_day_88 : decode cX11_day 88 = .ok (.if_icmp .ge 18, 3) := getB' kX11_day 46 rfl
theorem dX11_day_91 : decode cX11_day 91 = .ok (.aload_n 0, 1) := getB' kX11_day 47 rfl
theorem dX11_day_92 : decode cX11_day 92 = .ok (.aload_n 0, 1) := getB' kX11_day 48 rfl
theorem dX11_day_93 : decode cX11_day 93 = .ok (.iload_n 1, 1) := getB' kX11_day 49 rfl
theorem dX11_day_94 : decode cX11_day 94 = .ok (.invokevirtual 403, 3) := getB' kX11_day 50 rfl
theorem dX11_day_97 : decode cX11_day 97 = .ok (.invokevirtual 445, 3) := getB' kX11_day 51 rfl
theorem dX11_day_100 : decode cX11_day 100 = .ok (.iinc 1 1, 3) := getB' kX11_day 52 rfl
theorem dX11_day_103 : decode cX11_day 103 = .ok (.goto (-20), 3) := getB' kX11_day 53 rfl
theorem dX11_day_106 : decode cX11_day 106 = .ok (.iconst 0, 1) := getB' kX11_day 54 rfl
theorem dX11_day_107 : decode cX11_day 107 = .ok (.istore_n 1, 1) := getB' kX11_day 55 rfl
theorem dX11_day_108 : decode cX11_day 108 = .ok (.iload_n 1, 1) := getB' kX11_day 56 rfl
theorem dX11_day_109 : decode cX11_day 109 = .ok (.aload_n 0, 1) := getB' kX11_day 57 rfl
theorem dX11_day_110 : decode cX11_day 110 = .ok (.getfield 72, 3) := getB' kX11_day 58 rfl
theorem dX11_day_113 : decode cX11_day 113 = .ok (.getfield 199, 3) := getB' kX11_day 59 rfl
theorem dX11_day_116 : decode cX11_day 116 = .ok (.if_icmp .ge 14, 3) := getB' kX11_day 60 rfl
theorem dX11_day_119 : decode cX11_day 119 = .ok (.aload_n 0, 1) := getB' kX11_day 61 rfl
theorem dX11_day_120 : decode cX11_day 120 = .ok (.iload_n 1, 1) := getB' kX11_day 62 rfl
theorem dX11_day_121 : decode cX11_day 121 = .ok (.invokevirtual 449, 3) := getB' kX11_day 63 rfl
theorem dX11_day_124 : decode cX11_day 124 = .ok (.iinc 1 1, 3) := getB' kX11_day 64 rfl
theorem dX11_day_127 : decode cX11_day 127 = .ok (.goto (-19), 3) := getB' kX11_day 65 rfl
theorem dX11_day_130 : decode cX11_day 130 = .ok (.aload_n 0, 1) := getB' kX11_day 66 rfl
theorem dX11_day_131 : decode cX11_day 131 = .ok (.getfield 12, 3) := getB' kX11_day 67 rfl
theorem dX11_day_134 : decode cX11_day 134 = .ok (.getfield 145, 3) := getB' kX11_day 68 rfl
theorem dX11_day_137 : decode cX11_day 137 = .ok (.ireturn, 1) := getB' kX11_day 69 rfl
def LX11_passWork : List (Nat × Instr × Nat) := [(0, .aload_n 0, 1), (1, .iload_n 1, 1), (2, .invokevirtual 309, 3), (5, .astore_n 2, 1), (6, .aload_n 2, 1), (7, .ifnull 31, 3), (10, .aload_n 0, 1), (11, .getfield 12, 3), (14, .getfield 145, 3), (17, .aload_n 2, 1), (18, .getfield 452, 3), (21, .if_icmp .lt 17, 3), (24, .aload_n 0, 1), (25, .getfield 12, 3), (28, .getfield 145, 3), (31, .aload_n 2, 1), (32, .getfield 455, 3), (35, .if_icmp .le 4, 3), (38, .return_, 1), (39, .aload_n 0, 1), (40, .aload_n 2, 1), (41, .aload_n 0, 1), (42, .getfield 12, 3), (45, .getfield 145, 3), (48, .iconst 0, 1), (49, .invokevirtual 331, 3), (52, .ifCond .eq 14, 3), (55, .aload_n 2, 1), (56, .dup, 1), (57, .getfield 458, 3), (60, .iconst 1, 1), (61, .iadd, 1), (62, .putfield 458, 3), (65, .return_, 1), (66, .aload_n 2, 1), (67, .dup, 1), (68, .getfield 461, 3), (71, .iconst 1, 1), (72, .iadd, 1), (73, .putfield 461, 3), (76, .aload_n 0, 1), (77, .aload_n 2, 1), (78, .getfield 353, 3), (81, .invokevirtual 151, 3), (84, .astore_n 3, 1), (85, .aload_n 2, 1), (86, .getfield 375, 3), (89, .ifCond .ne 17, 3), (92, .aload_n 3, 1), (93, .ifnull 13, 3), (96, .aload_n 3, 1), (97, .dup, 1), (98, .getfield 464, 3), (101, .iconst 1, 1), (102, .iadd, 1), (103, .putfield 464, 3), (106, .aload_n 0, 1), (107, .aload_n 2, 1), (108, .invokevirtual 467, 3), (111, .iconst 0, 1), (112, .istore 4, 2), (114, .iload 4, 2), (116, .aload_n 0, 1), (117, .getfield 79, 3), (120, .getfield 199, 3), (123, .if_icmp .ge 29, 3), (126, .aload_n 0, 1), (127, .getfield 79, 3), (130, .iload 4, 2), (132, .iconst 1, 1), (133, .invokevirtual 209, 3), (136, .iload_n 1, 1), (137, .if_icmp .ne 9, 3), (140, .aload_n 0, 1), (141, .iload 4, 2), (143, .invokevirtual 470, 3), (146, .iinc 4 1, 3), (149, .goto (-35), 3), (152, .return_, 1)]
theorem kX11_passWork : chkB cX11_passWork LX11_passWork = true := by decide +kernel
theorem dX11_passWork_0 : decode cX11_passWork 0 = .ok (.aload_n 0, 1) := getB' kX11_passWork 0 rfl
theorem dX11_passWork_1 : decode cX11_passWork 1 = .ok (.iload_n 1, 1) := getB' kX11_passWork 1 rfl
theorem dX11_passWork_2 : decode cX11_passWork 2 = .ok (.invokevirtual 309, 3) := getB' kX11_passWork 2 rfl
theorem dX11_passWork_5 : decode cX11_passWork 5 = .ok (.astore_n 2, 1) := getB' kX11_passWork 3 rfl
theorem dX11_passWork_6 : decode cX11_passWork 6 = .ok (.aload_n 2, 1) := getB' kX11_passWork 4 rfl
theorem dX11_passWork_7 : decode cX11_passWork 7 = .ok (.ifnull 31, 3) := getB' kX11_passWork 5 rfl
theorem dX11_passWork_10 : decode cX11_passWork 10 = .ok (.aload_n 0, 1) := getB' kX11_passWork 6 rfl
theorem dX11_passWork_11 : decode cX11_passWork 11 = .ok (.getfield 12, 3) := getB' kX11_passWork 7 rfl
theorem dX11_passWork_14 : decode cX11_passWork 14 = .ok (.getfield 145, 3) := getB' kX11_passWork 8 rfl
theorem dX11_passWork_17 : decode cX11_passWork 17 = .ok (.aload_n 2, 1) := getB' kX11_passWork 9 rfl
theorem dX11_passWork_18 : decode cX11_passWork 18 = .ok (.getfield 452, 3) := getB' kX11_passWork 10 rfl
theorem dX11_passWork_21 : decode cX11_passWork 21 = .ok (.if_icmp .lt 17, 3) := getB' kX11_passWork 11 rfl
theorem dX11_passWork_24 : decode cX11_passWork 24 = .ok (.aload_n 0, 1) := getB' kX11_passWork 12 rfl
theorem dX11_passWork_25 : decode cX11_passWork 25 = .ok (.getfield 12, 3) := getB' kX11_passWork 13 rfl
theorem dX11_passWork_28 : decode cX11_passWork 28 = .ok (.getfield 145, 3) := getB' kX11_passWork 14 rfl
theorem dX11_passWork_31 : decode cX11_passWork 31 = .ok (.aload_n 2, 1) := getB' kX11_passWork 15 rfl
theorem dX11_passWork_32 : decode cX11_passWork 32 = .ok (.getfield 455, 3) := getB' kX11_passWork 16 rfl
theorem dX11_passWork_35 : decode cX11_passWork 35 = .ok (.if_icmp .le 4, 3) := getB' kX11_passWork 17 rfl
theorem dX11_passWork_38 : decode cX11_passWork 38 = .ok (.return_, 1) := getB' kX11_passWork 18 rfl
theorem dX11_passWork_39 : decode cX11_passWork 39 = .ok (.aload_n 0, 1) := getB' kX11_passWork 19 rfl
theorem dX11_passWork_40 : decode cX11_passWork 40 = .ok (.aload_n 2, 1) := getB' kX11_passWork 20 rfl
theorem dX11_passWork_41 : decode cX11_passWork 41 = .ok (.aload_n 0, 1) := getB' kX11_passWork 21 rfl
theorem dX11_passWork_42 : decode cX11_passWork 42 = .ok (.getfield 12, 3) := getB' kX11_passWork 22 rfl
theorem dX11_passWork_45 : decode cX11_passWork 45 = .ok (.getfield 145, 3) := getB' kX11_passWork 23 rfl
theorem dX11_passWork_48 : decode cX11_passWork 48 = .ok (.iconst 0, 1) := getB' kX11_passWork 24 rfl
theorem dX11_passWork_49 : decode cX11_passWork 49 = .ok (.invokevirtual 331, 3) := getB' kX11_passWork 25 rfl
theorem dX11_passWork_52 : decode cX11_passWork 52 = .ok (.ifCond .eq 14, 3) := getB' kX11_passWork 26 rfl
theorem dX11_passWork_55 : decode cX11_passWork 55 = .ok (.aload_n 2, 1) := getB' kX11_passWork 27 rfl
theorem dX11_passWork_56 : decode cX11_passWork 56 = .ok (.dup, 1) := getB' kX11_passWork 28 rfl
theorem dX11_passWork_57 : decode cX11_passWork 57 = .ok (.getfield 458, 3) := getB' kX11_passWork 29 rfl
theorem dX11_passWork_60 : decode cX11_passWork 60 = .ok (.iconst 1, 1) := getB' kX11_passWork 30 rfl
theorem dX11_passWork_61 : decode cX11_passWork 61 = .ok (.iadd, 1) := getB' kX11_passWork 31 rfl
theorem dX11_passWork_62 : decode cX11_passWork 62 = .ok (.putfield 458, 3) := getB' kX11_passWork 32 rfl
theorem dX11_passWork_65 : decode cX11_passWork 65 = .ok (.return_, 1) := getB' kX11_passWork 33 rfl
theorem dX11_passWork_66 : decode cX11_passWork 66 = .ok (.aload_n 2, 1) := getB' kX11_passWork 34 rfl
theorem dX11_passWork_67 : decode cX11_passWork 67 = .ok (.dup, 1) := getB' kX11_passWork 35 rfl
theorem dX11_passWork_68 : decode cX11_passWork 68 = .ok (.getfield 461, 3) := getB' kX11_passWork 36 rfl
theorem dX11_passWork_71 : decode cX11_passWork 71 = .ok (.iconst 1, 1) := getB' kX11_passWork 37 rfl
theorem dX11_passWork_72 : decode cX11_passWork 72 = .ok (.iadd, 1) := getB' kX11_passWork 38 rfl
theorem dX11_passWork_73 : decode cX11_passWork 73 = .ok (.putfield 461, 3) := getB' kX11_passWork 39 rfl
theorem dX11_passWork_76 : decode cX11_passWork 76 = .ok (.aload_n 0, 1) := getB' kX11_passWork 40 rfl
theorem dX11_passWork_77 : decode cX11_passWork 77 = .ok (.aload_n 2, 1) := getB' kX11_passWork 41 rfl
theorem dX11_passWork_78 : decode cX11_passWork 78 = .ok (.getfield 353, 3) := getB' kX11_passWork 42 rfl
theorem dX11_passWork_81 : decode cX11_passWork 81 = .ok (.invokevirtual 151, 3) := getB' kX11_passWork 43 rfl
theorem dX11_passWork_84 : decode cX11_passWork 84 = .ok (.astore_n 3, 1) := getB' kX11_passWork 44 rfl
theorem dX11_passWork_85 : decode cX11_passWork 85 = .ok (.aload_n 2, 1) := getB' kX11_passWork 45 rfl
theorem dX11_passWork_86 : decode cX11_passWork 86 = .ok (.getfield 375, 3) := getB' kX11_passWork 46 rfl
theorem dX11_passWork_89 : decode cX11_passWork 89 = .ok (.ifCond .ne 17, 3) := getB' kX11_passWork 47 rfl
theorem dX11_passWork_92 : decode cX11_passWork 92 = .ok (.aload_n 3, 1) := getB' kX11_passWork 48 rfl
theorem dX11_passWork_93 : decode cX11_passWork 93 = .ok (.ifnull 13, 3) := getB' kX11_passWork 49 rfl
theorem dX11_passWork_96 : decode cX11_passWork 96 = .ok (.aload_n 3, 1) := getB' kX11_passWork 50 rfl
theorem dX11_passWork_97 : decode cX11_passWork 97 = .ok (.dup, 1) := getB' kX11_passWork 51 rfl
theorem dX11_passWork_98 : decode cX11_passWork 98 = .ok (.getfield 464, 3) := getB' kX11_passWork 52 rfl
theorem dX11_passWork_101 : decode cX11_passWork 101 = .ok (.iconst 1, 1) := getB' kX11_passWork 53 rfl
theorem dX11_passWork_102 : decode cX11_passWork 102 = .ok (.iadd, 1) := getB' kX11_passWork 54 rfl
theorem dX11_passWork_103 : decode cX11_passWork 103 = .ok (.putfield 464, 3) := getB' kX11_passWork 55 rfl
theorem dX11_passWork_106 : decode cX11_passWork 106 = .ok (.aload_n 0, 1) := getB' kX11_passWork 56 rfl
theorem dX11_passWork_107 : decode cX11_passWork 107 = .ok (.aload_n 2, 1) := getB' kX11_passWork 57 rfl
theorem dX11_passWork_108 : decode cX11_passWork 108 = .ok (.invokevirtual 467, 3) := getB' kX11_passWork 58 rfl
theorem dX11_passWork_111 : decode cX11_passWork 111 = .ok (.iconst 0, 1) := getB' kX11_passWork 59 rfl
theorem dX11_passWork_112 : decode cX11_passWork 112 = .ok (.istore 4, 2) := getB' kX11_passWork 60 rfl
theorem dX11_passWork_114 : decode cX11_passWork 114 = .ok (.iload 4, 2) := getB' kX11_passWork 61 rfl
theorem dX11_passWork_116 : decode cX11_passWork 116 = .ok (.aload_n 0, 1) := getB' kX11_passWork 62 rfl
theorem dX11_passWork_117 : decode cX11_passWork 117 = .ok (.getfield 79, 3) := getB' kX11_passWork 63 rfl
theorem dX11_passWork_120 : decode cX11_passWork 120 = .ok (.getfield 199, 3) := getB' kX11_passWork 64 rfl
theorem dX11_passWork_123 : decode cX11_passWork 123 = .ok (.if_icmp .ge 29, 3) := getB' kX11_passWork 65 rfl
theorem dX11_passWork_126 : decode cX11_passWork 126 = .ok (.aload_n 0, 1) := getB' kX11_passWork 66 rfl
theorem dX11_passWork_127 : decode cX11_passWork 127 = .ok (.getfield 79, 3) := getB' kX11_passWork 67 rfl
theorem dX11_passWork_130 : decode cX11_passWork 130 = .ok (.iload 4, 2) := getB' kX11_passWork 68 rfl
theorem dX11_passWork_132 : decode cX11_passWork 132 = .ok (.iconst 1, 1) := getB' kX11_passWork 69 rfl
theorem dX11_passWork_133 : decode cX11_passWork 133 = .ok (.invokevirtual 209, 3) := getB' kX11_passWork 70 rfl
theorem dX11_passWork_136 : decode cX11_passWork 136 = .ok (.iload_n 1, 1) := getB' kX11_passWork 71 rfl
theorem dX11_passWork_137 : decode cX11_passWork 137 = .ok (.if_icmp .ne 9, 3) := getB' kX11_passWork 72 rfl
theorem dX11_passWork_140 : decode cX11_passWork 140 = .ok (.aload_n 0, 1) := getB' kX11_passWork 73 rfl
theorem dX11_passWork_141 : decode cX11_passWork 141 = .ok (.iload 4, 2) := getB' kX11_passWork 74 rfl
theorem dX11_passWork_143 : decode cX11_passWork 143 = .ok (.invokevirtual 470, 3) := getB' kX11_passWork 75 rfl
theorem dX11_passWork_146 : decode cX11_passWork 146 = .ok (.iinc 4 1, 3) := getB' kX11_passWork 76 rfl
theorem dX11_passWork_149 : decode cX11_passWork 149 = .ok (.goto (-35), 3) := getB' kX11_passWork 77 rfl
theorem dX11_passWork_152 : decode cX11_passWork 152 = .ok (.return_, 1) := getB' kX11_passWork 78 rfl
def LX11_disturbNests : List (Nat × Instr × Nat) := [(0, .aload_n 0, 1), (1, .getfield 12, 3), (4, .getfield 145, 3), (7, .sipush 360, 3), (10, .idiv, 1), (11, .istore_n 2, 1), (12, .iconst 0, 1), (13, .istore_n 3, 1), (14, .iload_n 3, 1), (15, .aload_n 0, 1), (16, .getfield 46, 3), (19, .if_icmp .ge 72, 3), (22, .aload_n 0, 1), (23, .iload_n 3, 1), (24, .iconst 5, 1), (25, .invokevirtual 169, 3), (28, .astore 4, 2), (30, .aload 4, 2), (32, .ifnonnull 6, 3), (35, .goto 50, 3), (38, .aload_n 0, 1), (39, .getfield 12, 3), (42, .aload_n 1, 1), (43, .getfield 378, 3), (46, .aload 4, 2), (48, .getfield 344, 3), (51, .invokevirtual 388, 3), (54, .istore 5, 2), (56, .iload 5, 2), (58, .ifCond .lt 27, 3), (61, .iload 5, 2), (63, .iconst 3, 1), (64, .if_icmp .gt 21, 3), (67, .aload 4, 2), (69, .getfield 473, 3), (72, .iload_n 2, 1), (73, .aload_n 1, 1), (74, .getfield 306, 3), (77, .iload 5, 2), (79, .iconst 1, 1), (80, .iadd, 1), (81, .idiv, 1), (82, .invokestatic 476, 3), (85, .iinc 3 1, 3), (88, .goto (-74), 3), (91, .return_, 1)]
theorem kX11_disturbNests : chkB cX11_disturbNests LX11_disturbNests = true := by decide +kernel
theorem dX11_disturbNests_0 : decode cX11_disturbNests 0 = .ok (.aload_n 0, 1) := getB' kX11_disturbNests 0 rfl
theorem dX11_disturbNests_1 : decode cX11_disturbNests 1 = .ok (.getfield 12, 3) := getB' kX11_disturbNests 1 rfl
theorem dX11_disturbNests_4 : decode cX11_disturbNests 4 = .ok (.getfield 145, 3) := getB' kX11_disturbNests 2 rfl
theorem dX11_disturbNests_7 : decode cX11_disturbNests 7 = .ok (.sipush 360, 3) := getB' kX11_disturbNests 3 rfl
theorem dX11_disturbNests_10 : decode cX11_disturbNests 10 = .ok (.idiv, 1) := getB' kX11_disturbNests 4 rfl
theorem dX11_disturbNests_11 : decode cX11_disturbNests 11 = .ok (.istore_n 2, 1) := getB' kX11_disturbNests 5 rfl
theorem dX11_disturbNests_12 : decode cX11_disturbNests 12 = .ok (.iconst 0, 1) := getB' kX11_disturbNests 6 rfl
theorem dX11_disturbNests_13 : decode cX11_disturbNests 13 = .ok (.istore_n 3, 1) := getB' kX11_disturbNests 7 rfl
theorem dX11_disturbNests_14 : decode cX11_disturbNests 14 = .ok (.iload_n 3, 1) := getB' kX11_disturbNests 8 rfl
theorem dX11_disturbNests_15 : decode cX11_disturbNests 15 = .ok (.aload_n 0, 1) := getB' kX11_disturbNests 9 rfl
theorem dX11_disturbNests_16 : decode cX11_disturbNests 16 = .ok (.getfield 46, 3) := getB' kX11_disturbNests 10 rfl
theorem dX11_disturbNests_19 : decode cX11_disturbNests 19 = .ok (.if_icmp .ge 72, 3) := getB' kX11_disturbNests 11 rfl
theorem dX11_disturbNests_22 : decode cX11_disturbNests 22 = .ok (.aload_n 0, 1) := getB' kX11_disturbNests 12 rfl
theorem dX11_disturbNests_23 : decode cX11_disturbNests 23 = .ok (.iload_n 3, 1) := getB' kX11_disturbNests 13 rfl
theorem dX11_disturbNests_24 : decode cX11_disturbNests 24 = .ok (.iconst 5, 1) := getB' kX11_disturbNests 14 rfl
theorem dX11_disturbNests_25 : decode cX11_disturbNests 25 = .ok (.invokevirtual 169, 3) := getB' kX11_disturbNests 15 rfl
theorem dX11_disturbNests_28 : decode cX11_disturbNests 28 = .ok (.astore 4, 2) := getB' kX11_disturbNests 16 rfl
theorem dX11_disturbNests_30 : decode cX11_disturbNests 30 = .ok (.aload 4, 2) := getB' kX11_disturbNests 17 rfl
theorem dX11_disturbNests_32 : decode cX11_disturbNests 32 = .ok (.ifnonnull 6, 3) := getB' kX11_disturbNests 18 rfl
theorem dX11_disturbNests_35 : decode cX11_disturbNests 35 = .ok (.goto 50, 3) := getB' kX11_disturbNests 19 rfl
theorem dX11_disturbNests_38 : decode cX11_disturbNests 38 = .ok (.aload_n 0, 1) := getB' kX11_disturbNests 20 rfl
theorem dX11_disturbNests_39 : decode cX11_disturbNests 39 = .ok (.getfield 12, 3) := getB' kX11_disturbNests 21 rfl
theorem dX11_disturbNests_42 : decode cX11_disturbNests 42 = .ok (.aload_n 1, 1) := getB' kX11_disturbNests 22 rfl
theorem dX11_disturbNests_43 : decode cX11_disturbNests 43 = .ok (.getfield 378, 3) := getB' kX11_disturbNests 23 rfl
theorem dX11_disturbNests_46 : decode cX11_disturbNests 46 = .ok (.aload 4, 2) := getB' kX11_disturbNests 24 rfl
theorem dX11_disturbNests_48 : decode cX11_disturbNests 48 = .ok (.getfield 344, 3) := getB' kX11_disturbNests 25 rfl
theorem dX11_disturbNests_51 : decode cX11_disturbNests 51 = .ok (.invokevirtual 388, 3) := getB' kX11_disturbNests 26 rfl
theorem dX11_disturbNests_54 : decode cX11_disturbNests 54 = .ok (.istore 5, 2) := getB' kX11_disturbNests 27 rfl
theorem dX11_disturbNests_56 : decode cX11_disturbNests 56 = .ok (.iload 5, 2) := getB' kX11_disturbNests 28 rfl
theorem dX11_disturbNests_58 : decode cX11_disturbNests 58 = .ok (.ifCond .lt 27, 3) := getB' kX11_disturbNests 29 rfl
theorem dX11_disturbNests_61 : decode cX11_disturbNests 61 = .ok (.iload 5, 2) := getB' kX11_disturbNests 30 rfl
theorem dX11_disturbNests_63 : decode cX11_disturbNests 63 = .ok (.iconst 3, 1) := getB' kX11_disturbNests 31 rfl
theorem dX11_disturbNests_64 : decode cX11_disturbNests 64 = .ok (.if_icmp .gt 21, 3) := getB' kX11_disturbNests 32 rfl
theorem dX11_disturbNests_67 : decode cX11_disturbNests 67 = .ok (.aload 4, 2) := getB' kX11_disturbNests 33 rfl
theorem dX11_disturbNests_69 : decode cX11_disturbNests 69 = .ok (.getfield 473, 3) := getB' kX11_disturbNests 34 rfl
theorem dX11_disturbNests_72 : decode cX11_disturbNests 72 = .ok (.iload_n 2, 1) := getB' kX11_disturbNests 35 rfl
theorem dX11_disturbNests_73 : decode cX11_disturbNests 73 = .ok (.aload_n 1, 1) := getB' kX11_disturbNests 36 rfl
theorem dX11_disturbNests_74 : decode cX11_disturbNests 74 = .ok (.getfield 306, 3) := getB' kX11_disturbNests 37 rfl
theorem dX11_disturbNests_77 : decode cX11_disturbNests 77 = .ok (.iload 5, 2) := getB' kX11_disturbNests 38 rfl
theorem dX11_disturbNests_79 : decode cX11_disturbNests 79 = .ok (.iconst 1, 1) := getB' kX11_disturbNests 39 rfl
theorem dX11_disturbNests_80 : decode cX11_disturbNests 80 = .ok (.iadd, 1) := getB' kX11_disturbNests 40 rfl
theorem dX11_disturbNests_81 : decode cX11_disturbNests 81 = .ok (.idiv, 1) := getB' kX11_disturbNests 41 rfl
theorem dX11_disturbNests_82 : decode cX11_disturbNests 82 = .ok (.invokestatic 476, 3) := getB' kX11_disturbNests 42 rfl
theorem dX11_disturbNests_85 : decode cX11_disturbNests 85 = .ok (.iinc 3 1, 3) := getB' kX11_disturbNests 43 rfl
theorem dX11_disturbNests_88 : decode cX11_disturbNests 88 = .ok (.goto (-74), 3) := getB' kX11_disturbNests 44 rfl
theorem dX11_disturbNests_91 : decode cX11_disturbNests 91 = .ok (.return_, 1) := getB' kX11_disturbNests 45 rfl
def LX11_goDown : List (Nat × Instr × Nat) := [(0, .aload_n 0, 1), (1, .aload_n 0, 1), (2, .getfield 79, 3), (5, .iload_n 1, 1), (6, .iconst 0, 1), (7, .invokevirtual 209, 3), (10, .iconst 4, 1), (11, .invokevirtual 169, 3), (14, .astore_n 2, 1), (15, .aload_n 2, 1), (16, .ifnonnull 4, 3), (19, .return_, 1), (20, .aload_n 0, 1), (21, .getfield 79, 3), (24, .iload_n 1, 1), (25, .iconst 2, 1), (26, .invokevirtual 209, 3), (29, .istore_n 3, 1), (30, .iload_n 3, 1), (31, .sipush 500, 3), (34, .idiv, 1), (35, .bipush 9, 2), (37, .invokestatic 479, 3), (40, .istore 4, 2), (42, .aload_n 2, 1), (43, .invokevirtual 482, 3), (46, .aload_n 0, 1), (47, .getfield 94, 3), (50, .bipush 10, 2), (52, .invokestatic 253, 3), (55, .isub, 1), (56, .istore 5, 2), (58, .iload_n 3, 1), (59, .aload_n 0, 1), (60, .getfield 94, 3), (63, .iload 4, 2), (65, .invokestatic 253, 3), (68, .iadd, 1), (69, .iload 5, 2), (71, .invokestatic 479, 3), (74, .istore 6, 2), (76, .aload_n 0, 1), (77, .getfield 79, 3), (80, .iload_n 1, 1), (81, .iconst 2, 1), (82, .iload_n 3, 1), (83, .iload 6, 2), (85, .invokestatic 296, 3), (88, .invokevirtual 485, 3), (91, .return_, 1)]
theorem kX11_goDown : chkB cX11_goDown LX11_goDown = true := by decide +kernel
theorem dX11_goDown_0 : decode cX11_goDown 0 = .ok (.aload_n 0, 1) := getB' kX11_goDown 0 rfl
theorem dX11_goDown_1 : decode cX11_goDown 1 = .ok (.aload_n 0, 1) := getB' kX11_goDown 1 rfl
theorem dX11_goDown_2 : decode cX11_goDown 2 = .ok (.getfield 79, 3) := getB' kX11_goDown 2 rfl
theorem dX11_goDown_5 : decode cX11_goDown 5 = .ok (.iload_n 1, 1) := getB' kX11_goDown 3 rfl
theorem dX11_goDown_6 : decode cX11_goDown 6 = .ok (.iconst 0, 1) := getB' kX11_goDown 4 rfl
theorem dX11_goDown_7 : decode cX11_goDown 7 = .ok (.invokevirtual 209, 3) := getB' kX11_goDown 5 rfl
theorem dX11_goDown_10 : decode cX11_goDown 10 = .ok (.iconst 4, 1) := getB' kX11_goDown 6 rfl
theorem dX11_goDown_11 : decode cX11_goDown 11 = .ok (.invokevirtual 169, 3) := getB' kX11_goDown 7 rfl
theorem dX11_goDown_14 : decode cX11_goDown 14 = .ok (.astore_n 2, 1) := getB' kX11_goDown 8 rfl
theorem dX11_goDown_15 : decode cX11_goDown 15 = .ok (.aload_n 2, 1) := getB' kX11_goDown 9 rfl
theorem dX11_goDown_16 : decode cX11_goDown 16 = .ok (.ifnonnull 4, 3) := getB' kX11_goDown 10 rfl
theorem dX11_goDown_19 : decode cX11_goDown 19 = .ok (.return_, 1) := getB' kX11_goDown 11 rfl
theorem dX11_goDown_20 : decode cX11_goDown 20 = .ok (.aload_n 0, 1) := getB' kX11_goDown 12 rfl
theorem dX11_goDown_21 : decode cX11_goDown 21 = .ok (.getfield 79, 3) := getB' kX11_goDown 13 rfl
theorem dX11_goDown_24 : decode cX11_goDown 24 = .ok (.iload_n 1, 1) := getB' kX11_goDown 14 rfl
theorem dX11_goDown_25 : decode cX11_goDown 25 = .ok (.iconst 2, 1) := getB' kX11_goDown 15 rfl
theorem dX11_goDown_26 : decode cX11_goDown 26 = .ok (.invokevirtual 209, 3) := getB' kX11_goDown 16 rfl
theorem dX11_goDown_29 : decode cX11_goDown 29 = .ok (.istore_n 3, 1) := getB' kX11_goDown 17 rfl
theorem dX11_goDown_30 : decode cX11_goDown 30 = .ok (.iload_n 3, 1) := getB' kX11_goDown 18 rfl
theorem dX11_goDown_31 : decode cX11_goDown 31 = .ok (.sipush 500, 3) := getB' kX11_goDown 19 rfl
theorem dX11_goDown_34 : decode cX11_goDown 34 = .ok (.idiv, 1) := getB' kX11_goDown 20 rfl
theorem dX11_goDown_35 : decode cX11_goDown 35 = .ok (.bipush 9, 2) := getB' kX11_goDown 21 rfl
theorem dX11_goDown_37 : decode cX11_goDown 37 = .ok (.invokestatic 479, 3) := getB' kX11_goDown 22 rfl
theorem dX11_goDown_40 : decode cX11_goDown 40 = .ok (.istore 4, 2) := getB' kX11_goDown 23 rfl
theorem dX11_goDown_42 : decode cX11_goDown 42 = .ok (.aload_n 2, 1) := getB' kX11_goDown 24 rfl
theorem dX11_goDown_43 : decode cX11_goDown 43 = .ok (.invokevirtual 482, 3) := getB' kX11_goDown 25 rfl
theorem dX11_goDown_46 : decode cX11_goDown 46 = .ok (.aload_n 0, 1) := getB' kX11_goDown 26 rfl
theorem dX11_goDown_47 : decode cX11_goDown 47 = .ok (.getfield 94, 3) := getB' kX11_goDown 27 rfl
theorem dX11_goDown_50 : decode cX11_goDown 50 = .ok (.bipush 10, 2) := getB' kX11_goDown 28 rfl
theorem dX11_goDown_52 : decode cX11_goDown 52 = .ok (.invokestatic 253, 3) := getB' kX11_goDown 29 rfl
theorem dX11_goDown_55 : decode cX11_goDown 55 = .ok (.isub, 1) := getB' kX11_goDown 30 rfl
theorem dX11_goDown_56 : decode cX11_goDown 56 = .ok (.istore 5, 2) := getB' kX11_goDown 31 rfl
theorem dX11_goDown_58 : decode cX11_goDown 58 = .ok (.iload_n 3, 1) := getB' kX11_goDown 32 rfl
theorem dX11_goDown_59 : decode cX11_goDown 59 = .ok (.aload_n 0, 1) := getB' kX11_goDown 33 rfl
theorem dX11_goDown_60 : decode cX11_goDown 60 = .ok (.getfield 94, 3) := getB' kX11_goDown 34 rfl
theorem dX11_goDown_63 : decode cX11_goDown 63 = .ok (.iload 4, 2) := getB' kX11_goDown 35 rfl
theorem dX11_goDown_65 : decode cX11_goDown 65 = .ok (.invokestatic 253, 3) := getB' kX11_goDown 36 rfl
theorem dX11_goDown_68 : decode cX11_goDown 68 = .ok (.iadd, 1) := getB' kX11_goDown 37 rfl
theorem dX11_goDown_69 : decode cX11_goDown 69 = .ok (.iload 5, 2) := getB' kX11_goDown 38 rfl
theorem dX11_goDown_71 : decode cX11_goDown 71 = .ok (.invokestatic 479, 3) := getB' kX11_goDown 39 rfl
theorem dX11_goDown_74 : decode cX11_goDown 74 = .ok (.istore 6, 2) := getB' kX11_goDown 40 rfl
theorem dX11_goDown_76 : decode cX11_goDown 76 = .ok (.aload_n 0, 1) := getB' kX11_goDown 41 rfl
theorem dX11_goDown_77 : decode cX11_goDown 77 = .ok (.getfield 79, 3) := getB' kX11_goDown 42 rfl
theorem dX11_goDown_80 : decode cX11_goDown 80 = .ok (.iload_n 1, 1) := getB' kX11_goDown 43 rfl
theorem dX11_goDown_81 : decode cX11_goDown 81 = .ok (.iconst 2, 1) := getB' kX11_goDown 44 rfl
theorem dX11_goDown_82 : decode cX11_goDown 82 = .ok (.iload_n 3, 1) := getB' kX11_goDown 45 rfl
theorem dX11_goDown_83 : decode cX11_goDown 83 = .ok (.iload 6, 2) := getB' kX11_goDown 46 rfl
theorem dX11_goDown_85 : decode cX11_goDown 85 = .ok (.invokestatic 296, 3) := getB' kX11_goDown 47 rfl
theorem dX11_goDown_88 : decode cX11_goDown 88 = .ok (.invokevirtual 485, 3) := getB' kX11_goDown 48 rfl
theorem dX11_goDown_91 : decode cX11_goDown 91 = .ok (.return_, 1) := getB' kX11_goDown 49 rfl
def LX11_admitParties : List (Nat × Instr × Nat) := [(0, .iconst 0, 1), (1, .istore_n 1, 1), (2, .iload_n 1, 1), (3, .aload_n 0, 1), (4, .getfield 36, 3), (7, .if_icmp .ge 82, 3), (10, .aload_n 0, 1), (11, .iload_n 1, 1), (12, .invokevirtual 151, 3), (15, .astore_n 2, 1), (16, .aload_n 2, 1), (17, .ifnull 66, 3), (20, .aload_n 2, 1), (21, .getfield 341, 3), (24, .iconst (-1), 1), (25, .if_icmp .eq 6, 3), (28, .goto 55, 3), (31, .aload_n 0, 1), (32, .getfield 19, 3), (35, .iload_n 1, 1), (36, .aload_n 2, 1), (37, .aload_n 0, 1), (38, .getfield 12, 3), (41, .getfield 145, 3), (44, .invokevirtual 279, 3), (47, .aload_n 0, 1), (48, .getfield 19, 3), (51, .bipush 113, 2), (53, .iconst 0, 1), (54, .iconst 0, 1), (55, .invokevirtual 292, 3), (58, .istore_n 3, 1), (59, .iload_n 3, 1), (60, .iconst (-1), 1), (61, .if_icmp .eq 22, 3), (64, .aload_n 2, 1), (65, .getfield 464, 3), (68, .iload_n 3, 1), (69, .if_icmp .lt 14, 3), (72, .aload_n 2, 1), (73, .aload_n 0, 1), (74, .getfield 12, 3), (77, .getfield 145, 3), (80, .putfield 341, 3), (83, .iinc 1 1, 3), (86, .goto (-84), 3), (89, .return_, 1)]
theorem kX11_admitParties : chkB cX11_admitParties LX11_admitParties = true := by decide +kernel
theorem dX11_admitParties_0 : decode cX11_admitParties 0 = .ok (.iconst 0, 1) := getB' kX11_admitParties 0 rfl
theorem dX11_admitParties_1 : decode cX11_admitParties 1 = .ok (.istore_n 1, 1) := getB' kX11_admitParties 1 rfl
theorem dX11_admitParties_2 : decode cX11_admitParties 2 = .ok (.iload_n 1, 1) := getB' kX11_admitParties 2 rfl
theorem dX11_admitParties_3 : decode cX11_admitParties 3 = .ok (.aload_n 0, 1) := getB' kX11_admitParties 3 rfl
theorem dX11_admitParties_4 : decode cX11_admitParties 4 = .ok (.getfield 36, 3) := getB' kX11_admitParties 4 rfl
theorem dX11_admitParties_7 : decode cX11_admitParties 7 = .ok (.if_icmp .ge 82, 3) := getB' kX11_admitParties 5 rfl
theorem dX11_admitParties_10 : decode cX11_admitParties 10 = .ok (.aload_n 0, 1) := getB' kX11_admitParties 6 rfl
theorem dX11_admitParties_11 : decode cX11_admitParties 11 = .ok (.iload_n 1, 1) := getB' kX11_admitParties 7 rfl
theorem dX11_admitParties_12 : decode cX11_admitParties 12 = .ok (.invokevirtual 151, 3) := getB' kX11_admitParties 8 rfl
theorem dX11_admitParties_15 : decode cX11_admitParties 15 = .ok (.astore_n 2, 1) := getB' kX11_admitParties 9 rfl
theorem dX11_admitParties_16 : decode cX11_admitParties 16 = .ok (.aload_n 2, 1) := getB' kX11_admitParties 10 rfl
theorem dX11_admitParties_17 : decode cX11_admitParties 17 = .ok (.ifnull 66, 3) := getB' kX11_admitParties 11 rfl
theorem dX11_admitParties_20 : decode cX11_admitParties 20 = .ok (.aload_n 2, 1) := getB' kX11_admitParties 12 rfl
theorem dX11_admitParties_21 : decode cX11_admitParties 21 = .ok (.getfield 341, 3) := getB' kX11_admitParties 13 rfl
theorem dX11_admitParties_24 : decode cX11_admitParties 24 = .ok (.iconst (-1), 1) := getB' kX11_admitParties 14 rfl
theorem dX11_admitParties_25 : decode cX11_admitParties 25 = .ok (.if_icmp .eq 6, 3) := getB' kX11_admitParties 15 rfl
theorem dX11_admitParties_28 : decode cX11_admitParties 28 = .ok (.goto 55, 3) := getB' kX11_admitParties 16 rfl
theorem dX11_admitParties_31 : decode cX11_admitParties 31 = .ok (.aload_n 0, 1) := getB' kX11_admitParties 17 rfl
theorem dX11_admitParties_32 : decode cX11_admitParties 32 = .ok (.getfield 19, 3) := getB' kX11_admitParties 18 rfl
theorem dX11_admitParties_35 : decode cX11_admitParties 35 = .ok (.iload_n 1, 1) := getB' kX11_admitParties 19 rfl
theorem dX11_admitParties_36 : decode cX11_admitParties 36 = .ok (.aload_n 2, 1) := getB' kX11_admitParties 20 rfl
theorem dX11_admitParties_37 : decode cX11_admitParties 37 = .ok (.aload_n 0, 1) := getB' kX11_admitParties 21 rfl
theorem dX11_admitParties_38 : decode cX11_admitParties 38 = .ok (.getfield 12, 3) := getB' kX11_admitParties 22 rfl
theorem dX11_admitParties_41 : decode cX11_admitParties 41 = .ok (.getfield 145, 3) := getB' kX11_admitParties 23 rfl
theorem dX11_admitParties_44 : decode cX11_admitParties 44 = .ok (.invokevirtual 279, 3) := getB' kX11_admitParties 24 rfl
theorem dX11_admitParties_47 : decode cX11_admitParties 47 = .ok (.aload_n 0, 1) := getB' kX11_admitParties 25 rfl
theorem dX11_admitParties_48 : decode cX11_admitParties 48 = .ok (.getfield 19, 3) := getB' kX11_admitParties 26 rfl
theorem dX11_admitParties_51 : decode cX11_admitParties 51 = .ok (.bipush 113, 2) := getB' kX11_admitParties 27 rfl
theorem dX11_admitParties_53 : decode cX11_admitParties 53 = .ok (.iconst 0, 1) := getB' kX11_admitParties 28 rfl
theorem dX11_admitParties_54 : decode cX11_admitParties 54 = .ok (.iconst 0, 1) := getB' kX11_admitParties 29 rfl
theorem dX11_admitParties_55 : decode cX11_admitParties 55 = .ok (.invokevirtual 292, 3) := getB' kX11_admitParties 30 rfl
theorem dX11_admitParties_58 : decode cX11_admitParties 58 = .ok (.istore_n 3, 1) := getB' kX11_admitParties 31 rfl
theorem dX11_admitParties_59 : decode cX11_admitParties 59 = .ok (.iload_n 3, 1) := getB' kX11_admitParties 32 rfl
theorem dX11_admitParties_60 : decode cX11_admitParties 60 = .ok (.iconst (-1), 1) := getB' kX11_admitParties 33 rfl
theorem dX11_admitParties_61 : decode cX11_admitParties 61 = .ok (.if_icmp .eq 22, 3) := getB' kX11_admitParties 34 rfl
theorem dX11_admitParties_64 : decode cX11_admitParties 64 = .ok (.aload_n 2, 1) := getB' kX11_admitParties 35 rfl
theorem dX11_admitParties_65 : decode cX11_admitParties 65 = .ok (.getfield 464, 3) := getB' kX11_admitParties 36 rfl
theorem dX11_admitParties_68 : decode cX11_admitParties 68 = .ok (.iload_n 3, 1) := getB' kX11_admitParties 37 rfl
theorem dX11_admitParties_69 : decode cX11_admitParties 69 = .ok (.if_icmp .lt 14, 3) := getB' kX11_admitParties 38 rfl
theorem dX11_admitParties_72 : decode cX11_admitParties 72 = .ok (.aload_n 2, 1) := getB' kX11_admitParties 39 rfl
theorem dX11_admitParties_73 : decode cX11_admitParties 73 = .ok (.aload_n 0, 1) := getB' kX11_admitParties 40 rfl
theorem dX11_admitParties_74 : decode cX11_admitParties 74 = .ok (.getfield 12, 3) := getB' kX11_admitParties 41 rfl
theorem dX11_admitParties_77 : decode cX11_admitParties 77 = .ok (.getfield 145, 3) := getB' kX11_admitParties 42 rfl
theorem dX11_admitParties_80 : decode cX11_admitParties 80 = .ok (.putfield 341, 3) := getB' kX11_admitParties 43 rfl
theorem dX11_admitParties_83 : decode cX11_admitParties 83 = .ok (.iinc 1 1, 3) := getB' kX11_admitParties 44 rfl
theorem dX11_admitParties_86 : decode cX11_admitParties 86 = .ok (.goto (-84), 3) := getB' kX11_admitParties 45 rfl
theorem dX11_admitParties_89 : decode cX11_admitParties 89 = .ok (.return_, 1) := getB' kX11_admitParties 46 rfl
def LX11_passStation : List (Nat × Instr × Nat) := [(0, .aload_n 0, 1), (1, .iload_n 1, 1), (2, .invokevirtual 195, 3), (5, .astore_n 2, 1), (6, .aload_n 2, 1), (7, .ifnonnull 4, 3), (10, .return_, 1), (11, .aload_n 0, 1), (12, .getfield 12, 3), (15, .aload_n 0, 1), (16, .getfield 12, 3), (19, .getfield 145, 3), (22, .invokevirtual 381, 3), (25, .istore_n 3, 1), (26, .aload_n 0, 1), (27, .aload_n 2, 1), (28, .aload_n 2, 1), (29, .getfield 183, 3), (32, .bipush 9, 2), (34, .iadd, 1), (35, .bipush 10, 2), (37, .idiv, 1), (38, .iload_n 3, 1), (39, .ifCond .eq 7, 3), (42, .iconst 2, 1), (43, .goto 4, 3), (46, .iconst 1, 1), (47, .imul, 1), (48, .invokevirtual 487, 3), (51, .aload_n 2, 1), (52, .getfield 183, 3), (55, .bipush 49, 2), (57, .iadd, 1), (58, .bipush 50, 2), (60, .idiv, 1), (61, .istore 4, 2), (63, .aload_n 2, 1), (64, .getfield 491, 3), (67, .iload_n 3, 1), (68, .ifCond .eq 7, 3), (71, .iconst 3, 1), (72, .goto 4, 3), (75, .iconst 0, 1), (76, .iload 4, 2), (78, .invokestatic 476, 3), (81, .aload_n 0, 1), (82, .iconst 4, 1), (83, .iload 4, 2), (85, .invokevirtual 192, 3), (88, .aload_n 0, 1), (89, .getfield 12, 3), (92, .aload_n 2, 1), (93, .getfield 344, 3), (96, .aload_n 0, 1), (97, .getfield 12, 3), (100, .getfield 145, 3), (103, .aload_n 2, 1), (104, .getfield 189, 3), (107, .isub, 1), (108, .invokevirtual 494, 3), (111, .ifCond .eq 9, 3), (114, .aload_n 0, 1), (115, .iload_n 1, 1), (116, .aload_n 2, 1), (117, .invokevirtual 497, 3), (120, .return_, 1)]
theorem kX11_passStation : chkB cX11_passStation LX11_passStation = true := by decide +kernel
theorem dX11_passStation_0 : decode cX11_passStation 0 = .ok (.aload_n 0, 1) := getB' kX11_passStation 0 rfl
theorem dX11_passStation_1 : decode cX11_passStation 1 = .ok (.iload_n 1, 1) := getB' kX11_passStation 1 rfl
theorem dX11_passStation_2 : decode cX11_passStation 2 = .ok (.invokevirtual 195, 3) := getB' kX11_passStation 2 rfl
theorem dX11_passStation_5 : decode cX11_passStation 5 = .ok (.astore_n 2, 1) := getB' kX11_passStation 3 rfl
theorem dX11_passStation_6 : decode cX11_passStation 6 = .ok (.aload_n 2, 1) := getB' kX11_passStation 4 rfl
theorem dX11_passStation_7 : decode cX11_passStation 7 = .ok (.ifnonnull 4, 3) := getB' kX11_passStation 5 rfl
theorem dX11_passStation_10 : decode cX11_passStation 10 = .ok (.return_, 1) := getB' kX11_passStation 6 rfl
theorem dX11_passStation_11 : decode cX11_passStation 11 = .ok (.aload_n 0, 1) := getB' kX11_passStation 7 rfl
theorem dX11_passStation_12 : decode cX11_passStation 12 = .ok (.getfield 12, 3) := getB' kX11_passStation 8 rfl
theorem dX11_passStation_15 : decode cX11_passStation 15 = .ok (.aload_n 0, 1) := getB' kX11_passStation 9 rfl
theorem dX11_passStation_16 : decode cX11_passStation 16 = .ok (.getfield 12, 3) := getB' kX11_passStation 10 rfl
theorem dX11_passStation_19 : decode cX11_passStation 19 = .ok (.getfield 145, 3) := getB' kX11_passStation 11 rfl
theorem dX11_passStation_22 : decode cX11_passStation 22 = .ok (.invokevirtual 381, 3) := getB' kX11_passStation 12 rfl
theorem dX11_passStation_25 : decode cX11_passStation 25 = .ok (.istore_n 3, 1) := getB' kX11_passStation 13 rfl
theorem dX11_passStation_26 : decode cX11_passStation 26 = .ok (.aload_n 0, 1) := getB' kX11_passStation 14 rfl
theorem dX11_passStation_27 : decode cX11_passStation 27 = .ok (.aload_n 2, 1) := getB' kX11_passStation 15 rfl
theorem dX11_passStation_28 : decode cX11_passStation 28 = .ok (.aload_n 2, 1) := getB' kX11_passStation 16 rfl
theorem dX11_passStation_29 : decode cX11_passStation 29 = .ok (.getfield 183, 3) := getB' kX11_passStation 17 rfl
theorem dX11_passStation_32 : decode cX11_passStation 32 = .ok (.bipush 9, 2) := getB' kX11_passStation 18 rfl
theorem dX11_passStation_34 : decode cX11_passStation 34 = .ok (.iadd, 1) := getB' kX11_passStation 19 rfl
theorem dX11_passStation_35 : decode cX11_passStation 35 = .ok (.bipush 10, 2) := getB' kX11_passStation 20 rfl
theorem dX11_passStation_37 : decode cX11_passStation 37 = .ok (.idiv, 1) := getB' kX11_passStation 21 rfl
theorem dX11_passStation_38 : decode cX11_passStation 38 = .ok (.iload_n 3, 1) := getB' kX11_passStation 22 rfl
theorem dX11_passStation_39 : decode cX11_passStation 39 = .ok (.ifCond .eq 7, 3) := getB' kX11_passStation 23 rfl
theorem dX11_passStation_42 : decode cX11_passStation 42 = .ok (.iconst 2, 1) := getB' kX11_passStation 24 rfl
theorem dX11_passStation_43 : decode cX11_passStation 43 = .ok (.goto 4, 3) := getB' kX11_passStation 25 rfl
theorem dX11_passStation_46 : decode cX11_passStation 46 = .ok (.iconst 1, 1) := getB' kX11_passStation 26 rfl
theorem dX11_passStation_47 : decode cX11_passStation 47 = .ok (.imul, 1) := getB' kX11_passStation 27 rfl
theorem dX11_passStation_48 : decode cX11_passStation 48 = .ok (.invokevirtual 487, 3) := getB' kX11_passStation 28 rfl
theorem dX11_passStation_51 : decode cX11_passStation 51 = .ok (.aload_n 2, 1) := getB' kX11_passStation 29 rfl
theorem dX11_passStation_52 : decode cX11_passStation 52 = .ok (.getfield 183, 3) := getB' kX11_passStation 30 rfl
theorem dX11_passStation_55 : decode cX11_passStation 55 = .ok (.bipush 49, 2) := getB' kX11_passStation 31 rfl
theorem dX11_passStation_57 : decode cX11_passStation 57 = .ok (.iadd, 1) := getB' kX11_passStation 32 rfl
theorem dX11_passStation_58 : decode cX11_passStation 58 = .ok (.bipush 50, 2) := getB' kX11_passStation 33 rfl
theorem dX11_passStation_60 : decode cX11_passStation 60 = .ok (.idiv, 1) := getB' kX11_passStation 34 rfl
theorem dX11_passStation_61 : decode cX11_passStation 61 = .ok (.istore 4, 2) := getB' kX11_passStation 35 rfl
theorem dX11_passStation_63 : decode cX11_passStation 63 = .ok (.aload_n 2, 1) := getB' kX11_passStation 36 rfl
theorem dX11_passStation_64 : decode cX11_passStation 64 = .ok (.getfield 491, 3) := getB' kX11_passStation 37 rfl
theorem dX11_passStation_67 : decode cX11_passStation 67 = .ok (.iload_n 3, 1) := getB' kX11_passStation 38 rfl
theorem dX11_passStation_68 : decode cX11_passStation 68 = .ok (.ifCond .eq 7, 3) := getB' kX11_passStation 39 rfl
theorem dX11_passStation_71 : decode cX11_passStation 71 = .ok (.iconst 3, 1) := getB' kX11_passStation 40 rfl
theorem dX11_passStation_72 : decode cX11_passStation 72 = .ok (.goto 4, 3) := getB' kX11_passStation 41 rfl
theorem dX11_passStation_75 : decode cX11_passStation 75 = .ok (.iconst 0, 1) := getB' kX11_passStation 42 rfl
theorem dX11_passStation_76 : decode cX11_passStation 76 = .ok (.iload 4, 2) := getB' kX11_passStation 43 rfl
theorem dX11_passStation_78 : decode cX11_passStation 78 = .ok (.invokestatic 476, 3) := getB' kX11_passStation 44 rfl
theorem dX11_passStation_81 : decode cX11_passStation 81 = .ok (.aload_n 0, 1) := getB' kX11_passStation 45 rfl
theorem dX11_passStation_82 : decode cX11_passStation 82 = .ok (.iconst 4, 1) := getB' kX11_passStation 46 rfl
theorem dX11_passStation_83 : decode cX11_passStation 83 = .ok (.iload 4, 2) := getB' kX11_passStation 47 rfl
theorem dX11_passStation_85 : decode cX11_passStation 85 = .ok (.invokevirtual 192, 3) := getB' kX11_passStation 48 rfl
theorem dX11_passStation_88 : decode cX11_passStation 88 = .ok (.aload_n 0, 1) := getB' kX11_passStation 49 rfl
theorem dX11_passStation_89 : decode cX11_passStation 89 = .ok (.getfield 12, 3) := getB' kX11_passStation 50 rfl
theorem dX11_passStation_92 : decode cX11_passStation 92 = .ok (.aload_n 2, 1) := getB' kX11_passStation 51 rfl
theorem dX11_passStation_93 : decode cX11_passStation 93 = .ok (.getfield 344, 3) := getB' kX11_passStation 52 rfl
theorem dX11_passStation_96 : decode cX11_passStation 96 = .ok (.aload_n 0, 1) := getB' kX11_passStation 53 rfl
theorem dX11_passStation_97 : decode cX11_passStation 97 = .ok (.getfield 12, 3) := getB' kX11_passStation 54 rfl
theorem dX11_passStation_100 : decode cX11_passStation 100 = .ok (.getfield 145, 3) := getB' kX11_passStation 55 rfl
theorem dX11_passStation_103 : decode cX11_passStation 103 = .ok (.aload_n 2, 1) := getB' kX11_passStation 56 rfl
theorem dX11_passStation_104 : decode cX11_passStation 104 = .ok (.getfield 189, 3) := getB' kX11_passStation 57 rfl
theorem dX11_passStation_107 : decode cX11_passStation 107 = .ok (.isub, 1) := getB' kX11_passStation 58 rfl
theorem dX11_passStation_108 : decode cX11_passStation 108 = .ok (.invokevirtual 494, 3) := getB' kX11_passStation 59 rfl
theorem dX11_passStation_111 : decode cX11_passStation 111 = .ok (.ifCond .eq 9, 3) := getB' kX11_passStation 60 rfl
theorem dX11_passStation_114 : decode cX11_passStation 114 = .ok (.aload_n 0, 1) := getB' kX11_passStation 61 rfl
theorem dX11_passStation_115 : decode cX11_passStation 115 = .ok (.iload_n 1, 1) := getB' kX11_passStation 62 rfl
theorem dX11_passStation_116 : decode cX11_passStation 116 = .ok (.aload_n 2, 1) := getB' kX11_passStation 63 rfl
theorem dX11_passStation_117 : decode cX11_passStation 117 = .ok (.invokevirtual 497, 3) := getB' kX11_passStation 64 rfl
theorem dX11_passStation_120 : decode cX11_passStation 120 = .ok (.return_, 1) := getB' kX11_passStation 65 rfl
def LX11_burn : List (Nat × Instr × Nat) := [(0, .iload_n 2, 1), (1, .aload_n 1, 1), (2, .getfield 186, 3), (5, .invokestatic 479, 3), (8, .istore_n 3, 1), (9, .aload_n 1, 1), (10, .dup, 1), (11, .getfield 186, 3), (14, .iload_n 3, 1), (15, .isub, 1), (16, .putfield 186, 3), (19, .aload_n 0, 1), (20, .iconst 1, 1), (21, .iload_n 3, 1), (22, .invokevirtual 192, 3), (25, .aload_n 1, 1), (26, .iload_n 3, 1), (27, .iload_n 2, 1), (28, .if_icmp .ge 12, 3), (31, .aload_n 1, 1), (32, .getfield 501, 3), (35, .iconst 1, 1), (36, .iadd, 1), (37, .goto 4, 3), (40, .iconst 0, 1), (41, .putfield 501, 3), (44, .aload_n 1, 1), (45, .getfield 501, 3), (48, .bipush 10, 2), (50, .if_icmp .ne 8, 3), (53, .aload_n 0, 1), (54, .aload_n 1, 1), (55, .invokevirtual 504, 3), (58, .return_, 1)]
theorem kX11_burn : chkB cX11_burn LX11_burn = true := by decide +kernel
theorem dX11_burn_0 : decode cX11_burn 0 = .ok (.iload_n 2, 1) := getB' kX11_burn 0 rfl
theorem dX11_burn_1 : decode cX11_burn 1 = .ok (.aload_n 1, 1) := getB' kX11_burn 1 rfl
theorem dX11_burn_2 : decode cX11_burn 2 = .ok (.getfield 186, 3) := getB' kX11_burn 2 rfl
theorem dX11_burn_5 : decode cX11_burn 5 = .ok (.invokestatic 479, 3) := getB' kX11_burn 3 rfl
theorem dX11_burn_8 : decode cX11_burn 8 = .ok (.istore_n 3, 1) := getB' kX11_burn 4 rfl
theorem dX11_burn_9 : decode cX11_burn 9 = .ok (.aload_n 1, 1) := getB' kX11_burn 5 rfl
theorem dX11_burn_10 : decode cX11_burn 10 = .ok (.dup, 1) := getB' kX11_burn 6 rfl
theorem dX11_burn_11 : decode cX11_burn 11 = .ok (.getfield 186, 3) := getB' kX11_burn 7 rfl
theorem dX11_burn_14 : decode cX11_burn 14 = .ok (.iload_n 3, 1) := getB' kX11_burn 8 rfl
theorem dX11_burn_15 : decode cX11_burn 15 = .ok (.isub, 1) := getB' kX11_burn 9 rfl
theorem dX11_burn_16 : decode cX11_burn 16 = .ok (.putfield 186, 3) := getB' kX11_burn 10 rfl
theorem dX11_burn_19 : decode cX11_burn 19 = .ok (.aload_n 0, 1) := getB' kX11_burn 11 rfl
theorem dX11_burn_20 : decode cX11_burn 20 = .ok (.iconst 1, 1) := getB' kX11_burn 12 rfl
theorem dX11_burn_21 : decode cX11_burn 21 = .ok (.iload_n 3, 1) := getB' kX11_burn 13 rfl
theorem dX11_burn_22 : decode cX11_burn 22 = .ok (.invokevirtual 192, 3) := getB' kX11_burn 14 rfl
theorem dX11_burn_25 : decode cX11_burn 25 = .ok (.aload_n 1, 1) := getB' kX11_burn 15 rfl
theorem dX11_burn_26 : decode cX11_burn 26 = .ok (.iload_n 3, 1) := getB' kX11_burn 16 rfl
theorem dX11_burn_27 : decode cX11_burn 27 = .ok (.iload_n 2, 1) := getB' kX11_burn 17 rfl
theorem dX11_burn_28 : decode cX11_burn 28 = .ok (.if_icmp .ge 12, 3) := getB' kX11_burn 18 rfl
theorem dX11_burn_31 : decode cX11_burn 31 = .ok (.aload_n 1, 1) := getB' kX11_burn 19 rfl
theorem dX11_burn_32 : decode cX11_burn 32 = .ok (.getfield 501, 3) := getB' kX11_burn 20 rfl
theorem dX11_burn_35 : decode cX11_burn 35 = .ok (.iconst 1, 1) := getB' kX11_burn 21 rfl
theorem dX11_burn_36 : decode cX11_burn 36 = .ok (.iadd, 1) := getB' kX11_burn 22 rfl
theorem dX11_burn_37 : decode cX11_burn 37 = .ok (.goto 4, 3) := getB' kX11_burn 23 rfl
theorem dX11_burn_40 : decode cX11_burn 40 = .ok (.iconst 0, 1) := getB' kX11_burn 24 rfl
theorem dX11_burn_41 : decode cX11_burn 41 = .ok (.putfield 501, 3) := getB' kX11_burn 25 rfl
theorem dX11_burn_44 : decode cX11_burn 44 = .ok (.aload_n 1, 1) := getB' kX11_burn 26 rfl
theorem dX11_burn_45 : decode cX11_burn 45 = .ok (.getfield 501, 3) := getB' kX11_burn 27 rfl
theorem dX11_burn_48 : decode cX11_burn 48 = .ok (.bipush 10, 2) := getB' kX11_burn 28 rfl
theorem dX11_burn_50 : decode cX11_burn 50 = .ok (.if_icmp .ne 8, 3) := getB' kX11_burn 29 rfl
theorem dX11_burn_53 : decode cX11_burn 53 = .ok (.aload_n 0, 1) := getB' kX11_burn 30 rfl
theorem dX11_burn_54 : decode cX11_burn 54 = .ok (.aload_n 1, 1) := getB' kX11_burn 31 rfl
theorem dX11_burn_55 : decode cX11_burn 55 = .ok (.invokevirtual 504, 3) := getB' kX11_burn 32 rfl
theorem dX11_burn_58 : decode cX11_burn 58 = .ok (.return_, 1) := getB' kX11_burn 33 rfl
def LX11_sendPeopleHome : List (Nat × Instr × Nat) := [(0, .aload_n 0, 1), (1, .bipush 7, 2), (3, .aload_n 1, 1), (4, .getfield 183, 3), (7, .invokevirtual 192, 3), (10, .aload_n 1, 1), (11, .iconst 0, 1), (12, .putfield 183, 3), (15, .return_, 1)]
theorem kX11_sendPeopleHome : chkB cX11_sendPeopleHome LX11_sendPeopleHome = true := by decide +kernel
theorem dX11_sendPeopleHome_0 : decode cX11_sendPeopleHome 0 = .ok (.aload_n 0, 1) := getB' kX11_sendPeopleHome 0 rfl
theorem dX11_sendPeopleHome_1 : decode cX11_sendPeopleHome 1 = .ok (.bipush 7, 2) := getB' kX11_sendPeopleHome 1 rfl
theorem dX11_sendPeopleHome_3 : decode cX11_sendPeopleHome 3 = .ok (.aload_n 1, 1) := getB' kX11_sendPeopleHome 2 rfl
theorem dX11_sendPeopleHome_4 : decode cX11_sendPeopleHome 4 = .ok (.getfield 183, 3) := getB' kX11_sendPeopleHome 3 rfl
theorem dX11_sendPeopleHome_7 : decode cX11_sendPeopleHome 7 = .ok (.invokevirtual 192, 3) := getB' kX11_sendPeopleHome 4 rfl
theorem dX11_sendPeopleHome_10 : decode cX11_sendPeopleHome 10 = .ok (.aload_n 1, 1) := getB' kX11_sendPeopleHome 5 rfl
theorem dX11_sendPeopleHome_11 : decode cX11_sendPeopleHome 11 = .ok (.iconst 0, 1) := getB' kX11_sendPeopleHome 6 rfl
theorem dX11_sendPeopleHome_12 : decode cX11_sendPeopleHome 12 = .ok (.putfield 183, 3) := getB' kX11_sendPeopleHome 7 rfl
theorem dX11_sendPeopleHome_15 : decode cX11_sendPeopleHome 15 = .ok (.return_, 1) := getB' kX11_sendPeopleHome 8 rfl
def LX11_carry : List (Nat × Instr × Nat) := [(0, .aload_n 0, 1), (1, .getfield 12, 3), (4, .getfield 129, 3), (7, .aload_n 2, 1), (8, .getfield 344, 3), (11, .invokestatic 253, 3), (14, .istore_n 3, 1), (15, .aload_n 0, 1), (16, .getfield 12, 3), (19, .aload_n 2, 1), (20, .getfield 344, 3), (23, .iload_n 3, 1), (24, .invokevirtual 508, 3), (27, .istore 4, 2), (29, .aload_n 0, 1), (30, .getfield 12, 3), (33, .iload 4, 2), (35, .invokevirtual 179, 3), (38, .ifCond .ne 7, 3), (41, .iconst 1, 1), (42, .goto 4, 3), (45, .iconst 0, 1), (46, .istore 5, 2), (48, .iconst 0, 1), (49, .istore 6, 2), (51, .iload 6, 2), (53, .aload_n 0, 1), (54, .getfield 46, 3), (57, .if_icmp .ge 59, 3), (60, .aload_n 0, 1), (61, .iload 6, 2), (63, .iconst 2, 1), (64, .invokevirtual 169, 3), (67, .astore 7, 2), (69, .aload 7, 2), (71, .ifnull 39, 3), (74, .aload 7, 2), (76, .getfield 176, 3), (79, .iload_n 1, 1), (80, .if_icmp .ne 30, 3), (83, .aload 7, 2), (85, .getfield 511, 3), (88, .ifCond .ne 22, 3), (91, .aload_n 0, 1), (92, .aload 7, 2), (94, .iload 4, 2), (96, .iconst (-1), 1), (97, .if_icmp .ne 7, 3), (100, .iconst (-1), 1), (101, .goto 4, 3), (104, .iload_n 3, 1), (105, .iload 5, 2), (107, .invokevirtual 515, 3), (110, .iinc 6 1, 3), (113, .goto (-62), 3), (116, .iload 4, 2), (118, .iconst (-1), 1), (119, .if_icmp .eq 20, 3), (122, .aload_n 2, 1), (123, .iload 4, 2), (125, .putfield 344, 3), (128, .aload_n 2, 1), (129, .aload_n 0, 1), (130, .getfield 12, 3), (133, .getfield 145, 3), (136, .putfield 189, 3), (139, .iload 5, 2), (141, .ifCond .eq 8, 3), (144, .aload_n 0, 1), (145, .aload_n 2, 1), (146, .invokevirtual 519, 3), (149, .return_, 1)]
theorem kX11_carry : chkB cX11_carry LX11_carry = true := by decide +kernel
theorem dX11_carry_0 : decode cX11_carry 0 = .ok (.aload_n 0, 1) := getB' kX11_carry 0 rfl
theorem dX11_carry_1 : decode cX11_carry 1 = .ok (.getfield 12, 3) := getB' kX11_carry 1 rfl
theorem dX11_carry_4 : decode cX11_carry 4 = .ok (.getfield 129, 3) := getB' kX11_carry 2 rfl
theorem dX11_carry_7 : decode cX11_carry 7 = .ok (.aload_n 2, 1) := getB' kX11_carry 3 rfl
theorem dX11_carry_8 : decode cX11_carry 8 = .ok (.getfield 344, 3) := getB' kX11_carry 4 rfl
theorem dX11_carry_11 : decode cX11_carry 11 = .ok (.invokestatic 253, 3) := getB' kX11_carry 5 rfl
theorem dX11_carry_14 : decode cX11_carry 14 = .ok (.istore_n 3, 1) := getB' kX11_carry 6 rfl
theorem dX11_carry_15 : decode cX11_carry 15 = .ok (.aload_n 0, 1) := getB' kX11_carry 7 rfl
theorem dX11_carry_16 : decode cX11_carry 16 = .ok (.getfield 12, 3) := getB' kX11_carry 8 rfl
theorem dX11_carry_19 : decode cX11_carry 19 = .ok (.aload_n 2, 1) := getB' kX11_carry 9 rfl
theorem dX11_carry_20 : decode cX11_carry 20 = .ok (.getfield 344, 3) := getB' kX11_carry 10 rfl
theorem dX11_carry_23 : decode cX11_carry 23 = .ok (.iload_n 3, 1) := getB' kX11_carry 11 rfl
theorem dX11_carry_24 : decode cX11_carry 24 = .ok (.invokevirtual 508, 3) := getB' kX11_carry 12 rfl
theorem dX11_carry_27 : decode cX11_carry 27 = .ok (.istore 4, 2) := getB' kX11_carry 13 rfl
theorem dX11_carry_29 : decode cX11_carry 29 = .ok (.aload_n 0, 1) := getB' kX11_carry 14 rfl
theorem dX11_carry_30 : decode cX11_carry 30 = .ok (.getfield 12, 3) := getB' kX11_carry 15 rfl
theorem dX11_carry_33 : decode cX11_carry 33 = .ok (.iload 4, 2) := getB' kX11_carry 16 rfl
theorem dX11_carry_35 : decode cX11_carry 35 = .ok (.invokevirtual 179, 3) := getB' kX11_carry 17 rfl
theorem dX11_carry_38 : decode cX11_carry 38 = .ok (.ifCond .ne 7, 3) := getB' kX11_carry 18 rfl
theorem dX11_carry_41 : decode cX11_carry 41 = .ok (.iconst 1, 1) := getB' kX11_carry 19 rfl
theorem dX11_carry_42 : decode cX11_carry 42 = .ok (.goto 4, 3) := getB' kX11_carry 20 rfl
theorem dX11_carry_45 : decode cX11_carry 45 = .ok (.iconst 0, 1) := getB' kX11_carry 21 rfl
theorem dX11_carry_46 : decode cX11_carry 46 = .ok (.istore 5, 2) := getB' kX11_carry 22 rfl
theorem dX11_carry_48 : decode cX11_carry 48 = .ok (.iconst 0, 1) := getB' kX11_carry 23 rfl
theorem dX11_carry_49 : decode cX11_carry 49 = .ok (.istore 6, 2) := getB' kX11_carry 24 rfl
theorem dX11_carry_51 : decode cX11_carry 51 = .ok (.iload 6, 2) := getB' kX11_carry 25 rfl
theorem dX11_carry_53 : decode cX11_carry 53 = .ok (.aload_n 0, 1) := getB' kX11_carry 26 rfl
theorem dX11_carry_54 : decode cX11_carry 54 = .ok (.getfield 46, 3) := getB' kX11_carry 27 rfl
theorem dX11_carry_57 : decode cX11_carry 57 = .ok (.if_icmp .ge 59, 3) := getB' kX11_carry 28 rfl
theorem dX11_carry_60 : decode cX11_carry 60 = .ok (.aload_n 0, 1) := getB' kX11_carry 29 rfl
theorem dX11_carry_61 : decode cX11_carry 61 = .ok (.iload 6, 2) := getB' kX11_carry 30 rfl
theorem dX11_carry_63 : decode cX11_carry 63 = .ok (.iconst 2, 1) := getB' kX11_carry 31 rfl
theorem dX11_carry_64 : decode cX11_carry 64 = .ok (.invokevirtual 169, 3) := getB' kX11_carry 32 rfl
theorem dX11_carry_67 : decode cX11_carry 67 = .ok (.astore 7, 2) := getB' kX11_carry 33 rfl
theorem dX11_carry_69 : decode cX11_carry 69 = .ok (.aload 7, 2) := getB' kX11_carry 34 rfl
theorem dX11_carry_71 : decode cX11_carry 71 = .ok (.ifnull 39, 3) := getB' kX11_carry 35 rfl
theorem dX11_carry_74 : decode cX11_carry 74 = .ok (.aload 7, 2) := getB' kX11_carry 36 rfl
theorem dX11_carry_76 : decode cX11_carry 76 = .ok (.getfield 176, 3) := getB' kX11_carry 37 rfl
theorem dX11_carry_79 : decode cX11_carry 79 = .ok (.iload_n 1, 1) := getB' kX11_carry 38 rfl
theorem dX11_carry_80 : decode cX11_carry 80 = .ok (.if_icmp .ne 30, 3) := getB' kX11_carry 39 rfl
theorem dX11_carry_83 : decode cX11_carry 83 = .ok (.aload 7, 2) := getB' kX11_carry 40 rfl
theorem dX11_carry_85 : decode cX11_carry 85 = .ok (.getfield 511, 3) := getB' kX11_carry 41 rfl
theorem dX11_carry_88 : decode cX11_carry 88 = .ok (.ifCond .ne 22, 3) := getB' kX11_carry 42 rfl
theorem dX11_carry_91 : decode cX11_carry 91 = .ok (.aload_n 0, 1) := getB' kX11_carry 43 rfl
theorem dX11_carry_92 : decode cX11_carry 92 = .ok (.aload 7, 2) := getB' kX11_carry 44 rfl
theorem dX11_carry_94 : decode cX11_carry 94 = .ok (.iload 4, 2) := getB' kX11_carry 45 rfl
theorem dX11_carry_96 : decode cX11_carry 96 = .ok (.iconst (-1), 1) := getB' kX11_carry 46 rfl
theorem dX11_carry_97 : decode cX11_carry 97 = .ok (.if_icmp .ne 7, 3) := getB' kX11_carry 47 rfl
theorem dX11_carry_100 : decode cX11_carry 100 = .ok (.iconst (-1), 1) := getB' kX11_carry 48 rfl
theorem dX11_carry_101 : decode cX11_carry 101 = .ok (.goto 4, 3) := getB' kX11_carry 49 rfl
theorem dX11_carry_104 : decode cX11_carry 104 = .ok (.iload_n 3, 1) := getB' kX11_carry 50 rfl
theorem dX11_carry_105 : decode cX11_carry 105 = .ok (.iload 5, 2) := getB' kX11_carry 51 rfl
theorem dX11_carry_107 : decode cX11_carry 107 = .ok (.invokevirtual 515, 3) := getB' kX11_carry 52 rfl
theorem dX11_carry_110 : decode cX11_carry 110 = .ok (.iinc 6 1, 3) := getB' kX11_carry 53 rfl
theorem dX11_carry_113 : decode cX11_carry 113 = .ok (.goto (-62), 3) := getB' kX11_carry 54 rfl
theorem dX11_carry_116 : decode cX11_carry 116 = .ok (.iload 4, 2) := getB' kX11_carry 55 rfl
theorem dX11_carry_118 : decode cX11_carry 118 = .ok (.iconst (-1), 1) := getB' kX11_carry 56 rfl
theorem dX11_carry_119 : decode cX11_carry 119 = .ok (.if_icmp .eq 20, 3) := getB' kX11_carry 57 rfl
theorem dX11_carry_122 : decode cX11_carry 122 = .ok (.aload_n 2, 1) := getB' kX11_carry 58 rfl
theorem dX11_carry_123 : decode cX11_carry 123 = .ok (.iload 4, 2) := getB' kX11_carry 59 rfl
theorem dX11_carry_125 : decode cX11_carry 125 = .ok (.putfield 344, 3) := getB' kX11_carry 60 rfl
theorem dX11_carry_128 : decode cX11_carry 128 = .ok (.aload_n 2, 1) := getB' kX11_carry 61 rfl
theorem dX11_carry_129 : decode cX11_carry 129 = .ok (.aload_n 0, 1) := getB' kX11_carry 62 rfl
theorem dX11_carry_130 : decode cX11_carry 130 = .ok (.getfield 12, 3) := getB' kX11_carry 63 rfl
theorem dX11_carry_133 : decode cX11_carry 133 = .ok (.getfield 145, 3) := getB' kX11_carry 64 rfl
theorem dX11_carry_136 : decode cX11_carry 136 = .ok (.putfield 189, 3) := getB' kX11_carry 65 rfl
theorem dX11_carry_139 : decode cX11_carry 139 = .ok (.iload 5, 2) := getB' kX11_carry 66 rfl
theorem dX11_carry_141 : decode cX11_carry 141 = .ok (.ifCond .eq 8, 3) := getB' kX11_carry 67 rfl
theorem dX11_carry_144 : decode cX11_carry 144 = .ok (.aload_n 0, 1) := getB' kX11_carry 68 rfl
theorem dX11_carry_145 : decode cX11_carry 145 = .ok (.aload_n 2, 1) := getB' kX11_carry 69 rfl
theorem dX11_carry_146 : decode cX11_carry 146 = .ok (.invokevirtual 519, 3) := getB' kX11_carry 70 rfl
theorem dX11_carry_149 : decode cX11_carry 149 = .ok (.return_, 1) := getB' kX11_carry 71 rfl
def LX11_carryField : List (Nat × Instr × Nat) := [(0, .aload_n 0, 1), (1, .getfield 12, 3), (4, .aload_n 1, 1), (5, .getfield 344, 3), (8, .iload_n 2, 1), (9, .invokevirtual 508, 3), (12, .istore 4, 2), (14, .iload_n 3, 1), (15, .ifCond .ne 15, 3), (18, .aload_n 0, 1), (19, .getfield 12, 3), (22, .iload 4, 2), (24, .invokevirtual 179, 3), (27, .ifCond .ne 8, 3), (30, .aload_n 1, 1), (31, .iconst 1, 1), (32, .putfield 511, 3), (35, .iload 4, 2), (37, .iconst (-1), 1), (38, .if_icmp .eq 9, 3), (41, .aload_n 1, 1), (42, .iload 4, 2), (44, .putfield 344, 3), (47, .return_, 1)]
theorem kX11_carryField : chkB cX11_carryField LX11_carryField = true := by decide +kernel
theorem dX11_carryField_0 : decode cX11_carryField 0 = .ok (.aload_n 0, 1) := getB' kX11_carryField 0 rfl
theorem dX11_carryField_1 : decode cX11_carryField 1 = .ok (.getfield 12, 3) := getB' kX11_carryField 1 rfl
theorem dX11_carryField_4 : decode cX11_carryField 4 = .ok (.aload_n 1, 1) := getB' kX11_carryField 2 rfl
theorem dX11_carryField_5 : decode cX11_carryField 5 = .ok (.getfield 344, 3) := getB' kX11_carryField 3 rfl
theorem dX11_carryField_8 : decode cX11_carryField 8 = .ok (.iload_n 2, 1) := getB' kX11_carryField 4 rfl
theorem dX11_carryField_9 : decode cX11_carryField 9 = .ok (.invokevirtual 508, 3) := getB' kX11_carryField 5 rfl
theorem dX11_carryField_12 : decode cX11_carryField 12 = .ok (.istore 4, 2) := getB' kX11_carryField 6 rfl
theorem dX11_carryField_14 : decode cX11_carryField 14 = .ok (.iload_n 3, 1) := getB' kX11_carryField 7 rfl
theorem dX11_carryField_15 : decode cX11_carryField 15 = .ok (.ifCond .ne 15, 3) := getB' kX11_carryField 8 rfl
theorem dX11_carryField_18 : decode cX11_carryField 18 = .ok (.aload_n 0, 1) := getB' kX11_carryField 9 rfl
theorem dX11_carryField_19 : decode cX11_carryField 19 = .ok (.getfield 12, 3) := getB' kX11_carryField 10 rfl
theorem dX11_carryField_22 : decode cX11_carryField 22 = .ok (.iload 4, 2) := getB' kX11_carryField 11 rfl
theorem dX11_carryField_24 : decode cX11_carryField 24 = .ok (.invokevirtual 179, 3) := getB' kX11_carryField 12 rfl
theorem dX11_carryField_27 : decode cX11_carryField 27 = .ok (.ifCond .ne 8, 3) := getB' kX11_carryField 13 rfl
theorem dX11_carryField_30 : decode cX11_carryField 30 = .ok (.aload_n 1, 1) := getB' kX11_carryField 14 rfl
theorem dX11_carryField_31 : decode cX11_carryField 31 = .ok (.iconst 1, 1) := getB' kX11_carryField 15 rfl
theorem dX11_carryField_32 : decode cX11_carryField 32 = .ok (.putfield 511, 3) := getB' kX11_carryField 16 rfl
theorem dX11_carryField_35 : decode cX11_carryField 35 = .ok (.iload 4, 2) := getB' kX11_carryField 17 rfl
theorem dX11_carryField_37 : decode cX11_carryField 37 = .ok (.iconst (-1), 1) := getB' kX11_carryField 18 rfl
theorem dX11_carryField_38 : decode cX11_carryField 38 = .ok (.if_icmp .eq 9, 3) := getB' kX11_carryField 19 rfl
theorem dX11_carryField_41 : decode cX11_carryField 41 = .ok (.aload_n 1, 1) := getB' kX11_carryField 20 rfl
theorem dX11_carryField_42 : decode cX11_carryField 42 = .ok (.iload 4, 2) := getB' kX11_carryField 21 rfl
theorem dX11_carryField_44 : decode cX11_carryField 44 = .ok (.putfield 344, 3) := getB' kX11_carryField 22 rfl
theorem dX11_carryField_47 : decode cX11_carryField 47 = .ok (.return_, 1) := getB' kX11_carryField 23 rfl
def LX11_loseStation : List (Nat × Instr × Nat) := [(0, .aload_n 1, 1), (1, .iconst 1, 1), (2, .putfield 511, 3), (5, .aload_n 0, 1), (6, .iconst 2, 1), (7, .aload_n 1, 1), (8, .getfield 186, 3), (11, .invokevirtual 192, 3), (14, .aload_n 0, 1), (15, .iconst 2, 1), (16, .aload_n 1, 1), (17, .getfield 421, 3), (20, .invokevirtual 192, 3), (23, .aload_n 1, 1), (24, .iconst 0, 1), (25, .putfield 186, 3), (28, .aload_n 1, 1), (29, .iconst 0, 1), (30, .putfield 421, 3), (33, .iconst 0, 1), (34, .istore_n 2, 1), (35, .iload_n 2, 1), (36, .iconst 4, 1), (37, .if_icmp .ge 31, 3), (40, .aload_n 0, 1), (41, .iconst 5, 1), (42, .aload_n 1, 1), (43, .getfield 491, 3), (46, .iload_n 2, 1), (47, .invokestatic 253, 3), (50, .invokevirtual 192, 3), (53, .aload_n 1, 1), (54, .getfield 491, 3), (57, .iload_n 2, 1), (58, .iconst 0, 1), (59, .invokestatic 108, 3), (62, .iinc 2 1, 3), (65, .goto (-30), 3), (68, .aload_n 0, 1), (69, .aload_n 1, 1), (70, .invokevirtual 504, 3), (73, .return_, 1)]
theorem kX11_loseStation : chkB cX11_loseStation LX11_loseStation = true := by decide +kernel
theorem dX11_loseStation_0 : decode cX11_loseStation 0 = .ok (.aload_n 1, 1) := getB' kX11_loseStation 0 rfl
theorem dX11_loseStation_1 : decode cX11_loseStation 1 = .ok (.iconst 1, 1) := getB' kX11_loseStation 1 rfl
theorem dX11_loseStation_2 : decode cX11_loseStation 2 = .ok (.putfield 511, 3) := getB' kX11_loseStation 2 rfl
theorem dX11_loseStation_5 : decode cX11_loseStation 5 = .ok (.aload_n 0, 1) := getB' kX11_loseStation 3 rfl
theorem dX11_loseStation_6 : decode cX11_loseStation 6 = .ok (.iconst 2, 1) := getB' kX11_loseStation 4 rfl
theorem dX11_loseStation_7 : decode cX11_loseStation 7 = .ok (.aload_n 1, 1) := getB' kX11_loseStation 5 rfl
theorem dX11_loseStation_8 : decode cX11_loseStation 8 = .ok (.getfield 186, 3) := getB' kX11_loseStation 6 rfl
theorem dX11_loseStation_11 : decode cX11_loseStation 11 = .ok (.invokevirtual 192, 3) := getB' kX11_loseStation 7 rfl
theorem dX11_loseStation_14 : decode cX11_loseStation 14 = .ok (.aload_n 0, 1) := getB' kX11_loseStation 8 rfl
theorem dX11_loseStation_15 : decode cX11_loseStation 15 = .ok (.iconst 2, 1) := getB' kX11_loseStation 9 rfl
theorem dX11_loseStation_16 : decode cX11_loseStation 16 = .ok (.aload_n 1, 1) := getB' kX11_loseStation 10 rfl
theorem dX11_loseStation_17 : decode cX11_loseStation 17 = .ok (.getfield 421, 3) := getB' kX11_loseStation 11 rfl
theorem dX11_loseStation_20 : decode cX11_loseStation 20 = .ok (.invokevirtual 192, 3) := getB' kX11_loseStation 12 rfl
theorem dX11_loseStation_23 : decode cX11_loseStation 23 = .ok (.aload_n 1, 1) := getB' kX11_loseStation 13 rfl
theorem dX11_loseStation_24 : decode cX11_loseStation 24 = .ok (.iconst 0, 1) := getB' kX11_loseStation 14 rfl
theorem dX11_loseStation_25 : decode cX11_loseStation 25 = .ok (.putfield 186, 3) := getB' kX11_loseStation 15 rfl
theorem dX11_loseStation_28 : decode cX11_loseStation 28 = .ok (.aload_n 1, 1) := getB' kX11_loseStation 16 rfl
theorem dX11_loseStation_29 : decode cX11_loseStation 29 = .ok (.iconst 0, 1) := getB' kX11_loseStation 17 rfl
theorem dX11_loseStation_30 : decode cX11_loseStation 30 = .ok (.putfield 421, 3) := getB' kX11_loseStation 18 rfl
theorem dX11_loseStation_33 : decode cX11_loseStation 33 = .ok (.iconst 0, 1) := getB' kX11_loseStation 19 rfl
theorem dX11_loseStation_34 : decode cX11_loseStation 34 = .ok (.istore_n 2, 1) := getB' kX11_loseStation 20 rfl
theorem dX11_loseStation_35 : decode cX11_loseStation 35 = .ok (.iload_n 2, 1) := getB' kX11_loseStation 21 rfl
theorem dX11_loseStation_36 : decode cX11_loseStation 36 = .ok (.iconst 4, 1) := getB' kX11_loseStation 22 rfl
theorem dX11_loseStation_37 : decode cX11_loseStation 37 = .ok (.if_icmp .ge 31, 3) := getB' kX11_loseStation 23 rfl
theorem dX11_loseStation_40 : decode cX11_loseStation 40 = .ok (.aload_n 0, 1) := getB' kX11_loseStation 24 rfl
theorem dX11_loseStation_41 : decode cX11_loseStation 41 = .ok (.iconst 5, 1) := getB' kX11_loseStation 25 rfl
theorem dX11_loseStation_42 : decode cX11_loseStation 42 = .ok (.aload_n 1, 1) := getB' kX11_loseStation 26 rfl
theorem dX11_loseStation_43 : decode cX11_loseStation 43 = .ok (.getfield 491, 3) := getB' kX11_loseStation 27 rfl
theorem dX11_loseStation_46 : decode cX11_loseStation 46 = .ok (.iload_n 2, 1) := getB' kX11_loseStation 28 rfl
theorem dX11_loseStation_47 : decode cX11_loseStation 47 = .ok (.invokestatic 253, 3) := getB' kX11_loseStation 29 rfl
theorem dX11_loseStation_50 : decode cX11_loseStation 50 = .ok (.invokevirtual 192, 3) := getB' kX11_loseStation 30 rfl
theorem dX11_loseStation_53 : decode cX11_loseStation 53 = .ok (.aload_n 1, 1) := getB' kX11_loseStation 31 rfl
theorem dX11_loseStation_54 : decode cX11_loseStation 54 = .ok (.getfield 491, 3) := getB' kX11_loseStation 32 rfl
theorem dX11_loseStation_57 : decode cX11_loseStation 57 = .ok (.iload_n 2, 1) := getB' kX11_loseStation 33 rfl
theorem dX11_loseStation_58 : decode cX11_loseStation 58 = .ok (.iconst 0, 1) := getB' kX11_loseStation 34 rfl
theorem dX11_loseStation_59 : decode cX11_loseStation 59 = .ok (.invokestatic 108, 3) := getB' kX11_loseStation 35 rfl
theorem dX11_loseStation_62 : decode cX11_loseStation 62 = .ok (.iinc 2 1, 3) := getB' kX11_loseStation 36 rfl
theorem dX11_loseStation_65 : decode cX11_loseStation 65 = .ok (.goto (-30), 3) := getB' kX11_loseStation 37 rfl
theorem dX11_loseStation_68 : decode cX11_loseStation 68 = .ok (.aload_n 0, 1) := getB' kX11_loseStation 38 rfl
theorem dX11_loseStation_69 : decode cX11_loseStation 69 = .ok (.aload_n 1, 1) := getB' kX11_loseStation 39 rfl
theorem dX11_loseStation_70 : decode cX11_loseStation 70 = .ok (.invokevirtual 504, 3) := getB' kX11_loseStation 40 rfl
theorem dX11_loseStation_73 : decode cX11_loseStation 73 = .ok (.return_, 1) := getB' kX11_loseStation 41 rfl
def LX11_passShip : List (Nat × Instr × Nat) := [(0, .aload_n 1, 1), (1, .ifnonnull 4, 3), (4, .return_, 1), (5, .aload_n 1, 1), (6, .getfield 410, 3), (9, .iconst 2, 1), (10, .if_icmp .eq 25, 3), (13, .aload_n 1, 1), (14, .getfield 410, 3), (17, .iconst 1, 1), (18, .if_icmp .ne 25, 3), (21, .aload_n 1, 1), (22, .getfield 522, 3), (25, .aload_n 0, 1), (26, .getfield 12, 3), (29, .getfield 145, 3), (32, .if_icmp .ne 11, 3), (35, .aload_n 0, 1), (36, .aload_n 1, 1), (37, .invokevirtual 525, 3), (40, .goto 30, 3), (43, .aload_n 1, 1), (44, .getfield 410, 3), (47, .iconst 3, 1), (48, .if_icmp .ne 22, 3), (51, .aload_n 1, 1), (52, .getfield 522, 3), (55, .aload_n 0, 1), (56, .getfield 12, 3), (59, .getfield 145, 3), (62, .if_icmp .ne 8, 3), (65, .aload_n 0, 1), (66, .aload_n 1, 1), (67, .invokevirtual 528, 3), (70, .return_, 1)]
theorem kX11_passShip : chkB cX11_passShip LX11_passShip = true := by decide +kernel
theorem dX11_passShip_0 : decode cX11_passShip 0 = .ok (.aload_n 1, 1) := getB' kX11_passShip 0 rfl
theorem dX11_passShip_1 : decode cX11_passShip 1 = .ok (.ifnonnull 4, 3) := getB' kX11_passShip 1 rfl
theorem dX11_passShip_4 : decode cX11_passShip 4 = .ok (.return_, 1) := getB' kX11_passShip 2 rfl
theorem dX11_passShip_5 : decode cX11_passShip 5 = .ok (.aload_n 1, 1) := getB' kX11_passShip 3 rfl
theorem dX11_passShip_6 : decode cX11_passShip 6 = .ok (.getfield 410, 3) := getB' kX11_passShip 4 rfl
theorem dX11_passShip_9 : decode cX11_passShip 9 = .ok (.iconst 2, 1) := getB' kX11_passShip 5 rfl
theorem dX11_passShip_10 : decode cX11_passShip 10 = .ok (.if_icmp .eq 25, 3) := getB' kX11_passShip 6 rfl
theorem dX11_passShip_13 : decode cX11_passShip 13 = .ok (.aload_n 1, 1) := getB' kX11_passShip 7 rfl
theorem dX11_passShip_14 : decode cX11_passShip 14 = .ok (.getfield 410, 3) := getB' kX11_passShip 8 rfl
theorem dX11_passShip_17 : decode cX11_passShip 17 = .ok (.iconst 1, 1) := getB' kX11_passShip 9 rfl
theorem dX11_passShip_18 : decode cX11_passShip 18 = .ok (.if_icmp .ne 25, 3) := getB' kX11_passShip 10 rfl
theorem dX11_passShip_21 : decode cX11_passShip 21 = .ok (.aload_n 1, 1) := getB' kX11_passShip 11 rfl
theorem dX11_passShip_22 : decode cX11_passShip 22 = .ok (.getfield 522, 3) := getB' kX11_passShip 12 rfl
theorem dX11_passShip_25 : decode cX11_passShip 25 = .ok (.aload_n 0, 1) := getB' kX11_passShip 13 rfl
theorem dX11_passShip_26 : decode cX11_passShip 26 = .ok (.getfield 12, 3) := getB' kX11_passShip 14 rfl
theorem dX11_passShip_29 : decode cX11_passShip 29 = .ok (.getfield 145, 3) := getB' kX11_passShip 15 rfl
theorem dX11_passShip_32 : decode cX11_passShip 32 = .ok (.if_icmp .ne 11, 3) := getB' kX11_passShip 16 rfl
theorem dX11_passShip_35 : decode cX11_passShip 35 = .ok (.aload_n 0, 1) := getB' kX11_passShip 17 rfl
theorem dX11_passShip_36 : decode cX11_passShip 36 = .ok (.aload_n 1, 1) := getB' kX11_passShip 18 rfl
theorem dX11_passShip_37 : decode cX11_passShip 37 = .ok (.invokevirtual 525, 3) := getB' kX11_passShip 19 rfl
theorem dX11_passShip_40 : decode cX11_passShip 40 = .ok (.goto 30, 3) := getB' kX11_passShip 20 rfl
theorem dX11_passShip_43 : decode cX11_passShip 43 = .ok (.aload_n 1, 1) := getB' kX11_passShip 21 rfl
theorem dX11_passShip_44 : decode cX11_passShip 44 = .ok (.getfield 410, 3) := getB' kX11_passShip 22 rfl
theorem dX11_passShip_47 : decode cX11_passShip 47 = .ok (.iconst 3, 1) := getB' kX11_passShip 23 rfl
theorem dX11_passShip_48 : decode cX11_passShip 48 = .ok (.if_icmp .ne 22, 3) := getB' kX11_passShip 24 rfl
theorem dX11_passShip_51 : decode cX11_passShip 51 = .ok (.aload_n 1, 1) := getB' kX11_passShip 25 rfl
theorem dX11_passShip_52 : decode cX11_passShip 52 = .ok (.getfield 522, 3) := getB' kX11_passShip 26 rfl
theorem dX11_passShip_55 : decode cX11_passShip 55 = .ok (.aload_n 0, 1) := getB' kX11_passShip 27 rfl
theorem dX11_passShip_56 : decode cX11_passShip 56 = .ok (.getfield 12, 3) := getB' kX11_passShip 28 rfl
theorem dX11_passShip_59 : decode cX11_passShip 59 = .ok (.getfield 145, 3) := getB' kX11_passShip 29 rfl
theorem dX11_passShip_62 : decode cX11_passShip 62 = .ok (.if_icmp .ne 8, 3) := getB' kX11_passShip 30 rfl
theorem dX11_passShip_65 : decode cX11_passShip 65 = .ok (.aload_n 0, 1) := getB' kX11_passShip 31 rfl
theorem dX11_passShip_66 : decode cX11_passShip 66 = .ok (.aload_n 1, 1) := getB' kX11_passShip 32 rfl
theorem dX11_passShip_67 : decode cX11_passShip 67 = .ok (.invokevirtual 528, 3) := getB' kX11_passShip 33 rfl
theorem dX11_passShip_70 : decode cX11_passShip 70 = .ok (.return_, 1) := getB' kX11_passShip 34 rfl
def LX11_meetIce : List (Nat × Instr × Nat) := [(0, .aload_n 0, 1), (1, .getfield 12, 3), (4, .aload_n 1, 1), (5, .getfield 531, 3), (8, .aload_n 0, 1), (9, .getfield 12, 3), (12, .getfield 145, 3), (15, .invokevirtual 534, 3), (18, .aload_n 1, 1), (19, .getfield 537, 3), (22, .if_icmp .gt 20, 3), (25, .aload_n 0, 1), (26, .aload_n 1, 1), (27, .invokevirtual 540, 3), (30, .aload_n 1, 1), (31, .aload_n 0, 1), (32, .getfield 12, 3), (35, .getfield 145, 3), (38, .invokevirtual 543, 3), (41, .return_, 1), (42, .aload_n 1, 1), (43, .iconst 2, 1), (44, .putfield 410, 3), (47, .aload_n 1, 1), (48, .dup, 1), (49, .getfield 546, 3), (52, .iconst 1, 1), (53, .iadd, 1), (54, .putfield 546, 3), (57, .aload_n 1, 1), (58, .getfield 546, 3), (61, .bipush 60, 2), (63, .if_icmp .lt 14, 3), (66, .aload_n 1, 1), (67, .aload_n 0, 1), (68, .getfield 12, 3), (71, .getfield 145, 3), (74, .invokevirtual 543, 3), (77, .return_, 1)]
theorem kX11_meetIce : chkB cX11_meetIce LX11_meetIce = true := by decide +kernel
theorem dX11_meetIce_0 : decode cX11_meetIce 0 = .ok (.aload_n 0, 1) := getB' kX11_meetIce 0 rfl
theorem dX11_meetIce_1 : decode cX11_meetIce 1 = .ok (.getfield 12, 3) := getB' kX11_meetIce 1 rfl
theorem dX11_meetIce_4 : decode cX11_meetIce 4 = .ok (.aload_n 1, 1) := getB' kX11_meetIce 2 rfl
theorem dX11_meetIce_5 : decode cX11_meetIce 5 = .ok (.getfield 531, 3) := getB' kX11_meetIce 3 rfl
theorem dX11_meetIce_8 : decode cX11_meetIce 8 = .ok (.aload_n 0, 1) := getB' kX11_meetIce 4 rfl
theorem dX11_meetIce_9 : decode cX11_meetIce 9 = .ok (.getfield 12, 3) := getB' kX11_meetIce 5 rfl
theorem dX11_meetIce_12 : decode cX11_meetIce 12 = .ok (.getfield 145, 3) := getB' kX11_meetIce 6 rfl
theorem dX11_meetIce_15 : decode cX11_meetIce 15 = .ok (.invokevirtual 534, 3) := getB' kX11_meetIce 7 rfl
theorem dX11_meetIce_18 : decode cX11_meetIce 18 = .ok (.aload_n 1, 1) := getB' kX11_meetIce 8 rfl
theorem dX11_meetIce_19 : decode cX11_meetIce 19 = .ok (.getfield 537, 3) := getB' kX11_meetIce 9 rfl
theorem dX11_meetIce_22 : decode cX11_meetIce 22 = .ok (.if_icmp .gt 20, 3) := getB' kX11_meetIce 10 rfl
theorem dX11_meetIce_25 : decode cX11_meetIce 25 = .ok (.aload_n 0, 1) := getB' kX11_meetIce 11 rfl
theorem dX11_meetIce_26 : decode cX11_meetIce 26 = .ok (.aload_n 1, 1) := getB' kX11_meetIce 12 rfl
theorem dX11_meetIce_27 : decode cX11_meetIce 27 = .ok (.invokevirtual 540, 3) := getB' kX11_meetIce 13 rfl
theorem dX11_meetIce_30 : decode cX11_meetIce 30 = .ok (.aload_n 1, 1) := getB' kX11_meetIce 14 rfl
theorem dX11_meetIce_31 : decode cX11_meetIce 31 = .ok (.aload_n 0, 1) := getB' kX11_meetIce 15 rfl
theorem dX11_meetIce_32 : decode cX11_meetIce 32 = .ok (.getfield 12, 3) := getB' kX11_meetIce 16 rfl
theorem dX11_meetIce_35 : decode cX11_meetIce 35 = .ok (.getfield 145, 3) := getB' kX11_meetIce 17 rfl
theorem dX11_meetIce_38 : decode cX11_meetIce 38 = .ok (.invokevirtual 543, 3) := getB' kX11_meetIce 18 rfl
theorem dX11_meetIce_41 : decode cX11_meetIce 41 = .ok (.return_, 1) := getB' kX11_meetIce 19 rfl
theorem dX11_meetIce_42 : decode cX11_meetIce 42 = .ok (.aload_n 1, 1) := getB' kX11_meetIce 20 rfl
theorem dX11_meetIce_43 : decode cX11_meetIce 43 = .ok (.iconst 2, 1) := getB' kX11_meetIce 21 rfl
theorem dX11_meetIce_44 : decode cX11_meetIce 44 = .ok (.putfield 410, 3) := getB' kX11_meetIce 22 rfl
theorem dX11_meetIce_47 : decode cX11_meetIce 47 = .ok (.aload_n 1, 1) := getB' kX11_meetIce 23 rfl
theorem dX11_meetIce_48 : decode cX11_meetIce 48 = .ok (.dup, 1) := getB' kX11_meetIce 24 rfl
theorem dX11_meetIce_49 : decode cX11_meetIce 49 = .ok (.getfield 546, 3) := getB' kX11_meetIce 25 rfl
theorem dX11_meetIce_52 : decode cX11_meetIce 52 = .ok (.iconst 1, 1) := getB' kX11_meetIce 26 rfl
theorem dX11_meetIce_53 : decode cX11_meetIce 53 = .ok (.iadd, 1) := getB' kX11_meetIce 27 rfl
theorem dX11_meetIce_54 : decode cX11_meetIce 54 = .ok (.putfield 546, 3) := getB' kX11_meetIce 28 rfl
theorem dX11_meetIce_57 : decode cX11_meetIce 57 = .ok (.aload_n 1, 1) := getB' kX11_meetIce 29 rfl
theorem dX11_meetIce_58 : decode cX11_meetIce 58 = .ok (.getfield 546, 3) := getB' kX11_meetIce 30 rfl
theorem dX11_meetIce_61 : decode cX11_meetIce 61 = .ok (.bipush 60, 2) := getB' kX11_meetIce 31 rfl
theorem dX11_meetIce_63 : decode cX11_meetIce 63 = .ok (.if_icmp .lt 14, 3) := getB' kX11_meetIce 32 rfl
theorem dX11_meetIce_66 : decode cX11_meetIce 66 = .ok (.aload_n 1, 1) := getB' kX11_meetIce 33 rfl
theorem dX11_meetIce_67 : decode cX11_meetIce 67 = .ok (.aload_n 0, 1) := getB' kX11_meetIce 34 rfl
theorem dX11_meetIce_68 : decode cX11_meetIce 68 = .ok (.getfield 12, 3) := getB' kX11_meetIce 35 rfl
theorem dX11_meetIce_71 : decode cX11_meetIce 71 = .ok (.getfield 145, 3) := getB' kX11_meetIce 36 rfl
theorem dX11_meetIce_74 : decode cX11_meetIce 74 = .ok (.invokevirtual 543, 3) := getB' kX11_meetIce 37 rfl
theorem dX11_meetIce_77 : decode cX11_meetIce 77 = .ok (.return_, 1) := getB' kX11_meetIce 38 rfl
def LX11_unload : List (Nat × Instr × Nat) := [(0, .aload_n 0, 1), (1, .aload_n 1, 1), (2, .getfield 549, 3), (5, .invokevirtual 195, 3), (8, .astore_n 2, 1), (9, .aload_n 2, 1), (10, .ifnull 17, 3), (13, .aload_n 0, 1), (14, .getfield 12, 3), (17, .aload_n 2, 1), (18, .getfield 344, 3), (21, .invokevirtual 413, 3), (24, .ifCond .ne 4, 3), (27, .return_, 1), (28, .aload_n 2, 1), (29, .dup, 1), (30, .getfield 186, 3), (33, .aload_n 1, 1), (34, .getfield 552, 3), (37, .iadd, 1), (38, .putfield 186, 3), (41, .aload_n 1, 1), (42, .iconst 0, 1), (43, .putfield 552, 3), (46, .iconst 3, 1), (47, .istore_n 3, 1), (48, .iload_n 3, 1), (49, .ifCond .lt 53, 3), (52, .aload_n 1, 1), (53, .getfield 407, 3), (56, .aload_n 1, 1), (57, .getfield 553, 3), (60, .isub, 1), (61, .aload_n 2, 1), (62, .getfield 491, 3), (65, .iload_n 3, 1), (66, .invokestatic 253, 3), (69, .invokestatic 479, 3), (72, .istore 4, 2), (74, .aload_n 2, 1), (75, .getfield 491, 3), (78, .iload_n 3, 1), (79, .iload 4, 2), (81, .ineg, 1), (82, .invokestatic 476, 3), (85, .aload_n 1, 1), (86, .dup, 1), (87, .getfield 553, 3), (90, .iload 4, 2), (92, .iadd, 1), (93, .putfield 553, 3), (96, .iinc 3 (-1), 3), (99, .goto (-51), 3), (102, .return_, 1)]
theorem kX11_unload : chkB cX11_unload LX11_unload = true := by decide +kernel
theorem dX11_unload_0 : decode cX11_unload 0 = .ok (.aload_n 0, 1) := getB' kX11_unload 0 rfl
theorem dX11_unload_1 : decode cX11_unload 1 = .ok (.aload_n 1, 1) := getB' kX11_unload 1 rfl
theorem dX11_unload_2 : decode cX11_unload 2 = .ok (.getfield 549, 3) := getB' kX11_unload 2 rfl
theorem dX11_unload_5 : decode cX11_unload 5 = .ok (.invokevirtual 195, 3) := getB' kX11_unload 3 rfl
theorem dX11_unload_8 : decode cX11_unload 8 = .ok (.astore_n 2, 1) := getB' kX11_unload 4 rfl
theorem dX11_unload_9 : decode cX11_unload 9 = .ok (.aload_n 2, 1) := getB' kX11_unload 5 rfl
theorem dX11_unload_10 : decode cX11_unload 10 = .ok (.ifnull 17, 3) := getB' kX11_unload 6 rfl
theorem dX11_unload_13 : decode cX11_unload 13 = .ok (.aload_n 0, 1) := getB' kX11_unload 7 rfl
theorem dX11_unload_14 : decode cX11_unload 14 = .ok (.getfield 12, 3) := getB' kX11_unload 8 rfl
theorem dX11_unload_17 : decode cX11_unload 17 = .ok (.aload_n 2, 1) := getB' kX11_unload 9 rfl
theorem dX11_unload_18 : decode cX11_unload 18 = .ok (.getfield 344, 3) := getB' kX11_unload 10 rfl
theorem dX11_unload_21 : decode cX11_unload 21 = .ok (.invokevirtual 413, 3) := getB' kX11_unload 11 rfl
theorem dX11_unload_24 : decode cX11_unload 24 = .ok (.ifCond .ne 4, 3) := getB' kX11_unload 12 rfl
theorem dX11_unload_27 : decode cX11_unload 27 = .ok (.return_, 1) := getB' kX11_unload 13 rfl
theorem dX11_unload_28 : decode cX11_unload 28 = .ok (.aload_n 2, 1) := getB' kX11_unload 14 rfl
theorem dX11_unload_29 : decode cX11_unload 29 = .ok (.dup, 1) := getB' kX11_unload 15 rfl
theorem dX11_unload_30 : decode cX11_unload 30 = .ok (.getfield 186, 3) := getB' kX11_unload 16 rfl
theorem dX11_unload_33 : decode cX11_unload 33 = .ok (.aload_n 1, 1) := getB' kX11_unload 17 rfl
theorem dX11_unload_34 : decode cX11_unload 34 = .ok (.getfield 552, 3) := getB' kX11_unload 18 rfl
theorem dX11_unload_37 : decode cX11_unload 37 = .ok (.iadd, 1) := getB' kX11_unload 19 rfl
theorem dX11_unload_38 : decode cX11_unload 38 = .ok (.putfield 186, 3) := getB' kX11_unload 20 rfl
theorem dX11_unload_41 : decode cX11_unload 41 = .ok (.aload_n 1, 1) := getB' kX11_unload 21 rfl
theorem dX11_unload_42 : decode cX11_unload 42 = .ok (.iconst 0, 1) := getB' kX11_unload 22 rfl
theorem dX11_unload_43 : decode cX11_unload 43 = .ok (.putfield 552, 3) := getB' kX11_unload 23 rfl
theorem dX11_unload_46 : decode cX11_unload 46 = .ok (.iconst 3, 1) := getB' kX11_unload 24 rfl
theorem dX11_unload_47 : decode cX11_unload 47 = .ok (.istore_n 3, 1) := getB' kX11_unload 25 rfl
theorem dX11_unload_48 : decode cX11_unload 48 = .ok (.iload_n 3, 1) := getB' kX11_unload 26 rfl
theorem dX11_unload_49 : decode cX11_unload 49 = .ok (.ifCond .lt 53, 3) := getB' kX11_unload 27 rfl
theorem dX11_unload_52 : decode cX11_unload 52 = .ok (.aload_n 1, 1) := getB' kX11_unload 28 rfl
theorem dX11_unload_53 : decode cX11_unload 53 = .ok (.getfield 407, 3) := getB' kX11_unload 29 rfl
theorem dX11_unload_56 : decode cX11_unload 56 = .ok (.aload_n 1, 1) := getB' kX11_unload 30 rfl
theorem dX11_unload_57 : decode cX11_unload 57 = .ok (.getfield 553, 3) := getB' kX11_unload 31 rfl
theorem dX11_unload_60 : decode cX11_unload 60 = .ok (.isub, 1) := getB' kX11_unload 32 rfl
theorem dX11_unload_61 : decode cX11_unload 61 = .ok (.aload_n 2, 1) := getB' kX11_unload 33 rfl
theorem dX11_unload_62 : decode cX11_unload 62 = .ok (.getfield 491, 3) := getB' kX11_unload 34 rfl
theorem dX11_unload_65 : decode cX11_unload 65 = .ok (.iload_n 3, 1) := getB' kX11_unload 35 rfl
theorem dX11_unload_66 : decode cX11_unload 66 = .ok (.invokestatic 253, 3) := getB' kX11_unload 36 rfl
theorem dX11_unload_69 : decode cX11_unload 69 = .ok (.invokestatic 479, 3) := getB' kX11_unload 37 rfl
theorem dX11_unload_72 : decode cX11_unload 72 = .ok (.istore 4, 2) := getB' kX11_unload 38 rfl
theorem dX11_unload_74 : decode cX11_unload 74 = .ok (.aload_n 2, 1) := getB' kX11_unload 39 rfl
theorem dX11_unload_75 : decode cX11_unload 75 = .ok (.getfield 491, 3) := getB' kX11_unload 40 rfl
theorem dX11_unload_78 : decode cX11_unload 78 = .ok (.iload_n 3, 1) := getB' kX11_unload 41 rfl
theorem dX11_unload_79 : decode cX11_unload 79 = .ok (.iload 4, 2) := getB' kX11_unload 42 rfl
theorem dX11_unload_81 : decode cX11_unload 81 = .ok (.ineg, 1) := getB' kX11_unload 43 rfl
theorem dX11_unload_82 : decode cX11_unload 82 = .ok (.invokestatic 476, 3) := getB' kX11_unload 44 rfl
theorem dX11_unload_85 : decode cX11_unload 85 = .ok (.aload_n 1, 1) := getB' kX11_unload 45 rfl
theorem dX11_unload_86 : decode cX11_unload 86 = .ok (.dup, 1) := getB' kX11_unload 46 rfl
theorem dX11_unload_87 : decode cX11_unload 87 = .ok (.getfield 553, 3) := getB' kX11_unload 47 rfl
theorem dX11_unload_90 : decode cX11_unload 90 = .ok (.iload 4, 2) := getB' kX11_unload 48 rfl
theorem dX11_unload_92 : decode cX11_unload 92 = .ok (.iadd, 1) := getB' kX11_unload 49 rfl
theorem dX11_unload_93 : decode cX11_unload 93 = .ok (.putfield 553, 3) := getB' kX11_unload 50 rfl
theorem dX11_unload_96 : decode cX11_unload 96 = .ok (.iinc 3 (-1), 3) := getB' kX11_unload 51 rfl
theorem dX11_unload_99 : decode cX11_unload 99 = .ok (.goto (-51), 3) := getB' kX11_unload 52 rfl
theorem dX11_unload_102 : decode cX11_unload 102 = .ok (.return_, 1) := getB' kX11_unload 53 rfl
def LX11_comeHome : List (Nat × Instr × Nat) := [(0, .aload_n 0, 1), (1, .iconst 3, 1), (2, .aload_n 1, 1), (3, .getfield 552, 3), (6, .invokevirtual 192, 3), (9, .aload_n 0, 1), (10, .bipush 6, 2), (12, .aload_n 1, 1), (13, .getfield 553, 3), (16, .invokevirtual 192, 3), (19, .aload_n 1, 1), (20, .iconst 0, 1), (21, .putfield 552, 3), (24, .aload_n 1, 1), (25, .iconst 0, 1), (26, .putfield 553, 3), (29, .aload_n 1, 1), (30, .iconst 0, 1), (31, .putfield 410, 3), (34, .return_, 1)]
theorem kX11_comeHome : chkB cX11_comeHome LX11_comeHome = true := by decide +kernel
theorem dX11_comeHome_0 : decode cX11_comeHome 0 = .ok (.aload_n 0, 1) := getB' kX11_comeHome 0 rfl
theorem dX11_comeHome_1 : decode cX11_comeHome 1 = .ok (.iconst 3, 1) := getB' kX11_comeHome 1 rfl
theorem dX11_comeHome_2 : decode cX11_comeHome 2 = .ok (.aload_n 1, 1) := getB' kX11_comeHome 2 rfl
theorem dX11_comeHome_3 : decode cX11_comeHome 3 = .ok (.getfield 552, 3) := getB' kX11_comeHome 3 rfl
theorem dX11_comeHome_6 : decode cX11_comeHome 6 = .ok (.invokevirtual 192, 3) := getB' kX11_comeHome 4 rfl
theorem dX11_comeHome_9 : decode cX11_comeHome 9 = .ok (.aload_n 0, 1) := getB' kX11_comeHome 5 rfl
theorem dX11_comeHome_10 : decode cX11_comeHome 10 = .ok (.bipush 6, 2) := getB' kX11_comeHome 6 rfl
theorem dX11_comeHome_12 : decode cX11_comeHome 12 = .ok (.aload_n 1, 1) := getB' kX11_comeHome 7 rfl
theorem dX11_comeHome_13 : decode cX11_comeHome 13 = .ok (.getfield 553, 3) := getB' kX11_comeHome 8 rfl
theorem dX11_comeHome_16 : decode cX11_comeHome 16 = .ok (.invokevirtual 192, 3) := getB' kX11_comeHome 9 rfl
theorem dX11_comeHome_19 : decode cX11_comeHome 19 = .ok (.aload_n 1, 1) := getB' kX11_comeHome 10 rfl
theorem dX11_comeHome_20 : decode cX11_comeHome 20 = .ok (.iconst 0, 1) := getB' kX11_comeHome 11 rfl
theorem dX11_comeHome_21 : decode cX11_comeHome 21 = .ok (.putfield 552, 3) := getB' kX11_comeHome 12 rfl
theorem dX11_comeHome_24 : decode cX11_comeHome 24 = .ok (.aload_n 1, 1) := getB' kX11_comeHome 13 rfl
theorem dX11_comeHome_25 : decode cX11_comeHome 25 = .ok (.iconst 0, 1) := getB' kX11_comeHome 14 rfl
theorem dX11_comeHome_26 : decode cX11_comeHome 26 = .ok (.putfield 553, 3) := getB' kX11_comeHome 15 rfl
theorem dX11_comeHome_29 : decode cX11_comeHome 29 = .ok (.aload_n 1, 1) := getB' kX11_comeHome 16 rfl
theorem dX11_comeHome_30 : decode cX11_comeHome 30 = .ok (.iconst 0, 1) := getB' kX11_comeHome 17 rfl
theorem dX11_comeHome_31 : decode cX11_comeHome 31 = .ok (.putfield 410, 3) := getB' kX11_comeHome 18 rfl
theorem dX11_comeHome_34 : decode cX11_comeHome 34 = .ok (.return_, 1) := getB' kX11_comeHome 19 rfl
def LX11_passSledge : List (Nat × Instr × Nat) := [(0, .aload_n 0, 1), (1, .getfield 72, 3), (4, .iload_n 1, 1), (5, .iconst 4, 1), (6, .invokevirtual 209, 3), (9, .ifCond .eq 22, 3), (12, .aload_n 0, 1), (13, .getfield 72, 3), (16, .iload_n 1, 1), (17, .iconst 2, 1), (18, .invokevirtual 209, 3), (21, .aload_n 0, 1), (22, .getfield 12, 3), (25, .getfield 145, 3), (28, .if_icmp .eq 4, 3), (31, .return_, 1), (32, .aload_n 0, 1), (33, .getfield 72, 3), (36, .iload_n 1, 1), (37, .iconst 4, 1), (38, .iconst 0, 1), (39, .invokevirtual 485, 3), (42, .aload_n 0, 1), (43, .getfield 72, 3), (46, .iload_n 1, 1), (47, .iconst 3, 1), (48, .invokevirtual 209, 3), (51, .istore_n 2, 1), (52, .aload_n 0, 1), (53, .aload_n 0, 1), (54, .getfield 72, 3), (57, .iload_n 1, 1), (58, .iconst 0, 1), (59, .invokevirtual 209, 3), (62, .invokevirtual 195, 3), (65, .astore_n 3, 1), (66, .aload_n 3, 1), (67, .ifnull 32, 3), (70, .aload_n 3, 1), (71, .getfield 344, 3), (74, .aload_n 0, 1), (75, .getfield 72, 3), (78, .iload_n 1, 1), (79, .iconst 1, 1), (80, .invokevirtual 209, 3), (83, .if_icmp .ne 16, 3), (86, .aload_n 3, 1), (87, .dup, 1), (88, .getfield 186, 3), (91, .iload_n 2, 1), (92, .iadd, 1), (93, .putfield 186, 3), (96, .goto 9, 3), (99, .aload_n 0, 1), (100, .iconst 2, 1), (101, .iload_n 2, 1), (102, .invokevirtual 192, 3), (105, .return_, 1)]
theorem kX11_passSledge : chkB cX11_passSledge LX11_passSledge = true := by decide +kernel
theorem dX11_passSledge_0 : decode cX11_passSledge 0 = .ok (.aload_n 0, 1) := getB' kX11_passSledge 0 rfl
theorem dX11_passSledge_1 : decode cX11_passSledge 1 = .ok (.getfield 72, 3) := getB' kX11_passSledge 1 rfl
theorem dX11_passSledge_4 : decode cX11_passSledge 4 = .ok (.iload_n 1, 1) := getB' kX11_passSledge 2 rfl
theorem dX11_passSledge_5 : decode cX11_passSledge 5 = .ok (.iconst 4, 1) := getB' kX11_passSledge 3 rfl
theorem dX11_passSledge_6 : decode cX11_passSledge 6 = .ok (.invokevirtual 209, 3) := getB' kX11_passSledge 4 rfl
theorem dX11_passSledge_9 : decode cX11_passSledge 9 = .ok (.ifCond .eq 22, 3) := getB' kX11_passSledge 5 rfl
theorem dX11_passSledge_12 : decode cX11_passSledge 12 = .ok (.aload_n 0, 1) := getB' kX11_passSledge 6 rfl
theorem dX11_passSledge_13 : decode cX11_passSledge 13 = .ok (.getfield 72, 3) := getB' kX11_passSledge 7 rfl
theorem dX11_passSledge_16 : decode cX11_passSledge 16 = .ok (.iload_n 1, 1) := getB' kX11_passSledge 8 rfl
theorem dX11_passSledge_17 : decode cX11_passSledge 17 = .ok (.iconst 2, 1) := getB' kX11_passSledge 9 rfl
theorem dX11_passSledge_18 : decode cX11_passSledge 18 = .ok (.invokevirtual 209, 3) := getB' kX11_passSledge 10 rfl
theorem dX11_passSledge_21 : decode cX11_passSledge 21 = .ok (.aload_n 0, 1) := getB' kX11_passSledge 11 rfl
theorem dX11_passSledge_22 : decode cX11_passSledge 22 = .ok (.getfield 12, 3) := getB' kX11_passSledge 12 rfl
theorem dX11_passSledge_25 : decode cX11_passSledge 25 = .ok (.getfield 145, 3) := getB' kX11_passSledge 13 rfl
theorem dX11_passSledge_28 : decode cX11_passSledge 28 = .ok (.if_icmp .eq 4, 3) := getB' kX11_passSledge 14 rfl
theorem dX11_passSledge_31 : decode cX11_passSledge 31 = .ok (.return_, 1) := getB' kX11_passSledge 15 rfl
theorem dX11_passSledge_32 : decode cX11_passSledge 32 = .ok (.aload_n 0, 1) := getB' kX11_passSledge 16 rfl
theorem dX11_passSledge_33 : decode cX11_passSledge 33 = .ok (.getfield 72, 3) := getB' kX11_passSledge 17 rfl
theorem dX11_passSledge_36 : decode cX11_passSledge 36 = .ok (.iload_n 1, 1) := getB' kX11_passSledge 18 rfl
theorem dX11_passSledge_37 : decode cX11_passSledge 37 = .ok (.iconst 4, 1) := getB' kX11_passSledge 19 rfl
theorem dX11_passSledge_38 : decode cX11_passSledge 38 = .ok (.iconst 0, 1) := getB' kX11_passSledge 20 rfl
theorem dX11_passSledge_39 : decode cX11_passSledge 39 = .ok (.invokevirtual 485, 3) := getB' kX11_passSledge 21 rfl
theorem dX11_passSledge_42 : decode cX11_passSledge 42 = .ok (.aload_n 0, 1) := getB' kX11_passSledge 22 rfl
theorem dX11_passSledge_43 : decode cX11_passSledge 43 = .ok (.getfield 72, 3) := getB' kX11_passSledge 23 rfl
theorem dX11_passSledge_46 : decode cX11_passSledge 46 = .ok (.iload_n 1, 1) := getB' kX11_passSledge 24 rfl
theorem dX11_passSledge_47 : decode cX11_passSledge 47 = .ok (.iconst 3, 1) := getB' kX11_passSledge 25 rfl
theorem dX11_passSledge_48 : decode cX11_passSledge 48 = .ok (.invokevirtual 209, 3) := getB' kX11_passSledge 26 rfl
theorem dX11_passSledge_51 : decode cX11_passSledge 51 = .ok (.istore_n 2, 1) := getB' kX11_passSledge 27 rfl
theorem dX11_passSledge_52 : decode cX11_passSledge 52 = .ok (.aload_n 0, 1) := getB' kX11_passSledge 28 rfl
theorem dX11_passSledge_53 : decode cX11_passSledge 53 = .ok (.aload_n 0, 1) := getB' kX11_passSledge 29 rfl
theorem dX11_passSledge_54 : decode cX11_passSledge 54 = .ok (.getfield 72, 3) := getB' kX11_passSledge 30 rfl
theorem dX11_passSledge_57 : decode cX11_passSledge 57 = .ok (.iload_n 1, 1) := getB' kX11_passSledge 31 rfl
theorem dX11_passSledge_58 : decode cX11_passSledge 58 = .ok (.iconst 0, 1) := getB' kX11_passSledge 32 rfl
theorem dX11_passSledge_59 : decode cX11_passSledge 59 = .ok (.invokevirtual 209, 3) := getB' kX11_passSledge 33 rfl
theorem dX11_passSledge_62 : decode cX11_passSledge 62 = .ok (.invokevirtual 195, 3) := getB' kX11_passSledge 34 rfl
theorem dX11_passSledge_65 : decode cX11_passSledge 65 = .ok (.astore_n 3, 1) := getB' kX11_passSledge 35 rfl
theorem dX11_passSledge_66 : decode cX11_passSledge 66 = .ok (.aload_n 3, 1) := getB' kX11_passSledge 36 rfl
theorem dX11_passSledge_67 : decode cX11_passSledge 67 = .ok (.ifnull 32, 3) := getB' kX11_passSledge 37 rfl
theorem dX11_passSledge_70 : decode cX11_passSledge 70 = .ok (.aload_n 3, 1) := getB' kX11_passSledge 38 rfl
theorem dX11_passSledge_71 : decode cX11_passSledge 71 = .ok (.getfield 344, 3) := getB' kX11_passSledge 39 rfl
theorem dX11_passSledge_74 : decode cX11_passSledge 74 = .ok (.aload_n 0, 1) := getB' kX11_passSledge 40 rfl
theorem dX11_passSledge_75 : decode cX11_passSledge 75 = .ok (.getfield 72, 3) := getB' kX11_passSledge 41 rfl
theorem dX11_passSledge_78 : decode cX11_passSledge 78 = .ok (.iload_n 1, 1) := getB' kX11_passSledge 42 rfl
theorem dX11_passSledge_79 : decode cX11_passSledge 79 = .ok (.iconst 1, 1) := getB' kX11_passSledge 43 rfl
theorem dX11_passSledge_80 : decode cX11_passSledge 80 = .ok (.invokevirtual 209, 3) := getB' kX11_passSledge 44 rfl
theorem dX11_passSledge_83 : decode cX11_passSledge 83 = .ok (.if_icmp .ne 16, 3) := getB' kX11_passSledge 45 rfl
theorem dX11_passSledge_86 : decode cX11_passSledge 86 = .ok (.aload_n 3, 1) := getB' kX11_passSledge 46 rfl
theorem dX11_passSledge_87 : decode cX11_passSledge 87 = .ok (.dup, 1) := getB' kX11_passSledge 47 rfl
theorem dX11_passSledge_88 : decode cX11_passSledge 88 = .ok (.getfield 186, 3) := getB' kX11_passSledge 48 rfl
theorem dX11_passSledge_91 : decode cX11_passSledge 91 = .ok (.iload_n 2, 1) := getB' kX11_passSledge 49 rfl
theorem dX11_passSledge_92 : decode cX11_passSledge 92 = .ok (.iadd, 1) := getB' kX11_passSledge 50 rfl
theorem dX11_passSledge_93 : decode cX11_passSledge 93 = .ok (.putfield 186, 3) := getB' kX11_passSledge 51 rfl
theorem dX11_passSledge_96 : decode cX11_passSledge 96 = .ok (.goto 9, 3) := getB' kX11_passSledge 52 rfl
theorem dX11_passSledge_99 : decode cX11_passSledge 99 = .ok (.aload_n 0, 1) := getB' kX11_passSledge 53 rfl
theorem dX11_passSledge_100 : decode cX11_passSledge 100 = .ok (.iconst 2, 1) := getB' kX11_passSledge 54 rfl
theorem dX11_passSledge_101 : decode cX11_passSledge 101 = .ok (.iload_n 2, 1) := getB' kX11_passSledge 55 rfl
theorem dX11_passSledge_102 : decode cX11_passSledge 102 = .ok (.invokevirtual 192, 3) := getB' kX11_passSledge 56 rfl
theorem dX11_passSledge_105 : decode cX11_passSledge 105 = .ok (.return_, 1) := getB' kX11_passSledge 57 rfl
def LX11_sound : List (Nat × Instr × Nat) := [(0, .aload_n 0, 1), (1, .iload_n 1, 1), (2, .iconst 4, 1), (3, .invokevirtual 169, 3), (6, .astore 4, 2), (8, .aload 4, 2), (10, .ifnull 25, 3), (13, .iload_n 2, 1), (14, .iconst 1, 1), (15, .sipush 5000, 3), (18, .invokestatic 112, 3), (21, .ifCond .eq 14, 3), (24, .iload_n 3, 1), (25, .iconst 0, 1), (26, .sipush 1000, 3), (29, .invokestatic 112, 3), (32, .ifCond .ne 5, 3), (35, .iconst 0, 1), (36, .ireturn, 1), (37, .aload 4, 2), (39, .iload_n 2, 1), (40, .iload_n 3, 1), (41, .invokevirtual 556, 3), (44, .ireturn, 1)]
theorem kX11_sound : chkB cX11_sound LX11_sound = true := by decide +kernel
theorem dX11_sound_0 : decode cX11_sound 0 = .ok (.aload_n 0, 1) := getB' kX11_sound 0 rfl
theorem dX11_sound_1 : decode cX11_sound 1 = .ok (.iload_n 1, 1) := getB' kX11_sound 1 rfl
theorem dX11_sound_2 : decode cX11_sound 2 = .ok (.iconst 4, 1) := getB' kX11_sound 2 rfl
theorem dX11_sound_3 : decode cX11_sound 3 = .ok (.invokevirtual 169, 3) := getB' kX11_sound 3 rfl
theorem dX11_sound_6 : decode cX11_sound 6 = .ok (.astore 4, 2) := getB' kX11_sound 4 rfl
theorem dX11_sound_8 : decode cX11_sound 8 = .ok (.aload 4, 2) := getB' kX11_sound 5 rfl
theorem dX11_sound_10 : decode cX11_sound 10 = .ok (.ifnull 25, 3) := getB' kX11_sound 6 rfl
theorem dX11_sound_13 : decode cX11_sound 13 = .ok (.iload_n 2, 1) := getB' kX11_sound 7 rfl
theorem dX11_sound_14 : decode cX11_sound 14 = .ok (.iconst 1, 1) := getB' kX11_sound 8 rfl
theorem dX11_sound_15 : decode cX11_sound 15 = .ok (.sipush 5000, 3) := getB' kX11_sound 9 rfl
theorem dX11_sound_18 : decode cX11_sound 18 = .ok (.invokestatic 112, 3) := getB' kX11_sound 10 rfl
theorem dX11_sound_21 : decode cX11_sound 21 = .ok (.ifCond .eq 14, 3) := getB' kX11_sound 11 rfl
theorem dX11_sound_24 : decode cX11_sound 24 = .ok (.iload_n 3, 1) := getB' kX11_sound 12 rfl
theorem dX11_sound_25 : decode cX11_sound 25 = .ok (.iconst 0, 1) := getB' kX11_sound 13 rfl
theorem dX11_sound_26 : decode cX11_sound 26 = .ok (.sipush 1000, 3) := getB' kX11_sound 14 rfl
theorem dX11_sound_29 : decode cX11_sound 29 = .ok (.invokestatic 112, 3) := getB' kX11_sound 15 rfl
theorem dX11_sound_32 : decode cX11_sound 32 = .ok (.ifCond .ne 5, 3) := getB' kX11_sound 16 rfl
theorem dX11_sound_35 : decode cX11_sound 35 = .ok (.iconst 0, 1) := getB' kX11_sound 17 rfl
theorem dX11_sound_36 : decode cX11_sound 36 = .ok (.ireturn, 1) := getB' kX11_sound 18 rfl
theorem dX11_sound_37 : decode cX11_sound 37 = .ok (.aload 4, 2) := getB' kX11_sound 19 rfl
theorem dX11_sound_39 : decode cX11_sound 39 = .ok (.iload_n 2, 1) := getB' kX11_sound 20 rfl
theorem dX11_sound_40 : decode cX11_sound 40 = .ok (.iload_n 3, 1) := getB' kX11_sound 21 rfl
theorem dX11_sound_41 : decode cX11_sound 41 = .ok (.invokevirtual 556, 3) := getB' kX11_sound 22 rfl
theorem dX11_sound_44 : decode cX11_sound 44 = .ok (.ireturn, 1) := getB' kX11_sound 23 rfl
def LX11_sure : List (Nat × Instr × Nat) := [(0, .aload_n 0, 1), (1, .iload_n 1, 1), (2, .iconst 4, 1), (3, .invokevirtual 169, 3), (6, .astore_n 2, 1), (7, .aload_n 2, 1), (8, .ifnonnull 7, 3), (11, .iconst (-1), 1), (12, .goto 7, 3), (15, .aload_n 2, 1), (16, .invokevirtual 482, 3), (19, .ireturn, 1)]
theorem kX11_sure : chkB cX11_sure LX11_sure = true := by decide +kernel
theorem dX11_sure_0 : decode cX11_sure 0 = .ok (.aload_n 0, 1) := getB' kX11_sure 0 rfl
theorem dX11_sure_1 : decode cX11_sure 1 = .ok (.iload_n 1, 1) := getB' kX11_sure 1 rfl
theorem dX11_sure_2 : decode cX11_sure 2 = .ok (.iconst 4, 1) := getB' kX11_sure 2 rfl
theorem dX11_sure_3 : decode cX11_sure 3 = .ok (.invokevirtual 169, 3) := getB' kX11_sure 3 rfl
theorem dX11_sure_6 : decode cX11_sure 6 = .ok (.astore_n 2, 1) := getB' kX11_sure 4 rfl
theorem dX11_sure_7 : decode cX11_sure 7 = .ok (.aload_n 2, 1) := getB' kX11_sure 5 rfl
theorem dX11_sure_8 : decode cX11_sure 8 = .ok (.ifnonnull 7, 3) := getB' kX11_sure 6 rfl
theorem dX11_sure_11 : decode cX11_sure 11 = .ok (.iconst (-1), 1) := getB' kX11_sure 7 rfl
theorem dX11_sure_12 : decode cX11_sure 12 = .ok (.goto 7, 3) := getB' kX11_sure 8 rfl
theorem dX11_sure_15 : decode cX11_sure 15 = .ok (.aload_n 2, 1) := getB' kX11_sure 9 rfl
theorem dX11_sure_16 : decode cX11_sure 16 = .ok (.invokevirtual 482, 3) := getB' kX11_sure 10 rfl
theorem dX11_sure_19 : decode cX11_sure 19 = .ok (.ireturn, 1) := getB' kX11_sure 11 rfl
def LX11_drill : List (Nat × Instr × Nat) := [(0, .aload_n 0, 1), (1, .iload_n 1, 1), (2, .iconst 4, 1), (3, .invokevirtual 169, 3), (6, .astore_n 3, 1), (7, .aload_n 0, 1), (8, .iload_n 2, 1), (9, .invokevirtual 309, 3), (12, .astore 4, 2), (14, .aload_n 3, 1), (15, .ifnull 29, 3), (18, .aload 4, 2), (20, .ifnull 24, 3), (23, .aload 4, 2), (25, .getfield 375, 3), (28, .iconst 2, 1), (29, .if_icmp .ne 15, 3), (32, .aload 4, 2), (34, .getfield 378, 3), (37, .aload_n 3, 1), (38, .getfield 344, 3), (41, .if_icmp .eq 5, 3), (44, .iconst (-1), 1), (45, .ireturn, 1), (46, .aload_n 0, 1), (47, .getfield 79, 3), (50, .iload_n 1, 1), (51, .iload_n 2, 1), (52, .iconst 0, 1), (53, .iconst 0, 1), (54, .iconst 0, 1), (55, .invokevirtual 205, 3), (58, .ireturn, 1)]
theorem kX11_drill : chkB cX11_drill LX11_drill = true := by decide +kernel
theorem dX11_drill_0 : decode cX11_drill 0 = .ok (.aload_n 0, 1) := getB' kX11_drill 0 rfl
theorem dX11_drill_1 : decode cX11_drill 1 = .ok (.iload_n 1, 1) := getB' kX11_drill 1 rfl
theorem dX11_drill_2 : decode cX11_drill 2 = .ok (.iconst 4, 1) := getB' kX11_drill 2 rfl
theorem dX11_drill_3 : decode cX11_drill 3 = .ok (.invokevirtual 169, 3) := getB' kX11_drill 3 rfl
theorem dX11_drill_6 : decode cX11_drill 6 = .ok (.astore_n 3, 1) := getB' kX11_drill 4 rfl
theorem dX11_drill_7 : decode cX11_drill 7 = .ok (.aload_n 0, 1) := getB' kX11_drill 5 rfl
theorem dX11_drill_8 : decode cX11_drill 8 = .ok (.iload_n 2, 1) := getB' kX11_drill 6 rfl
theorem dX11_drill_9 : decode cX11_drill 9 = .ok (.invokevirtual 309, 3) := getB' kX11_drill 7 rfl
theorem dX11_drill_12 : decode cX11_drill 12 = .ok (.astore 4, 2) := getB' kX11_drill 8 rfl
theorem dX11_drill_14 : decode cX11_drill 14 = .ok (.aload_n 3, 1) := getB' kX11_drill 9 rfl
theorem dX11_drill_15 : decode cX11_drill 15 = .ok (.ifnull 29, 3) := getB' kX11_drill 10 rfl
theorem dX11_drill_18 : decode cX11_drill 18 = .ok (.aload 4, 2) := getB' kX11_drill 11 rfl
theorem dX11_drill_20 : decode cX11_drill 20 = .ok (.ifnull 24, 3) := getB' kX11_drill 12 rfl
theorem dX11_drill_23 : decode cX11_drill 23 = .ok (.aload 4, 2) := getB' kX11_drill 13 rfl
theorem dX11_drill_25 : decode cX11_drill 25 = .ok (.getfield 375, 3) := getB' kX11_drill 14 rfl
theorem dX11_drill_28 : decode cX11_drill 28 = .ok (.iconst 2, 1) := getB' kX11_drill 15 rfl
theorem dX11_drill_29 : decode cX11_drill 29 = .ok (.if_icmp .ne 15, 3) := getB' kX11_drill 16 rfl
theorem dX11_drill_32 : decode cX11_drill 32 = .ok (.aload 4, 2) := getB' kX11_drill 17 rfl
theorem dX11_drill_34 : decode cX11_drill 34 = .ok (.getfield 378, 3) := getB' kX11_drill 18 rfl
theorem dX11_drill_37 : decode cX11_drill 37 = .ok (.aload_n 3, 1) := getB' kX11_drill 19 rfl
theorem dX11_drill_38 : decode cX11_drill 38 = .ok (.getfield 344, 3) := getB' kX11_drill 20 rfl
theorem dX11_drill_41 : decode cX11_drill 41 = .ok (.if_icmp .eq 5, 3) := getB' kX11_drill 21 rfl
theorem dX11_drill_44 : decode cX11_drill 44 = .ok (.iconst (-1), 1) := getB' kX11_drill 22 rfl
theorem dX11_drill_45 : decode cX11_drill 45 = .ok (.ireturn, 1) := getB' kX11_drill 23 rfl
theorem dX11_drill_46 : decode cX11_drill 46 = .ok (.aload_n 0, 1) := getB' kX11_drill 24 rfl
theorem dX11_drill_47 : decode cX11_drill 47 = .ok (.getfield 79, 3) := getB' kX11_drill 25 rfl
theorem dX11_drill_50 : decode cX11_drill 50 = .ok (.iload_n 1, 1) := getB' kX11_drill 26 rfl
theorem dX11_drill_51 : decode cX11_drill 51 = .ok (.iload_n 2, 1) := getB' kX11_drill 27 rfl
theorem dX11_drill_52 : decode cX11_drill 52 = .ok (.iconst 0, 1) := getB' kX11_drill 28 rfl
theorem dX11_drill_53 : decode cX11_drill 53 = .ok (.iconst 0, 1) := getB' kX11_drill 29 rfl
theorem dX11_drill_54 : decode cX11_drill 54 = .ok (.iconst 0, 1) := getB' kX11_drill 30 rfl
theorem dX11_drill_55 : decode cX11_drill 55 = .ok (.invokevirtual 205, 3) := getB' kX11_drill 31 rfl
theorem dX11_drill_58 : decode cX11_drill 58 = .ok (.ireturn, 1) := getB' kX11_drill 32 rfl
