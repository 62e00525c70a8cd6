def LX11_speed : List (Nat × Instr × Nat) := [(0, .iload_n 1, 1), (1, .iconst (-1), 1), (2, .if_icmp .ne 26, 3), (5, .iload_n 2, 1), (6, .iconst 0, 1), (7, .sipush 1000, 3), (10, .invokestatic 112, 3), (13, .ifCond .eq 15, 3), (16, .aload_n 0, 1), (17, .getfield 94, 3), (20, .bipush 10, 2), (22, .iload_n 2, 1), (23, .invokestatic 108, 3), (26, .iconst 1, 1), (27, .ireturn, 1), (28, .iload_n 1, 1), (29, .iconst 0, 1), (30, .bipush 9, 2), (32, .invokestatic 112, 3), (35, .ifCond .eq 25, 3), (38, .iload_n 2, 1), (39, .iconst 1, 1), (40, .sipush 200, 3), (43, .invokestatic 112, 3), (46, .ifCond .eq 14, 3), (49, .aload_n 0, 1), (50, .getfield 94, 3), (53, .iload_n 1, 1), (54, .iload_n 2, 1), (55, .invokestatic 108, 3), (58, .iconst 1, 1), (59, .ireturn, 1), (60, .iconst 0, 1), (61, .ireturn, 1)]
theorem kX11_speed : chkB cX11_speed LX11_speed = true := by decide +kernel
theorem dX11_speed_0 : decode cX11_speed 0 = .ok (.iload_n 1, 1) := getB' kX11_speed 0 rfl
theorem dX11_speed_1 : decode cX11_speed 1 = .ok (.iconst (-1), 1) := getB' kX11_speed 1 rfl
theorem dX11_speed_2 : decode cX11_speed 2 = .ok (.if_icmp .ne 26, 3) := getB' kX11_speed 2 rfl
theorem dX11_speed_5 : decode cX11_speed 5 = .ok (.iload_n 2, 1) := getB' kX11_speed 3 rfl
theorem dX11_speed_6 : decode cX11_speed 6 = .ok (.iconst 0, 1) := getB' kX11_speed 4 rfl
theorem dX11_speed_7 : decode cX11_speed 7 = .ok (.sipush 1000, 3) := getB' kX11_speed 5 rfl
theorem dX11_speed_10 : decode cX11_speed 10 = .ok (.invokestatic 112, 3) := getB' kX11_speed 6 rfl
theorem dX11_speed_13 : decode cX11_speed 13 = .ok (.ifCond .eq 15, 3) := getB' kX11_speed 7 rfl
theorem dX11_speed_16 : decode cX11_speed 16 = .ok (.aload_n 0, 1) := getB' kX11_speed 8 rfl
theorem dX11_speed_17 : decode cX11_speed 17 = .ok (.getfield 94, 3) := getB' kX11_speed 9 rfl
theorem dX11_speed_20 : decode cX11_speed 20 = .ok (.bipush 10, 2) := getB' kX11_speed 10 rfl
theorem dX11_speed_22 : decode cX11_speed 22 = .ok (.iload_n 2, 1) := getB' kX11_speed 11 rfl
theorem dX11_speed_23 : decode cX11_speed 23 = .ok (.invokestatic 108, 3) := getB' kX11_speed 12 rfl
theorem dX11_speed_26 : decode cX11_speed 26 = .ok (.iconst 1, 1) := getB' kX11_speed 13 rfl
theorem dX11_speed_27 : decode cX11_speed 27 = .ok (.ireturn, 1) := getB' kX11_speed 14 rfl
theorem dX11_speed_28 : decode cX11_speed 28 = .ok (.iload_n 1, 1) := getB' kX11_speed 15 rfl
theorem dX11_speed_29 : decode cX11_speed 29 = .ok (.iconst 0, 1) := getB' kX11_speed 16 rfl
theorem dX11_speed_30 : decode cX11_speed 30 = .ok (.bipush 9, 2) := getB' kX11_speed 17 rfl
theorem dX11_speed_32 : decode cX11_speed 32 = .ok (.invokestatic 112, 3) := getB' kX11_speed 18 rfl
theorem dX11_speed_35 : decode cX11_speed 35 = .ok (.ifCond .eq 25, 3) := getB' kX11_speed 19 rfl
theorem dX11_speed_38 : decode cX11_speed 38 = .ok (.iload_n 2, 1) := getB' kX11_speed 20 rfl
theorem dX11_speed_39 : decode cX11_speed 39 = .ok (.iconst 1, 1) := getB' kX11_speed 21 rfl
theorem dX11_speed_40 : decode cX11_speed 40 = .ok (.sipush 200, 3) := getB' kX11_speed 22 rfl
theorem dX11_speed_43 : decode cX11_speed 43 = .ok (.invokestatic 112, 3) := getB' kX11_speed 23 rfl
theorem dX11_speed_46 : decode cX11_speed 46 = .ok (.ifCond .eq 14, 3) := getB' kX11_speed 24 rfl
theorem dX11_speed_49 : decode cX11_speed 49 = .ok (.aload_n 0, 1) := getB' kX11_speed 25 rfl
theorem dX11_speed_50 : decode cX11_speed 50 = .ok (.getfield 94, 3) := getB' kX11_speed 26 rfl
theorem dX11_speed_53 : decode cX11_speed 53 = .ok (.iload_n 1, 1) := getB' kX11_speed 27 rfl
theorem dX11_speed_54 : decode cX11_speed 54 = .ok (.iload_n 2, 1) := getB' kX11_speed 28 rfl
theorem dX11_speed_55 : decode cX11_speed 55 = .ok (.invokestatic 108, 3) := getB' kX11_speed 29 rfl
theorem dX11_speed_58 : decode cX11_speed 58 = .ok (.iconst 1, 1) := getB' kX11_speed 30 rfl
theorem dX11_speed_59 : decode cX11_speed 59 = .ok (.ireturn, 1) := getB' kX11_speed 31 rfl
theorem dX11_speed_60 : decode cX11_speed 60 = .ok (.iconst 0, 1) := getB' kX11_speed 32 rfl
theorem dX11_speed_61 : decode cX11_speed 61 = .ok (.ireturn, 1) := getB' kX11_speed 33 rfl
def LX11_birds : List (Nat × Instr × Nat) := [(0, .aload_n 0, 1), (1, .iload_n 1, 1), (2, .iconst 5, 1), (3, .invokevirtual 169, 3), (6, .astore 4, 2), (8, .aload 4, 2), (10, .ifnull 20, 3), (13, .iload_n 2, 1), (14, .invokestatic 559, 3), (17, .ifCond .eq 13, 3), (20, .iload_n 3, 1), (21, .iconst 0, 1), (22, .ldc 182, 2), (24, .invokestatic 112, 3), (27, .ifCond .ne 5, 3), (30, .iconst 0, 1), (31, .ireturn, 1), (32, .aload 4, 2), (34, .getfield 491, 3), (37, .iload_n 2, 1), (38, .iload_n 3, 1), (39, .invokestatic 108, 3), (42, .iconst 1, 1), (43, .ireturn, 1)]
theorem kX11_birds : chkB cX11_birds LX11_birds = true := by decide +kernel
theorem dX11_birds_0 : decode cX11_birds 0 = .ok (.aload_n 0, 1) := getB' kX11_birds 0 rfl
theorem dX11_birds_1 : decode cX11_birds 1 = .ok (.iload_n 1, 1) := getB' kX11_birds 1 rfl
theorem dX11_birds_2 : decode cX11_birds 2 = .ok (.iconst 5, 1) := getB' kX11_birds 2 rfl
theorem dX11_birds_3 : decode cX11_birds 3 = .ok (.invokevirtual 169, 3) := getB' kX11_birds 3 rfl
theorem dX11_birds_6 : decode cX11_birds 6 = .ok (.astore 4, 2) := getB' kX11_birds 4 rfl
theorem dX11_birds_8 : decode cX11_birds 8 = .ok (.aload 4, 2) := getB' kX11_birds 5 rfl
theorem dX11_birds_10 : decode cX11_birds 10 = .ok (.ifnull 20, 3) := getB' kX11_birds 6 rfl
theorem dX11_birds_13 : decode cX11_birds 13 = .ok (.iload_n 2, 1) := getB' kX11_birds 7 rfl
theorem dX11_birds_14 : decode cX11_birds 14 = .ok (.invokestatic 559, 3) := getB' kX11_birds 8 rfl
theorem dX11_birds_17 : decode cX11_birds 17 = .ok (.ifCond .eq 13, 3) := getB' kX11_birds 9 rfl
theorem dX11_birds_20 : decode cX11_birds 20 = .ok (.iload_n 3, 1) := getB' kX11_birds 10 rfl
theorem dX11_birds_21 : decode cX11_birds 21 = .ok (.iconst 0, 1) := getB' kX11_birds 11 rfl
theorem dX11_birds_22 : decode cX11_birds 22 = .ok (.ldc 182, 2) := getB' kX11_birds 12 rfl
theorem dX11_birds_24 : decode cX11_birds 24 = .ok (.invokestatic 112, 3) := getB' kX11_birds 13 rfl
theorem dX11_birds_27 : decode cX11_birds 27 = .ok (.ifCond .ne 5, 3) := getB' kX11_birds 14 rfl
theorem dX11_birds_30 : decode cX11_birds 30 = .ok (.iconst 0, 1) := getB' kX11_birds 15 rfl
theorem dX11_birds_31 : decode cX11_birds 31 = .ok (.ireturn, 1) := getB' kX11_birds 16 rfl
theorem dX11_birds_32 : decode cX11_birds 32 = .ok (.aload 4, 2) := getB' kX11_birds 17 rfl
theorem dX11_birds_34 : decode cX11_birds 34 = .ok (.getfield 491, 3) := getB' kX11_birds 18 rfl
theorem dX11_birds_37 : decode cX11_birds 37 = .ok (.iload_n 2, 1) := getB' kX11_birds 19 rfl
theorem dX11_birds_38 : decode cX11_birds 38 = .ok (.iload_n 3, 1) := getB' kX11_birds 20 rfl
theorem dX11_birds_39 : decode cX11_birds 39 = .ok (.invokestatic 108, 3) := getB' kX11_birds 21 rfl
theorem dX11_birds_42 : decode cX11_birds 42 = .ok (.iconst 1, 1) := getB' kX11_birds 22 rfl
theorem dX11_birds_43 : decode cX11_birds 43 = .ok (.ireturn, 1) := getB' kX11_birds 23 rfl
def LX11_loss : List (Nat × Instr × Nat) := [(0, .aload_n 0, 1), (1, .iload_n 1, 1), (2, .iconst 5, 1), (3, .invokevirtual 169, 3), (6, .astore 6, 2), (8, .aload 6, 2), (10, .ifnull 43, 3), (13, .iload_n 2, 1), (14, .invokestatic 559, 3), (17, .ifCond .eq 36, 3), (20, .iload_n 3, 1), (21, .invokestatic 559, 3), (24, .ifCond .eq 29, 3), (27, .iload_n 2, 1), (28, .iload_n 3, 1), (29, .if_icmp .ge 24, 3), (32, .iload 4, 2), (34, .iconst 0, 1), (35, .bipush 99, 2), (37, .invokestatic 112, 3), (40, .ifCond .eq 13, 3), (43, .iload 5, 2), (45, .iconst 0, 1), (46, .iconst 1, 1), (47, .invokestatic 112, 3), (50, .ifCond .ne 7, 3), (53, .ldc_w 434, 3), (56, .ireturn, 1), (57, .aload 6, 2), (59, .getfield 491, 3), (62, .iload_n 2, 1), (63, .invokestatic 253, 3), (66, .istore 7, 2), (68, .aload 6, 2), (70, .getfield 491, 3), (73, .iload_n 3, 1), (74, .invokestatic 253, 3), (77, .istore 8, 2), (79, .iload 7, 2), (81, .iconst (-1), 1), (82, .if_icmp .eq 9, 3), (85, .iload 8, 2), (87, .iconst (-1), 1), (88, .if_icmp .ne 7, 3), (91, .ldc_w 434, 3), (94, .ireturn, 1), (95, .iload 7, 2), (97, .iload 4, 2), (99, .imul, 1), (100, .bipush 99, 2), (102, .iadd, 1), (103, .bipush 100, 2), (105, .idiv, 1), (106, .iload 8, 2), (108, .iload 4, 2), (110, .imul, 1), (111, .bipush 99, 2), (113, .iadd, 1), (114, .bipush 100, 2), (116, .idiv, 1), (117, .iadd, 1), (118, .istore 9, 2), (120, .iload 7, 2), (122, .iload 8, 2), (124, .isub, 1), (125, .iload 5, 2), (127, .ifCond .ne 9, 3), (130, .iload 9, 2), (132, .ineg, 1), (133, .goto 5, 3), (136, .iload 9, 2), (138, .iadd, 1), (139, .ireturn, 1)]
theorem kX11_loss : chkB cX11_loss LX11_loss = true := by decide +kernel
theorem dX11_loss_0 : decode cX11_loss 0 = .ok (.aload_n 0, 1) := getB' kX11_loss 0 rfl
theorem dX11_loss_1 : decode cX11_loss 1 = .ok (.iload_n 1, 1) := getB' kX11_loss 1 rfl
theorem dX11_loss_2 : decode cX11_loss 2 = .ok (.iconst 5, 1) := getB' kX11_loss 2 rfl
theorem dX11_loss_3 : decode cX11_loss 3 = .ok (.invokevirtual 169, 3) := getB' kX11_loss 3 rfl
theorem dX11_loss_6 : decode cX11_loss 6 = .ok (.astore 6, 2) := getB' kX11_loss 4 rfl
theorem dX11_loss_8 : decode cX11_loss 8 = .ok (.aload 6, 2) := getB' kX11_loss 5 rfl
theorem dX11_loss_10 : decode cX11_loss 10 = .ok (.ifnull 43, 3) := getB' kX11_loss 6 rfl
theorem dX11_loss_13 : decode cX11_loss 13 = .ok (.iload_n 2, 1) := getB' kX11_loss 7 rfl
theorem dX11_loss_14 : decode cX11_loss 14 = .ok (.invokestatic 559, 3) := getB' kX11_loss 8 rfl
theorem dX11_loss_17 : decode cX11_loss 17 = .ok (.ifCond .eq 36, 3) := getB' kX11_loss 9 rfl
theorem dX11_loss_20 : decode cX11_loss 20 = .ok (.iload_n 3, 1) := getB' kX11_loss 10 rfl
theorem dX11_loss_21 : decode cX11_loss 21 = .ok (.invokestatic 559, 3) := getB' kX11_loss 11 rfl
theorem dX11_loss_24 : decode cX11_loss 24 = .ok (.ifCond .eq 29, 3) := getB' kX11_loss 12 rfl
theorem dX11_loss_27 : decode cX11_loss 27 = .ok (.iload_n 2, 1) := getB' kX11_loss 13 rfl
theorem dX11_loss_28 : decode cX11_loss 28 = .ok (.iload_n 3, 1) := getB' kX11_loss 14 rfl
theorem dX11_loss_29 : decode cX11_loss 29 = .ok (.if_icmp .ge 24, 3) := getB' kX11_loss 15 rfl
theorem dX11_loss_32 : decode cX11_loss 32 = .ok (.iload 4, 2) := getB' kX11_loss 16 rfl
theorem dX11_loss_34 : decode cX11_loss 34 = .ok (.iconst 0, 1) := getB' kX11_loss 17 rfl
theorem dX11_loss_35 : decode cX11_loss 35 = .ok (.bipush 99, 2) := getB' kX11_loss 18 rfl
theorem dX11_loss_37 : decode cX11_loss 37 = .ok (.invokestatic 112, 3) := getB' kX11_loss 19 rfl
theorem dX11_loss_40 : decode cX11_loss 40 = .ok (.ifCond .eq 13, 3) := getB' kX11_loss 20 rfl
theorem dX11_loss_43 : decode cX11_loss 43 = .ok (.iload 5, 2) := getB' kX11_loss 21 rfl
theorem dX11_loss_45 : decode cX11_loss 45 = .ok (.iconst 0, 1) := getB' kX11_loss 22 rfl
theorem dX11_loss_46 : decode cX11_loss 46 = .ok (.iconst 1, 1) := getB' kX11_loss 23 rfl
theorem dX11_loss_47 : decode cX11_loss 47 = .ok (.invokestatic 112, 3) := getB' kX11_loss 24 rfl
theorem dX11_loss_50 : decode cX11_loss 50 = .ok (.ifCond .ne 7, 3) := getB' kX11_loss 25 rfl
theorem dX11_loss_53 : decode cX11_loss 53 = .ok (.ldc_w 434, 3) := getB' kX11_loss 26 rfl
theorem dX11_loss_56 : decode cX11_loss 56 = .ok (.ireturn, 1) := getB' kX11_loss 27 rfl
theorem dX11_loss_57 : decode cX11_loss 57 = .ok (.aload 6, 2) := getB' kX11_loss 28 rfl
theorem dX11_loss_59 : decode cX11_loss 59 = .ok (.getfield 491, 3) := getB' kX11_loss 29 rfl
theorem dX11_loss_62 : decode cX11_loss 62 = .ok (.iload_n 2, 1) := getB' kX11_loss 30 rfl
theorem dX11_loss_63 : decode cX11_loss 63 = .ok (.invokestatic 253, 3) := getB' kX11_loss 31 rfl
theorem dX11_loss_66 : decode cX11_loss 66 = .ok (.istore 7, 2) := getB' kX11_loss 32 rfl
theorem dX11_loss_68 : decode cX11_loss 68 = .ok (.aload 6, 2) := getB' kX11_loss 33 rfl
theorem dX11_loss_70 : decode cX11_loss 70 = .ok (.getfield 491, 3) := getB' kX11_loss 34 rfl
theorem dX11_loss_73 : decode cX11_loss 73 = .ok (.iload_n 3, 1) := getB' kX11_loss 35 rfl
theorem dX11_loss_74 : decode cX11_loss 74 = .ok (.invokestatic 253, 3) := getB' kX11_loss 36 rfl
theorem dX11_loss_77 : decode cX11_loss 77 = .ok (.istore 8, 2) := getB' kX11_loss 37 rfl
theorem dX11_loss_79 : decode cX11_loss 79 = .ok (.iload 7, 2) := getB' kX11_loss 38 rfl
theorem dX11_loss_81 : decode cX11_loss 81 = .ok (.iconst (-1), 1) := getB' kX11_loss 39 rfl
theorem dX11_loss_82 : decode cX11_loss 82 = .ok (.if_icmp .eq 9, 3) := getB' kX11_loss 40 rfl
theorem dX11_loss_85 : decode cX11_loss 85 = .ok (.iload 8, 2) := getB' kX11_loss 41 rfl
theorem dX11_loss_87 : decode cX11_loss 87 = .ok (.iconst (-1), 1) := getB' kX11_loss 42 rfl
theorem dX11_loss_88 : decode cX11_loss 88 = .ok (.if_icmp .ne 7, 3) := getB' kX11_loss 43 rfl
theorem dX11_loss_91 : decode cX11_loss 91 = .ok (.ldc_w 434, 3) := getB' kX11_loss 44 rfl
theorem dX11_loss_94 : decode cX11_loss 94 = .ok (.ireturn, 1) := getB' kX11_loss 45 rfl
theorem dX11_loss_95 : decode cX11_loss 95 = .ok (.iload 7, 2) := getB' kX11_loss 46 rfl
theorem dX11_loss_97 : decode cX11_loss 97 = .ok (.iload 4, 2) := getB' kX11_loss 47 rfl
theorem dX11_loss_99 : decode cX11_loss 99 = .ok (.imul, 1) := getB' kX11_loss 48 rfl
theorem dX11_loss_100 : decode cX11_loss 100 = .ok (.bipush 99, 2) := getB' kX11_loss 49 rfl
theorem dX11_loss_102 : decode cX11_loss 102 = .ok (.iadd, 1) := getB' kX11_loss 50 rfl
theorem dX11_loss_103 : decode cX11_loss 103 = .ok (.bipush 100, 2) := getB' kX11_loss 51 rfl
theorem dX11_loss_105 : decode cX11_loss 105 = .ok (.idiv, 1) := getB' kX11_loss 52 rfl
theorem dX11_loss_106 : decode cX11_loss 106 = .ok (.iload 8, 2) := getB' kX11_loss 53 rfl
theorem dX11_loss_108 : decode cX11_loss 108 = .ok (.iload 4, 2) := getB' kX11_loss 54 rfl
theorem dX11_loss_110 : decode cX11_loss 110 = .ok (.imul, 1) := getB' kX11_loss 55 rfl
theorem dX11_loss_111 : decode cX11_loss 111 = .ok (.bipush 99, 2) := getB' kX11_loss 56 rfl
theorem dX11_loss_113 : decode cX11_loss 113 = .ok (.iadd, 1) := getB' kX11_loss 57 rfl
theorem dX11_loss_114 : decode cX11_loss 114 = .ok (.bipush 100, 2) := getB' kX11_loss 58 rfl
theorem dX11_loss_116 : decode cX11_loss 116 = .ok (.idiv, 1) := getB' kX11_loss 59 rfl
theorem dX11_loss_117 : decode cX11_loss 117 = .ok (.iadd, 1) := getB' kX11_loss 60 rfl
theorem dX11_loss_118 : decode cX11_loss 118 = .ok (.istore 9, 2) := getB' kX11_loss 61 rfl
theorem dX11_loss_120 : decode cX11_loss 120 = .ok (.iload 7, 2) := getB' kX11_loss 62 rfl
theorem dX11_loss_122 : decode cX11_loss 122 = .ok (.iload 8, 2) := getB' kX11_loss 63 rfl
theorem dX11_loss_124 : decode cX11_loss 124 = .ok (.isub, 1) := getB' kX11_loss 64 rfl
theorem dX11_loss_125 : decode cX11_loss 125 = .ok (.iload 5, 2) := getB' kX11_loss 65 rfl
theorem dX11_loss_127 : decode cX11_loss 127 = .ok (.ifCond .ne 9, 3) := getB' kX11_loss 66 rfl
theorem dX11_loss_130 : decode cX11_loss 130 = .ok (.iload 9, 2) := getB' kX11_loss 67 rfl
theorem dX11_loss_132 : decode cX11_loss 132 = .ok (.ineg, 1) := getB' kX11_loss 68 rfl
theorem dX11_loss_133 : decode cX11_loss 133 = .ok (.goto 5, 3) := getB' kX11_loss 69 rfl
theorem dX11_loss_136 : decode cX11_loss 136 = .ok (.iload 9, 2) := getB' kX11_loss 70 rfl
theorem dX11_loss_138 : decode cX11_loss 138 = .ok (.iadd, 1) := getB' kX11_loss 71 rfl
theorem dX11_loss_139 : decode cX11_loss 139 = .ok (.ireturn, 1) := getB' kX11_loss 72 rfl
def LX11_noise : List (Nat × Instr × Nat) := [(0, .aload_n 0, 1), (1, .iload_n 1, 1), (2, .iconst 5, 1), (3, .invokevirtual 169, 3), (6, .astore_n 3, 1), (7, .aload_n 3, 1), (8, .ifnull 10, 3), (11, .iload_n 2, 1), (12, .invokestatic 559, 3), (15, .ifCond .ne 7, 3), (18, .iconst (-1), 1), (19, .goto 11, 3), (22, .aload_n 3, 1), (23, .getfield 473, 3), (26, .iload_n 2, 1), (27, .invokestatic 253, 3), (30, .ireturn, 1)]
theorem kX11_noise : chkB cX11_noise LX11_noise = true := by decide +kernel
theorem dX11_noise_0 : decode cX11_noise 0 = .ok (.aload_n 0, 1) := getB' kX11_noise 0 rfl
theorem dX11_noise_1 : decode cX11_noise 1 = .ok (.iload_n 1, 1) := getB' kX11_noise 1 rfl
theorem dX11_noise_2 : decode cX11_noise 2 = .ok (.iconst 5, 1) := getB' kX11_noise 2 rfl
theorem dX11_noise_3 : decode cX11_noise 3 = .ok (.invokevirtual 169, 3) := getB' kX11_noise 3 rfl
theorem dX11_noise_6 : decode cX11_noise 6 = .ok (.astore_n 3, 1) := getB' kX11_noise 4 rfl
theorem dX11_noise_7 : decode cX11_noise 7 = .ok (.aload_n 3, 1) := getB' kX11_noise 5 rfl
theorem dX11_noise_8 : decode cX11_noise 8 = .ok (.ifnull 10, 3) := getB' kX11_noise 6 rfl
theorem dX11_noise_11 : decode cX11_noise 11 = .ok (.iload_n 2, 1) := getB' kX11_noise 7 rfl
theorem dX11_noise_12 : decode cX11_noise 12 = .ok (.invokestatic 559, 3) := getB' kX11_noise 8 rfl
theorem dX11_noise_15 : decode cX11_noise 15 = .ok (.ifCond .ne 7, 3) := getB' kX11_noise 9 rfl
theorem dX11_noise_18 : decode cX11_noise 18 = .ok (.iconst (-1), 1) := getB' kX11_noise 10 rfl
theorem dX11_noise_19 : decode cX11_noise 19 = .ok (.goto 11, 3) := getB' kX11_noise 11 rfl
theorem dX11_noise_22 : decode cX11_noise 22 = .ok (.aload_n 3, 1) := getB' kX11_noise 12 rfl
theorem dX11_noise_23 : decode cX11_noise 23 = .ok (.getfield 473, 3) := getB' kX11_noise 13 rfl
theorem dX11_noise_26 : decode cX11_noise 26 = .ok (.iload_n 2, 1) := getB' kX11_noise 14 rfl
theorem dX11_noise_27 : decode cX11_noise 27 = .ok (.invokestatic 253, 3) := getB' kX11_noise 15 rfl
theorem dX11_noise_30 : decode cX11_noise 30 = .ok (.ireturn, 1) := getB' kX11_noise 16 rfl
def LX11_caught : List (Nat × Instr × Nat) := [(0, .aload_n 0, 1), (1, .iload_n 1, 1), (2, .invokevirtual 403, 3), (5, .ifnull 31, 3), (8, .iload_n 2, 1), (9, .iconst 0, 1), (10, .iconst 3, 1), (11, .invokestatic 112, 3), (14, .ifCond .eq 22, 3), (17, .iload_n 3, 1), (18, .invokestatic 394, 3), (21, .ifCond .eq 15, 3), (24, .iload 4, 2), (26, .iconst 1, 1), (27, .ldc_w 424, 3), (30, .invokestatic 112, 3), (33, .ifCond .ne 5, 3), (36, .iconst (-1), 1), (37, .ireturn, 1), (38, .iload 5, 2), (40, .iconst 0, 1), (41, .aload_n 0, 1), (42, .getfield 12, 3), (45, .getfield 145, 3), (48, .invokestatic 112, 3), (51, .ifCond .ne 5, 3), (54, .iconst (-1), 1), (55, .ireturn, 1), (56, .aload_n 0, 1), (57, .getfield 82, 3), (60, .iload_n 1, 1), (61, .iload_n 2, 1), (62, .iload_n 3, 1), (63, .iload 4, 2), (65, .iload 5, 2), (67, .invokevirtual 205, 3), (70, .ireturn, 1)]
theorem kX11_caught : chkB cX11_caught LX11_caught = true := by decide +kernel
theorem dX11_caught_0 : decode cX11_caught 0 = .ok (.aload_n 0, 1) := getB' kX11_caught 0 rfl
theorem dX11_caught_1 : decode cX11_caught 1 = .ok (.iload_n 1, 1) := getB' kX11_caught 1 rfl
theorem dX11_caught_2 : decode cX11_caught 2 = .ok (.invokevirtual 403, 3) := getB' kX11_caught 2 rfl
theorem dX11_caught_5 : decode cX11_caught 5 = .ok (.ifnull 31, 3) := getB' kX11_caught 3 rfl
theorem dX11_caught_8 : decode cX11_caught 8 = .ok (.iload_n 2, 1) := getB' kX11_caught 4 rfl
theorem dX11_caught_9 : decode cX11_caught 9 = .ok (.iconst 0, 1) := getB' kX11_caught 5 rfl
theorem dX11_caught_10 : decode cX11_caught 10 = .ok (.iconst 3, 1) := getB' kX11_caught 6 rfl
theorem dX11_caught_11 : decode cX11_caught 11 = .ok (.invokestatic 112, 3) := getB' kX11_caught 7 rfl
theorem dX11_caught_14 : decode cX11_caught 14 = .ok (.ifCond .eq 22, 3) := getB' kX11_caught 8 rfl
theorem dX11_caught_17 : decode cX11_caught 17 = .ok (.iload_n 3, 1) := getB' kX11_caught 9 rfl
theorem dX11_caught_18 : decode cX11_caught 18 = .ok (.invokestatic 394, 3) := getB' kX11_caught 10 rfl
theorem dX11_caught_21 : decode cX11_caught 21 = .ok (.ifCond .eq 15, 3) := getB' kX11_caught 11 rfl
theorem dX11_caught_24 : decode cX11_caught 24 = .ok (.iload 4, 2) := getB' kX11_caught 12 rfl
theorem dX11_caught_26 : decode cX11_caught 26 = .ok (.iconst 1, 1) := getB' kX11_caught 13 rfl
theorem dX11_caught_27 : decode cX11_caught 27 = .ok (.ldc_w 424, 3) := getB' kX11_caught 14 rfl
theorem dX11_caught_30 : decode cX11_caught 30 = .ok (.invokestatic 112, 3) := getB' kX11_caught 15 rfl
theorem dX11_caught_33 : decode cX11_caught 33 = .ok (.ifCond .ne 5, 3) := getB' kX11_caught 16 rfl
theorem dX11_caught_36 : decode cX11_caught 36 = .ok (.iconst (-1), 1) := getB' kX11_caught 17 rfl
theorem dX11_caught_37 : decode cX11_caught 37 = .ok (.ireturn, 1) := getB' kX11_caught 18 rfl
theorem dX11_caught_38 : decode cX11_caught 38 = .ok (.iload 5, 2) := getB' kX11_caught 19 rfl
theorem dX11_caught_40 : decode cX11_caught 40 = .ok (.iconst 0, 1) := getB' kX11_caught 20 rfl
theorem dX11_caught_41 : decode cX11_caught 41 = .ok (.aload_n 0, 1) := getB' kX11_caught 21 rfl
theorem dX11_caught_42 : decode cX11_caught 42 = .ok (.getfield 12, 3) := getB' kX11_caught 22 rfl
theorem dX11_caught_45 : decode cX11_caught 45 = .ok (.getfield 145, 3) := getB' kX11_caught 23 rfl
theorem dX11_caught_48 : decode cX11_caught 48 = .ok (.invokestatic 112, 3) := getB' kX11_caught 24 rfl
theorem dX11_caught_51 : decode cX11_caught 51 = .ok (.ifCond .ne 5, 3) := getB' kX11_caught 25 rfl
theorem dX11_caught_54 : decode cX11_caught 54 = .ok (.iconst (-1), 1) := getB' kX11_caught 26 rfl
theorem dX11_caught_55 : decode cX11_caught 55 = .ok (.ireturn, 1) := getB' kX11_caught 27 rfl
theorem dX11_caught_56 : decode cX11_caught 56 = .ok (.aload_n 0, 1) := getB' kX11_caught 28 rfl
theorem dX11_caught_57 : decode cX11_caught 57 = .ok (.getfield 82, 3) := getB' kX11_caught 29 rfl
theorem dX11_caught_60 : decode cX11_caught 60 = .ok (.iload_n 1, 1) := getB' kX11_caught 30 rfl
theorem dX11_caught_61 : decode cX11_caught 61 = .ok (.iload_n 2, 1) := getB' kX11_caught 31 rfl
theorem dX11_caught_62 : decode cX11_caught 62 = .ok (.iload_n 3, 1) := getB' kX11_caught 32 rfl
theorem dX11_caught_63 : decode cX11_caught 63 = .ok (.iload 4, 2) := getB' kX11_caught 33 rfl
theorem dX11_caught_65 : decode cX11_caught 65 = .ok (.iload 5, 2) := getB' kX11_caught 34 rfl
theorem dX11_caught_67 : decode cX11_caught 67 = .ok (.invokevirtual 205, 3) := getB' kX11_caught 35 rfl
theorem dX11_caught_70 : decode cX11_caught 70 = .ok (.ireturn, 1) := getB' kX11_caught 36 rfl
def LX11_over : List (Nat × Instr × Nat) := [(0, .iconst (-1), 1), (1, .istore_n 1, 1), (2, .iconst 0, 1), (3, .istore_n 2, 1), (4, .iload_n 2, 1), (5, .aload_n 0, 1), (6, .getfield 82, 3), (9, .getfield 199, 3), (12, .if_icmp .ge 55, 3), (15, .iload_n 1, 1), (16, .iconst (-1), 1), (17, .if_icmp .eq 24, 3), (20, .aload_n 0, 1), (21, .getfield 82, 3), (24, .iload_n 2, 1), (25, .iconst 4, 1), (26, .invokevirtual 209, 3), (29, .aload_n 0, 1), (30, .getfield 82, 3), (33, .iload_n 1, 1), (34, .iconst 4, 1), (35, .invokevirtual 209, 3), (38, .if_icmp .ge 7, 3), (41, .iconst 1, 1), (42, .goto 4, 3), (45, .iconst 0, 1), (46, .istore_n 3, 1), (47, .iload_n 3, 1), (48, .ifCond .eq 13, 3), (51, .aload_n 0, 1), (52, .iload_n 2, 1), (53, .invokevirtual 562, 3), (56, .ifCond .eq 5, 3), (59, .iload_n 2, 1), (60, .istore_n 1, 1), (61, .iinc 2 1, 3), (64, .goto (-60), 3), (67, .iload_n 1, 1), (68, .ireturn, 1)]
theorem kX11_over : chkB cX11_over LX11_over = true := by decide +kernel
theorem dX11_over_0 : decode cX11_over 0 = .ok (.iconst (-1), 1) := getB' kX11_over 0 rfl
theorem dX11_over_1 : decode cX11_over 1 = .ok (.istore_n 1, 1) := getB' kX11_over 1 rfl
theorem dX11_over_2 : decode cX11_over 2 = .ok (.iconst 0, 1) := getB' kX11_over 2 rfl
theorem dX11_over_3 : decode cX11_over 3 = .ok (.istore_n 2, 1) := getB' kX11_over 3 rfl
theorem dX11_over_4 : decode cX11_over 4 = .ok (.iload_n 2, 1) := getB' kX11_over 4 rfl
theorem dX11_over_5 : decode cX11_over 5 = .ok (.aload_n 0, 1) := getB' kX11_over 5 rfl
theorem dX11_over_6 : decode cX11_over 6 = .ok (.getfield 82, 3) := getB' kX11_over 6 rfl
theorem dX11_over_9 : decode cX11_over 9 = .ok (.getfield 199, 3) := getB' kX11_over 7 rfl
theorem dX11_over_12 : decode cX11_over 12 = .ok (.if_icmp .ge 55, 3) := getB' kX11_over 8 rfl
theorem dX11_over_15 : decode cX11_over 15 = .ok (.iload_n 1, 1) := getB' kX11_over 9 rfl
theorem dX11_over_16 : decode cX11_over 16 = .ok (.iconst (-1), 1) := getB' kX11_over 10 rfl
theorem dX11_over_17 : decode cX11_over 17 = .ok (.if_icmp .eq 24, 3) := getB' kX11_over 11 rfl
theorem dX11_over_20 : decode cX11_over 20 = .ok (.aload_n 0, 1) := getB' kX11_over 12 rfl
theorem dX11_over_21 : decode cX11_over 21 = .ok (.getfield 82, 3) := getB' kX11_over 13 rfl
theorem dX11_over_24 : decode cX11_over 24 = .ok (.iload_n 2, 1) := getB' kX11_over 14 rfl
theorem dX11_over_25 : decode cX11_over 25 = .ok (.iconst 4, 1) := getB' kX11_over 15 rfl
theorem dX11_over_26 : decode cX11_over 26 = .ok (.invokevirtual 209, 3) := getB' kX11_over 16 rfl
theorem dX11_over_29 : decode cX11_over 29 = .ok (.aload_n 0, 1) := getB' kX11_over 17 rfl
theorem dX11_over_30 : decode cX11_over 30 = .ok (.getfield 82, 3) := getB' kX11_over 18 rfl
theorem dX11_over_33 : decode cX11_over 33 = .ok (.iload_n 1, 1) := getB' kX11_over 19 rfl
theorem dX11_over_34 : decode cX11_over 34 = .ok (.iconst 4, 1) := getB' kX11_over 20 rfl
theorem dX11_over_35 : decode cX11_over 35 = .ok (.invokevirtual 209, 3) := getB' kX11_over 21 rfl
theorem dX11_over_38 : decode cX11_over 38 = .ok (.if_icmp .ge 7, 3) := getB' kX11_over 22 rfl
theorem dX11_over_41 : decode cX11_over 41 = .ok (.iconst 1, 1) := getB' kX11_over 23 rfl
theorem dX11_over_42 : decode cX11_over 42 = .ok (.goto 4, 3) := getB' kX11_over 24 rfl
theorem dX11_over_45 : decode cX11_over 45 = .ok (.iconst 0, 1) := getB' kX11_over 25 rfl
theorem dX11_over_46 : decode cX11_over 46 = .ok (.istore_n 3, 1) := getB' kX11_over 26 rfl
theorem dX11_over_47 : decode cX11_over 47 = .ok (.iload_n 3, 1) := getB' kX11_over 27 rfl
theorem dX11_over_48 : decode cX11_over 48 = .ok (.ifCond .eq 13, 3) := getB' kX11_over 28 rfl
theorem dX11_over_51 : decode cX11_over 51 = .ok (.aload_n 0, 1) := getB' kX11_over 29 rfl
theorem dX11_over_52 : decode cX11_over 52 = .ok (.iload_n 2, 1) := getB' kX11_over 30 rfl
theorem dX11_over_53 : decode cX11_over 53 = .ok (.invokevirtual 562, 3) := getB' kX11_over 31 rfl
theorem dX11_over_56 : decode cX11_over 56 = .ok (.ifCond .eq 5, 3) := getB' kX11_over 32 rfl
theorem dX11_over_59 : decode cX11_over 59 = .ok (.iload_n 2, 1) := getB' kX11_over 33 rfl
theorem dX11_over_60 : decode cX11_over 60 = .ok (.istore_n 1, 1) := getB' kX11_over 34 rfl
theorem dX11_over_61 : decode cX11_over 61 = .ok (.iinc 2 1, 3) := getB' kX11_over 35 rfl
theorem dX11_over_64 : decode cX11_over 64 = .ok (.goto (-60), 3) := getB' kX11_over 36 rfl
theorem dX11_over_67 : decode cX11_over 67 = .ok (.iload_n 1, 1) := getB' kX11_over 37 rfl
theorem dX11_over_68 : decode cX11_over 68 = .ok (.ireturn, 1) := getB' kX11_over 38 rfl
def LX11_isOver : List (Nat × Instr × Nat) := [(0, .aload_n 0, 1), (1, .aload_n 0, 1), (2, .getfield 82, 3), (5, .iload_n 1, 1), (6, .iconst 0, 1), (7, .invokevirtual 209, 3), (10, .invokevirtual 403, 3), (13, .astore_n 2, 1), (14, .aload_n 2, 1), (15, .ifnonnull 7, 3), (18, .aconst_null, 1), (19, .goto 11, 3), (22, .aload_n 0, 1), (23, .aload_n 2, 1), (24, .getfield 565, 3), (27, .invokevirtual 151, 3), (30, .astore_n 3, 1), (31, .aload_n 3, 1), (32, .ifnonnull 5, 3), (35, .iconst 0, 1), (36, .ireturn, 1), (37, .aload_n 0, 1), (38, .getfield 19, 3), (41, .aload_n 2, 1), (42, .getfield 565, 3), (45, .aload_n 3, 1), (46, .aload_n 0, 1), (47, .getfield 82, 3), (50, .iload_n 1, 1), (51, .iconst 4, 1), (52, .invokevirtual 209, 3), (55, .invokevirtual 279, 3), (58, .aload_n 0, 1), (59, .getfield 19, 3), (62, .bipush 107, 2), (64, .aload_n 0, 1), (65, .getfield 82, 3), (68, .iload_n 1, 1), (69, .iconst 1, 1), (70, .invokevirtual 209, 3), (73, .aload_n 0, 1), (74, .getfield 82, 3), (77, .iload_n 1, 1), (78, .iconst 2, 1), (79, .invokevirtual 209, 3), (82, .invokevirtual 292, 3), (85, .istore 4, 2), (87, .iload 4, 2), (89, .iconst (-1), 1), (90, .if_icmp .eq 17, 3), (93, .aload_n 0, 1), (94, .iload_n 1, 1), (95, .invokevirtual 566, 3), (98, .iload 4, 2), (100, .if_icmp .le 7, 3), (103, .iconst 1, 1), (104, .goto 4, 3), (107, .iconst 0, 1), (108, .ireturn, 1)]
theorem kX11_isOver : chkB cX11_isOver LX11_isOver = true := by decide +kernel
theorem dX11_isOver_0 : decode cX11_isOver 0 = .ok (.aload_n 0, 1) := getB' kX11_isOver 0 rfl
theorem dX11_isOver_1 : decode cX11_isOver 1 = .ok (.aload_n 0, 1) := getB' kX11_isOver 1 rfl
theorem dX11_isOver_2 : decode cX11_isOver 2 = .ok (.getfield 82, 3) := getB' kX11_isOver 2 rfl
theorem dX11_isOver_5 : decode cX11_isOver 5 = .ok (.iload_n 1, 1) := getB' kX11_isOver 3 rfl
theorem dX11_isOver_6 : decode cX11_isOver 6 = .ok (.iconst 0, 1) := getB' kX11_isOver 4 rfl
theorem dX11_isOver_7 : decode cX11_isOver 7 = .ok (.invokevirtual 209, 3) := getB' kX11_isOver 5 rfl
theorem dX11_isOver_10 : decode cX11_isOver 10 = .ok (.invokevirtual 403, 3) := getB' kX11_isOver 6 rfl
theorem dX11_isOver_13 : decode cX11_isOver 13 = .ok (.astore_n 2, 1) := getB' kX11_isOver 7 rfl
theorem dX11_isOver_14 : decode cX11_isOver 14 = .ok (.aload_n 2, 1) := getB' kX11_isOver 8 rfl
theorem dX11_isOver_15 : decode cX11_isOver 15 = .ok (.ifnonnull 7, 3) := getB' kX11_isOver 9 rfl
theorem dX11_isOver_18 : decode cX11_isOver 18 = .ok (.aconst_null, 1) := getB' kX11_isOver 10 rfl
theorem dX11_isOver_19 : decode cX11_isOver 19 = .ok (.goto 11, 3) := getB' kX11_isOver 11 rfl
theorem dX11_isOver_22 : decode cX11_isOver 22 = .ok (.aload_n 0, 1) := getB' kX11_isOver 12 rfl
theorem dX11_isOver_23 : decode cX11_isOver 23 = .ok (.aload_n 2, 1) := getB' kX11_isOver 13 rfl
theorem dX11_isOver_24 : decode cX11_isOver 24 = .ok (.getfield 565, 3) := getB' kX11_isOver 14 rfl
theorem dX11_isOver_27 : decode cX11_isOver 27 = .ok (.invokevirtual 151, 3) := getB' kX11_isOver 15 rfl
theorem dX11_isOver_30 : decode cX11_isOver 30 = .ok (.astore_n 3, 1) := getB' kX11_isOver 16 rfl
theorem dX11_isOver_31 : decode cX11_isOver 31 = .ok (.aload_n 3, 1) := getB' kX11_isOver 17 rfl
theorem dX11_isOver_32 : decode cX11_isOver 32 = .ok (.ifnonnull 5, 3) := getB' kX11_isOver 18 rfl
theorem dX11_isOver_35 : decode cX11_isOver 35 = .ok (.iconst 0, 1) := getB' kX11_isOver 19 rfl
theorem dX11_isOver_36 : decode cX11_isOver 36 = .ok (.ireturn, 1) := getB' kX11_isOver 20 rfl
theorem dX11_isOver_37 : decode cX11_isOver 37 = .ok (.aload_n 0, 1) := getB' kX11_isOver 21 rfl
theorem dX11_isOver_38 : decode cX11_isOver 38 = .ok (.getfield 19, 3) := getB' kX11_isOver 22 rfl
theorem dX11_isOver_41 : decode cX11_isOver 41 = .ok (.aload_n 2, 1) := getB' kX11_isOver 23 rfl
theorem dX11_isOver_42 : decode cX11_isOver 42 = .ok (.getfield 565, 3) := getB' kX11_isOver 24 rfl
theorem dX11_isOver_45 : decode cX11_isOver 45 = .ok (.aload_n 3, 1) := getB' kX11_isOver 25 rfl
theorem dX11_isOver_46 : decode cX11_isOver 46 = .ok (.aload_n 0, 1) := getB' kX11_isOver 26 rfl
theorem dX11_isOver_47 : decode cX11_isOver 47 = .ok (.getfield 82, 3) := getB' kX11_isOver 27 rfl
theorem dX11_isOver_50 : decode cX11_isOver 50 = .ok (.iload_n 1, 1) := getB' kX11_isOver 28 rfl
theorem dX11_isOver_51 : decode cX11_isOver 51 = .ok (.iconst 4, 1) := getB' kX11_isOver 29 rfl
theorem dX11_isOver_52 : decode cX11_isOver 52 = .ok (.invokevirtual 209, 3) := getB' kX11_isOver 30 rfl
theorem dX11_isOver_55 : decode cX11_isOver 55 = .ok (.invokevirtual 279, 3) := getB' kX11_isOver 31 rfl
theorem dX11_isOver_58 : decode cX11_isOver 58 = .ok (.aload_n 0, 1) := getB' kX11_isOver 32 rfl
theorem dX11_isOver_59 : decode cX11_isOver 59 = .ok (.getfield 19, 3) := getB' kX11_isOver 33 rfl
theorem dX11_isOver_62 : decode cX11_isOver 62 = .ok (.bipush 107, 2) := getB' kX11_isOver 34 rfl
theorem dX11_isOver_64 : decode cX11_isOver 64 = .ok (.aload_n 0, 1) := getB' kX11_isOver 35 rfl
theorem dX11_isOver_65 : decode cX11_isOver 65 = .ok (.getfield 82, 3) := getB' kX11_isOver 36 rfl
theorem dX11_isOver_68 : decode cX11_isOver 68 = .ok (.iload_n 1, 1) := getB' kX11_isOver 37 rfl
theorem dX11_isOver_69 : decode cX11_isOver 69 = .ok (.iconst 1, 1) := getB' kX11_isOver 38 rfl
theorem dX11_isOver_70 : decode cX11_isOver 70 = .ok (.invokevirtual 209, 3) := getB' kX11_isOver 39 rfl
theorem dX11_isOver_73 : decode cX11_isOver 73 = .ok (.aload_n 0, 1) := getB' kX11_isOver 40 rfl
theorem dX11_isOver_74 : decode cX11_isOver 74 = .ok (.getfield 82, 3) := getB' kX11_isOver 41 rfl
theorem dX11_isOver_77 : decode cX11_isOver 77 = .ok (.iload_n 1, 1) := getB' kX11_isOver 42 rfl
theorem dX11_isOver_78 : decode cX11_isOver 78 = .ok (.iconst 2, 1) := getB' kX11_isOver 43 rfl
theorem dX11_isOver_79 : decode cX11_isOver 79 = .ok (.invokevirtual 209, 3) := getB' kX11_isOver 44 rfl
theorem dX11_isOver_82 : decode cX11_isOver 82 = .ok (.invokevirtual 292, 3) := getB' kX11_isOver 45 rfl
theorem dX11_isOver_85 : decode cX11_isOver 85 = .ok (.istore 4, 2) := getB' kX11_isOver 46 rfl
theorem dX11_isOver_87 : decode cX11_isOver 87 = .ok (.iload 4, 2) := getB' kX11_isOver 47 rfl
theorem dX11_isOver_89 : decode cX11_isOver 89 = .ok (.iconst (-1), 1) := getB' kX11_isOver 48 rfl
theorem dX11_isOver_90 : decode cX11_isOver 90 = .ok (.if_icmp .eq 17, 3) := getB' kX11_isOver 49 rfl
theorem dX11_isOver_93 : decode cX11_isOver 93 = .ok (.aload_n 0, 1) := getB' kX11_isOver 50 rfl
theorem dX11_isOver_94 : decode cX11_isOver 94 = .ok (.iload_n 1, 1) := getB' kX11_isOver 51 rfl
theorem dX11_isOver_95 : decode cX11_isOver 95 = .ok (.invokevirtual 566, 3) := getB' kX11_isOver 52 rfl
theorem dX11_isOver_98 : decode cX11_isOver 98 = .ok (.iload 4, 2) := getB' kX11_isOver 53 rfl
theorem dX11_isOver_100 : decode cX11_isOver 100 = .ok (.if_icmp .le 7, 3) := getB' kX11_isOver 54 rfl
theorem dX11_isOver_103 : decode cX11_isOver 103 = .ok (.iconst 1, 1) := getB' kX11_isOver 55 rfl
theorem dX11_isOver_104 : decode cX11_isOver 104 = .ok (.goto 4, 3) := getB' kX11_isOver 56 rfl
theorem dX11_isOver_107 : decode cX11_isOver 107 = .ok (.iconst 0, 1) := getB' kX11_isOver 57 rfl
theorem dX11_isOver_108 : decode cX11_isOver 108 = .ok (.ireturn, 1) := getB' kX11_isOver 58 rfl
def LX11_tonnesUpTo : List (Nat × Instr × Nat) := [(0, .aload_n 0, 1), (1, .getfield 82, 3), (4, .iload_n 1, 1), (5, .iconst 4, 1), (6, .invokevirtual 209, 3), (9, .istore_n 2, 1), (10, .iconst 0, 1), (11, .istore_n 3, 1), (12, .iconst 0, 1), (13, .istore 4, 2), (15, .iload 4, 2), (17, .aload_n 0, 1), (18, .getfield 82, 3), (21, .getfield 199, 3), (24, .if_icmp .ge 122, 3), (27, .aload_n 0, 1), (28, .getfield 82, 3), (31, .iload 4, 2), (33, .iconst 4, 1), (34, .invokevirtual 209, 3), (37, .istore 5, 2), (39, .iload 5, 2), (41, .iload_n 2, 1), (42, .if_icmp .lt 15, 3), (45, .iload 5, 2), (47, .iload_n 2, 1), (48, .if_icmp .ne 13, 3), (51, .iload 4, 2), (53, .iload_n 1, 1), (54, .if_icmp .gt 7, 3), (57, .iconst 1, 1), (58, .goto 4, 3), (61, .iconst 0, 1), (62, .istore 6, 2), (64, .iload 6, 2), (66, .ifCond .eq 74, 3), (69, .iload 5, 2), (71, .sipush 360, 3), (74, .idiv, 1), (75, .iload_n 2, 1), (76, .sipush 360, 3), (79, .idiv, 1), (80, .if_icmp .ne 60, 3), (83, .aload_n 0, 1), (84, .getfield 82, 3), (87, .iload 4, 2), (89, .iconst 1, 1), (90, .invokevirtual 209, 3), (93, .aload_n 0, 1), (94, .getfield 82, 3), (97, .iload_n 1, 1), (98, .iconst 1, 1), (99, .invokevirtual 209, 3), (102, .if_icmp .ne 38, 3), (105, .aload_n 0, 1), (106, .getfield 82, 3), (109, .iload 4, 2), (111, .iconst 2, 1), (112, .invokevirtual 209, 3), (115, .aload_n 0, 1), (116, .getfield 82, 3), (119, .iload_n 1, 1), (120, .iconst 2, 1), (121, .invokevirtual 209, 3), (124, .if_icmp .ne 16, 3), (127, .iload_n 3, 1), (128, .aload_n 0, 1), (129, .getfield 82, 3), (132, .iload 4, 2), (134, .iconst 3, 1), (135, .invokevirtual 209, 3), (138, .iadd, 1), (139, .istore_n 3, 1), (140, .iinc 4 1, 3), (143, .goto (-128), 3), (146, .iload_n 3, 1), (147, .ireturn, 1)]
theorem kX11_tonnesUpTo : chkB cX11_tonnesUpTo LX11_tonnesUpTo = true := by decide +kernel
theorem dX11_tonnesUpTo_0 : decode cX11_tonnesUpTo 0 = .ok (.aload_n 0, 1) := getB' kX11_tonnesUpTo 0 rfl
theorem dX11_tonnesUpTo_1 : decode cX11_tonnesUpTo 1 = .ok (.getfield 82, 3) := getB' kX11_tonnesUpTo 1 rfl
theorem dX11_tonnesUpTo_4 : decode cX11_tonnesUpTo 4 = .ok (.iload_n 1, 1) := getB' kX11_tonnesUpTo 2 rfl
theorem dX11_tonnesUpTo_5 : decode cX11_tonnesUpTo 5 = .ok (.iconst 4, 1) := getB' kX11_tonnesUpTo 3 rfl
theorem dX11_tonnesUpTo_6 : decode cX11_tonnesUpTo 6 = .ok (.invokevirtual 209, 3) := getB' kX11_tonnesUpTo 4 rfl
theorem dX11_tonnesUpTo_9 : decode cX11_tonnesUpTo 9 = .ok (.istore_n 2, 1) := getB' kX11_tonnesUpTo 5 rfl
theorem dX11_tonnesUpTo_10 : decode cX11_tonnesUpTo 10 = .ok (.iconst 0, 1) := getB' kX11_tonnesUpTo 6 rfl
theorem dX11_tonnesUpTo_11 : decode cX11_tonnesUpTo 11 = .ok (.istore_n 3, 1) := getB' kX11_tonnesUpTo 7 rfl
theorem dX11_tonnesUpTo_12 : decode cX11_tonnesUpTo 12 = .ok (.iconst 0, 1) := getB' kX11_tonnesUpTo 8 rfl
theorem dX11_tonnesUpTo_13 : decode cX11_tonnesUpTo 13 = .ok (.istore 4, 2) := getB' kX11_tonnesUpTo 9 rfl
theorem dX11_tonnesUpTo_15 : decode cX11_tonnesUpTo 15 = .ok (.iload 4, 2) := getB' kX11_tonnesUpTo 10 rfl
theorem dX11_tonnesUpTo_17 : decode cX11_tonnesUpTo 17 = .ok (.aload_n 0, 1) := getB' kX11_tonnesUpTo 11 rfl
theorem dX11_tonnesUpTo_18 : decode cX11_tonnesUpTo 18 = .ok (.getfield 82, 3) := getB' kX11_tonnesUpTo 12 rfl
theorem dX11_tonnesUpTo_21 : decode cX11_tonnesUpTo 21 = .ok (.getfield 199, 3) := getB' kX11_tonnesUpTo 13 rfl
theorem dX11_tonnesUpTo_24 : decode cX11_tonnesUpTo 24 = .ok (.if_icmp .ge 122, 3) := getB' kX11_tonnesUpTo 14 rfl
theorem dX11_tonnesUpTo_27 : decode cX11_tonnesUpTo 27 = .ok (.aload_n 0, 1) := getB' kX11_tonnesUpTo 15 rfl
theorem dX11_tonnesUpTo_28 : decode cX11_tonnesUpTo 28 = .ok (.getfield 82, 3) := getB' kX11_tonnesUpTo 16 rfl
theorem dX11_tonnesUpTo_31 : decode cX11_tonnesUpTo 31 = .ok (.iload 4, 2) := getB' kX11_tonnesUpTo 17 rfl
theorem dX11_tonnesUpTo_33 : decode cX11_tonnesUpTo 33 = .ok (.iconst 4, 1) := getB' kX11_tonnesUpTo 18 rfl
theorem dX11_tonnesUpTo_34 : decode cX11_tonnesUpTo 34 = .ok (.invokevirtual 209, 3) := getB' kX11_tonnesUpTo 19 rfl
theorem dX11_tonnesUpTo_37 : decode cX11_tonnesUpTo 37 = .ok (.istore 5, 2) := getB' kX11_tonnesUpTo 20 rfl
theorem dX11_tonnesUpTo_39 : decode cX11_tonnesUpTo 39 = .ok (.iload 5, 2) := getB' kX11_tonnesUpTo 21 rfl
theorem dX11_tonnesUpTo_41 : decode cX11_tonnesUpTo 41 = .ok (.iload_n 2, 1) := getB' kX11_tonnesUpTo 22 rfl
theorem dX11_tonnesUpTo_42 : decode cX11_tonnesUpTo 42 = .ok (.if_icmp .lt 15, 3) := getB' kX11_tonnesUpTo 23 rfl
theorem dX11_tonnesUpTo_45 : decode cX11_tonnesUpTo 45 = .ok (.iload 5, 2) := getB' kX11_tonnesUpTo 24 rfl
theorem dX11_tonnesUpTo_47 : decode cX11_tonnesUpTo 47 = .ok (.iload_n 2, 1) := getB' kX11_tonnesUpTo 25 rfl
theorem dX11_tonnesUpTo_48 : decode cX11_tonnesUpTo 48 = .ok (.if_icmp .ne 13, 3) := getB' kX11_tonnesUpTo 26 rfl
theorem dX11_tonnesUpTo_51 : decode cX11_tonnesUpTo 51 = .ok (.iload 4, 2) := getB' kX11_tonnesUpTo 27 rfl
theorem dX11_tonnesUpTo_53 : decode cX11_tonnesUpTo 53 = .ok (.iload_n 1, 1) := getB' kX11_tonnesUpTo 28 rfl
theorem dX11_tonnesUpTo_54 : decode cX11_tonnesUpTo 54 = .ok (.if_icmp .gt 7, 3) := getB' kX11_tonnesUpTo 29 rfl
theorem dX11_tonnesUpTo_57 : decode cX11_tonnesUpTo 57 = .ok (.iconst 1, 1) := getB' kX11_tonnesUpTo 30 rfl
theorem dX11_tonnesUpTo_58 : decode cX11_tonnesUpTo 58 = .ok (.goto 4, 3) := getB' kX11_tonnesUpTo 31 rfl
theorem dX11_tonnesUpTo_61 : decode cX11_tonnesUpTo 61 = .ok (.iconst 0, 1) := getB' kX11_tonnesUpTo 32 rfl
theorem dX11_tonnesUpTo_62 : decode cX11_tonnesUpTo 62 = .ok (.istore 6, 2) := getB' kX11_tonnesUpTo 33 rfl
theorem dX11_tonnesUpTo_64 : decode cX11_tonnesUpTo 64 = .ok (.iload 6, 2) := getB' kX11_tonnesUpTo 34 rfl
theorem dX11_tonnesUpTo_66 : decode cX11_tonnesUpTo 66 = .ok (.ifCond .eq 74, 3) := getB' kX11_tonnesUpTo 35 rfl
theorem dX11_tonnesUpTo_69 : decode cX11_tonnesUpTo 69 = .ok (.iload 5, 2) := getB' kX11_tonnesUpTo 36 rfl
theorem dX11_tonnesUpTo_71 : decode cX11_tonnesUpTo 71 = .ok (.sipush 360, 3) := getB' kX11_tonnesUpTo 37 rfl
theorem dX11_tonnesUpTo_74 : decode cX11_tonnesUpTo 74 = .ok (.idiv, 1) := getB' kX11_tonnesUpTo 38 rfl
theorem dX11_tonnesUpTo_75 : decode cX11_tonnesUpTo 75 = .ok (.iload_n 2, 1) := getB' kX11_tonnesUpTo 39 rfl
theorem dX11_tonnesUpTo_76 : decode cX11_tonnesUpTo 76 = .ok (.sipush 360, 3) := getB' kX11_tonnesUpTo 40 rfl
theorem dX11_tonnesUpTo_79 : decode cX11_tonnesUpTo 79 = .ok (.idiv, 1) := getB' kX11_tonnesUpTo 41 rfl
theorem dX11_tonnesUpTo_80 : decode cX11_tonnesUpTo 80 = .ok (.if_icmp .ne 60, 3) := getB' kX11_tonnesUpTo 42 rfl
theorem dX11_tonnesUpTo_83 : decode cX11_tonnesUpTo 83 = .ok (.aload_n 0, 1) := getB' kX11_tonnesUpTo 43 rfl
theorem dX11_tonnesUpTo_84 : decode cX11_tonnesUpTo 84 = .ok (.getfield 82, 3) := getB' kX11_tonnesUpTo 44 rfl
theorem dX11_tonnesUpTo_87 : decode cX11_tonnesUpTo 87 = .ok (.iload 4, 2) := getB' kX11_tonnesUpTo 45 rfl
theorem dX11_tonnesUpTo_89 : decode cX11_tonnesUpTo 89 = .ok (.iconst 1, 1) := getB' kX11_tonnesUpTo 46 rfl
theorem dX11_tonnesUpTo_90 : decode cX11_tonnesUpTo 90 = .ok (.invokevirtual 209, 3) := getB' kX11_tonnesUpTo 47 rfl
theorem dX11_tonnesUpTo_93 : decode cX11_tonnesUpTo 93 = .ok (.aload_n 0, 1) := getB' kX11_tonnesUpTo 48 rfl
theorem dX11_tonnesUpTo_94 : decode cX11_tonnesUpTo 94 = .ok (.getfield 82, 3) := getB' kX11_tonnesUpTo 49 rfl
theorem dX11_tonnesUpTo_97 : decode cX11_tonnesUpTo 97 = .ok (.iload_n 1, 1) := getB' kX11_tonnesUpTo 50 rfl
theorem dX11_tonnesUpTo_98 : decode cX11_tonnesUpTo 98 = .ok (.iconst 1, 1) := getB' kX11_tonnesUpTo 51 rfl
theorem dX11_tonnesUpTo_99 : decode cX11_tonnesUpTo 99 = .ok (.invokevirtual 209, 3) := getB' kX11_tonnesUpTo 52 rfl
theorem dX11_tonnesUpTo_102 : decode cX11_tonnesUpTo 102 = .ok (.if_icmp .ne 38, 3) := getB' kX11_tonnesUpTo 53 rfl
theorem dX11_tonnesUpTo_105 : decode cX11_tonnesUpTo 105 = .ok (.aload_n 0, 1) := getB' kX11_tonnesUpTo 54 rfl
theorem dX11_tonnesUpTo_106 : decode cX11_tonnesUpTo 106 = .ok (.getfield 82, 3) := getB' kX11_tonnesUpTo 55 rfl
theorem dX11_tonnesUpTo_109 : decode cX11_tonnesUpTo 109 = .ok (.iload 4, 2) := getB' kX11_tonnesUpTo 56 rfl
theorem dX11_tonnesUpTo_111 : decode cX11_tonnesUpTo 111 = .ok (.iconst 2, 1) := getB' kX11_tonnesUpTo 57 rfl
theorem dX11_tonnesUpTo_112 : decode cX11_tonnesUpTo 112 = .ok (.invokevirtual 209, 3) := getB' kX11_tonnesUpTo 58 rfl
theorem dX11_tonnesUpTo_115 : decode cX11_tonnesUpTo 115 = .ok (.aload_n 0, 1) := getB' kX11_tonnesUpTo 59 rfl
theorem dX11_tonnesUpTo_116 : decode cX11_tonnesUpTo 116 = .ok (.getfield 82, 3) := getB' kX11_tonnesUpTo 60 rfl
theorem dX11_tonnesUpTo_119 : decode cX11_tonnesUpTo 119 = .ok (.iload_n 1, 1) := getB' kX11_tonnesUpTo 61 rfl
theorem dX11_tonnesUpTo_120 : decode cX11_tonnesUpTo 120 = .ok (.iconst 2, 1) := getB' kX11_tonnesUpTo 62 rfl
theorem dX11_tonnesUpTo_121 : decode cX11_tonnesUpTo 121 = .ok (.invokevirtual 209, 3) := getB' kX11_tonnesUpTo 63 rfl
theorem dX11_tonnesUpTo_124 : decode cX11_tonnesUpTo 124 = .ok (.if_icmp .ne 16, 3) := getB' kX11_tonnesUpTo 64 rfl
theorem dX11_tonnesUpTo_127 : decode cX11_tonnesUpTo 127 = .ok (.iload_n 3, 1) := getB' kX11_tonnesUpTo 65 rfl
theorem dX11_tonnesUpTo_128 : decode cX11_tonnesUpTo 128 = .ok (.aload_n 0, 1) := getB' kX11_tonnesUpTo 66 rfl
theorem dX11_tonnesUpTo_129 : decode cX11_tonnesUpTo 129 = .ok (.getfield 82, 3) := getB' kX11_tonnesUpTo 67 rfl
theorem dX11_tonnesUpTo_132 : decode cX11_tonnesUpTo 132 = .ok (.iload 4, 2) := getB' kX11_tonnesUpTo 68 rfl
theorem dX11_tonnesUpTo_134 : decode cX11_tonnesUpTo 134 = .ok (.iconst 3, 1) := getB' kX11_tonnesUpTo 69 rfl
theorem dX11_tonnesUpTo_135 : decode cX11_tonnesUpTo 135 = .ok (.invokevirtual 209, 3) := getB' kX11_tonnesUpTo 70 rfl
theorem dX11_tonnesUpTo_138 : decode cX11_tonnesUpTo 138 = .ok (.iadd, 1) := getB' kX11_tonnesUpTo 71 rfl
theorem dX11_tonnesUpTo_139 : decode cX11_tonnesUpTo 139 = .ok (.istore_n 3, 1) := getB' kX11_tonnesUpTo 72 rfl
theorem dX11_tonnesUpTo_140 : decode cX11_tonnesUpTo 140 = .ok (.iinc 4 1, 3) := getB' kX11_tonnesUpTo 73 rfl
theorem dX11_tonnesUpTo_143 : decode cX11_tonnesUpTo 143 = .ok (.goto (-128), 3) := getB' kX11_tonnesUpTo 74 rfl
theorem dX11_tonnesUpTo_146 : decode cX11_tonnesUpTo 146 = .ok (.iload_n 3, 1) := getB' kX11_tonnesUpTo 75 rfl
theorem dX11_tonnesUpTo_147 : decode cX11_tonnesUpTo 147 = .ok (.ireturn, 1) := getB' kX11_tonnesUpTo 76 rfl
def LX11_doubt : List (Nat × Instr × Nat) := [(0, .iload_n 1, 1), (1, .iconst 0, 1), (2, .iconst 1, 1), (3, .invokestatic 112, 3), (6, .ifCond .ne 5, 3), (9, .iconst (-1), 1), (10, .ireturn, 1), (11, .iconst 0, 1), (12, .istore_n 2, 1), (13, .iload_n 2, 1), (14, .aload_n 0, 1), (15, .getfield 82, 3), (18, .getfield 199, 3), (21, .if_icmp .ge 49, 3), (24, .iload_n 2, 1), (25, .iconst 1, 1), (26, .iadd, 1), (27, .istore_n 3, 1), (28, .iload_n 3, 1), (29, .aload_n 0, 1), (30, .getfield 82, 3), (33, .getfield 199, 3), (36, .if_icmp .ge 28, 3), (39, .aload_n 0, 1), (40, .iload_n 2, 1), (41, .iload_n 3, 1), (42, .invokevirtual 569, 3), (45, .ifCond .eq 13, 3), (48, .iload_n 1, 1), (49, .ifCond .ne 7, 3), (52, .iload_n 2, 1), (53, .goto 4, 3), (56, .iload_n 3, 1), (57, .ireturn, 1), (58, .iinc 3 1, 3), (61, .goto (-33), 3), (64, .iinc 2 1, 3), (67, .goto (-54), 3), (70, .iconst (-1), 1), (71, .ireturn, 1)]
theorem kX11_doubt : chkB cX11_doubt LX11_doubt = true := by decide +kernel
theorem dX11_doubt_0 : decode cX11_doubt 0 = .ok (.iload_n 1, 1) := getB' kX11_doubt 0 rfl
theorem dX11_doubt_1 : decode cX11_doubt 1 = .ok (.iconst 0, 1) := getB' kX11_doubt 1 rfl
theorem dX11_doubt_2 : decode cX11_doubt 2 = .ok (.iconst 1, 1) := getB' kX11_doubt 2 rfl
theorem dX11_doubt_3 : decode cX11_doubt 3 = .ok (.invokestatic 112, 3) := getB' kX11_doubt 3 rfl
theorem dX11_doubt_6 : decode cX11_doubt 6 = .ok (.ifCond .ne 5, 3) := getB' kX11_doubt 4 rfl
theorem dX11_doubt_9 : decode cX11_doubt 9 = .ok (.iconst (-1), 1) := getB' kX11_doubt 5 rfl
theorem dX11_doubt_10 : decode cX11_doubt 10 = .ok (.ireturn, 1) := getB' kX11_doubt 6 rfl
theorem dX11_doubt_11 : decode cX11_doubt 11 = .ok (.iconst 0, 1) := getB' kX11_doubt 7 rfl
theorem dX11_doubt_12 : decode cX11_doubt 12 = .ok (.istore_n 2, 1) := getB' kX11_doubt 8 rfl
theorem dX11_doubt_13 : decode cX11_doubt 13 = .ok (.iload_n 2, 1) := getB' kX11_doubt 9 rfl
theorem dX11_doubt_14 : decode cX11_doubt 14 = .ok (.aload_n 0, 1) := getB' kX11_doubt 10 rfl
theorem dX11_doubt_15 : decode cX11_doubt 15 = .ok (.getfield 82, 3) := getB' kX11_doubt 11 rfl
theorem dX11_doubt_18 : decode cX11_doubt 18 = .ok (.getfield 199, 3) := getB' kX11_doubt 12 rfl
theorem dX11_doubt_21 : decode cX11_doubt 21 = .ok (.if_icmp .ge 49, 3) := getB' kX11_doubt 13 rfl
theorem dX11_doubt_24 : decode cX11_doubt 24 = .ok (.iload_n 2, 1) := getB' kX11_doubt 14 rfl
theorem dX11_doubt_25 : decode cX11_doubt 25 = .ok (.iconst 1, 1) := getB' kX11_doubt 15 rfl
theorem dX11_doubt_26 : decode cX11_doubt 26 = .ok (.iadd, 1) := getB' kX11_doubt 16 rfl
theorem dX11_doubt_27 : decode cX11_doubt 27 = .ok (.istore_n 3, 1) := getB' kX11_doubt 17 rfl
theorem dX11_doubt_28 : decode cX11_doubt 28 = .ok (.iload_n 3, 1) := getB' kX11_doubt 18 rfl
theorem dX11_doubt_29 : decode cX11_doubt 29 = .ok (.aload_n 0, 1) := getB' kX11_doubt 19 rfl
theorem dX11_doubt_30 : decode cX11_doubt 30 = .ok (.getfield 82, 3) := getB' kX11_doubt 20 rfl
theorem dX11_doubt_33 : decode cX11_doubt 33 = .ok (.getfield 199, 3) := getB' kX11_doubt 21 rfl
theorem dX11_doubt_36 : decode cX11_doubt 36 = .ok (.if_icmp .ge 28, 3) := getB' kX11_doubt 22 rfl
theorem dX11_doubt_39 : decode cX11_doubt 39 = .ok (.aload_n 0, 1) := getB' kX11_doubt 23 rfl
theorem dX11_doubt_40 : decode cX11_doubt 40 = .ok (.iload_n 2, 1) := getB' kX11_doubt 24 rfl
theorem dX11_doubt_41 : decode cX11_doubt 41 = .ok (.iload_n 3, 1) := getB' kX11_doubt 25 rfl
theorem dX11_doubt_42 : decode cX11_doubt 42 = .ok (.invokevirtual 569, 3) := getB' kX11_doubt 26 rfl
theorem dX11_doubt_45 : decode cX11_doubt 45 = .ok (.ifCond .eq 13, 3) := getB' kX11_doubt 27 rfl
theorem dX11_doubt_48 : decode cX11_doubt 48 = .ok (.iload_n 1, 1) := getB' kX11_doubt 28 rfl
theorem dX11_doubt_49 : decode cX11_doubt 49 = .ok (.ifCond .ne 7, 3) := getB' kX11_doubt 29 rfl
theorem dX11_doubt_52 : decode cX11_doubt 52 = .ok (.iload_n 2, 1) := getB' kX11_doubt 30 rfl
theorem dX11_doubt_53 : decode cX11_doubt 53 = .ok (.goto 4, 3) := getB' kX11_doubt 31 rfl
theorem dX11_doubt_56 : decode cX11_doubt 56 = .ok (.iload_n 3, 1) := getB' kX11_doubt 32 rfl
theorem dX11_doubt_57 : decode cX11_doubt 57 = .ok (.ireturn, 1) := getB' kX11_doubt 33 rfl
theorem dX11_doubt_58 : decode cX11_doubt 58 = .ok (.iinc 3 1, 3) := getB' kX11_doubt 34 rfl
theorem dX11_doubt_61 : decode cX11_doubt 61 = .ok (.goto (-33), 3) := getB' kX11_doubt 35 rfl
theorem dX11_doubt_64 : decode cX11_doubt 64 = .ok (.iinc 2 1, 3) := getB' kX11_doubt 36 rfl
theorem dX11_doubt_67 : decode cX11_doubt 67 = .ok (.goto (-54), 3) := getB' kX11_doubt 37 rfl
theorem dX11_doubt_70 : decode cX11_doubt 70 = .ok (.iconst (-1), 1) := getB' kX11_doubt 38 rfl
theorem dX11_doubt_71 : decode cX11_doubt 71 = .ok (.ireturn, 1) := getB' kX11_doubt 39 rfl
def LX11_isDoubtful : List (Nat × Instr × Nat) := [(0, .aload_n 0, 1), (1, .getfield 82, 3), (4, .iload_n 1, 1), (5, .iconst 2, 1), (6, .invokevirtual 209, 3), (9, .istore_n 3, 1), (10, .aload_n 0, 1), (11, .getfield 82, 3), (14, .iload_n 2, 1), (15, .iconst 2, 1), (16, .invokevirtual 209, 3), (19, .istore 4, 2), (21, .aload_n 0, 1), (22, .getfield 82, 3), (25, .iload_n 1, 1), (26, .iconst 0, 1), (27, .invokevirtual 209, 3), (30, .aload_n 0, 1), (31, .getfield 82, 3), (34, .iload_n 2, 1), (35, .iconst 0, 1), (36, .invokevirtual 209, 3), (39, .if_icmp .ne 9, 3), (42, .iload_n 3, 1), (43, .iload 4, 2), (45, .if_icmp .ne 5, 3), (48, .iconst 0, 1), (49, .ireturn, 1), (50, .aload_n 0, 1), (51, .getfield 82, 3), (54, .iload_n 1, 1), (55, .iconst 4, 1), (56, .invokevirtual 209, 3), (59, .aload_n 0, 1), (60, .getfield 82, 3), (63, .iload_n 2, 1), (64, .iconst 4, 1), (65, .invokevirtual 209, 3), (68, .isub, 1), (69, .invokestatic 572, 3), (72, .istore 5, 2), (74, .iload 5, 2), (76, .aload_n 0, 1), (77, .getfield 12, 3), (80, .getfield 400, 3), (83, .iload_n 3, 1), (84, .invokestatic 253, 3), (87, .aload_n 0, 1), (88, .getfield 12, 3), (91, .getfield 400, 3), (94, .iload 4, 2), (96, .invokestatic 253, 3), (99, .iadd, 1), (100, .iconst 4, 1), (101, .idiv, 1), (102, .if_icmp .ge 7, 3), (105, .iconst 1, 1), (106, .goto 4, 3), (109, .iconst 0, 1), (110, .ireturn, 1)]
theorem kX11_isDoubtful : chkB cX11_isDoubtful LX11_isDoubtful = true := by decide +kernel
theorem dX11_isDoubtful_0 : decode cX11_isDoubtful 0 = .ok (.aload_n 0, 1) := getB' kX11_isDoubtful 0 rfl
theorem dX11_isDoubtful_1 : decode cX11_isDoubtful 1 = .ok (.getfield 82, 3) := getB' kX11_isDoubtful 1 rfl
theorem dX11_isDoubtful_4 : decode cX11_isDoubtful 4 = .ok (.iload_n 1, 1) := getB' kX11_isDoubtful 2 rfl
theorem dX11_isDoubtful_5 : decode cX11_isDoubtful 5 = .ok (.iconst 2, 1) := getB' kX11_isDoubtful 3 rfl
theorem dX11_isDoubtful_6 : decode cX11_isDoubtful 6 = .ok (.invokevirtual 209, 3) := getB' kX11_isDoubtful 4 rfl
theorem dX11_isDoubtful_9 : decode cX11_isDoubtful 9 = .ok (.istore_n 3, 1) := getB' kX11_isDoubtful 5 rfl
theorem dX11_isDoubtful_10 : decode cX11_isDoubtful 10 = .ok (.aload_n 0, 1) := getB' kX11_isDoubtful 6 rfl
theorem dX11_isDoubtful_11 : decode cX11_isDoubtful 11 = .ok (.getfield 82, 3) := getB' kX11_isDoubtful 7 rfl
theorem dX11_isDoubtful_14 : decode cX11_isDoubtful 14 = .ok (.iload_n 2, 1) := getB' kX11_isDoubtful 8 rfl
theorem dX11_isDoubtful_15 : decode cX11_isDoubtful 15 = .ok (.iconst 2, 1) := getB' kX11_isDoubtful 9 rfl
theorem dX11_isDoubtful_16 : decode cX11_isDoubtful 16 = .ok (.invokevirtual 209, 3) := getB' kX11_isDoubtful 10 rfl
theorem dX11_isDoubtful_19 : decode cX11_isDoubtful 19 = .ok (.istore 4, 2) := getB' kX11_isDoubtful 11 rfl
theorem dX11_isDoubtful_21 : decode cX11_isDoubtful 21 = .ok (.aload_n 0, 1) := getB' kX11_isDoubtful 12 rfl
theorem dX11_isDoubtful_22 : decode cX11_isDoubtful 22 = .ok (.getfield 82, 3) := getB' kX11_isDoubtful 13 rfl
theorem dX11_isDoubtful_25 : decode cX11_isDoubtful 25 = .ok (.iload_n 1, 1) := getB' kX11_isDoubtful 14 rfl
theorem dX11_isDoubtful_26 : decode cX11_isDoubtful 26 = .ok (.iconst 0, 1) := getB' kX11_isDoubtful 15 rfl
theorem dX11_isDoubtful_27 : decode cX11_isDoubtful 27 = .ok (.invokevirtual 209, 3) := getB' kX11_isDoubtful 16 rfl
theorem dX11_isDoubtful_30 : decode cX11_isDoubtful 30 = .ok (.aload_n 0, 1) := getB' kX11_isDoubtful 17 rfl
theorem dX11_isDoubtful_31 : decode cX11_isDoubtful 31 = .ok (.getfield 82, 3) := getB' kX11_isDoubtful 18 rfl
theorem dX11_isDoubtful_34 : decode cX11_isDoubtful 34 = .ok (.iload_n 2, 1) := getB' kX11_isDoubtful 19 rfl
theorem dX11_isDoubtful_35 : decode cX11_isDoubtful 35 = .ok (.iconst 0, 1) := getB' kX11_isDoubtful 20 rfl
theorem dX11_isDoubtful_36 : decode cX11_isDoubtful 36 = .ok (.invokevirtual 209, 3) := getB' kX11_isDoubtful 21 rfl
theorem dX11_isDoubtful_39 : decode cX11_isDoubtful 39 = .ok (.if_icmp .ne 9, 3) := getB' kX11_isDoubtful 22 rfl
theorem dX11_isDoubtful_42 : decode cX11_isDoubtful 42 = .ok (.iload_n 3, 1) := getB' kX11_isDoubtful 23 rfl
theorem dX11_isDoubtful_43 : decode cX11_isDoubtful 43 = .ok (.iload 4, 2) := getB' kX11_isDoubtful 24 rfl
theorem dX11_isDoubtful_45 : decode cX11_isDoubtful 45 = .ok (.if_icmp .ne 5, 3) := getB' kX11_isDoubtful 25 rfl
theorem dX11_isDoubtful_48 : decode cX11_isDoubtful 48 = .ok (.iconst 0, 1) := getB' kX11_isDoubtful 26 rfl
theorem dX11_isDoubtful_49 : decode cX11_isDoubtful 49 = .ok (.ireturn, 1) := getB' kX11_isDoubtful 27 rfl
theorem dX11_isDoubtful_50 : decode cX11_isDoubtful 50 = .ok (.aload_n 0, 1) := getB' kX11_isDoubtful 28 rfl
theorem dX11_isDoubtful_51 : decode cX11_isDoubtful 51 = .ok (.getfield 82, 3) := getB' kX11_isDoubtful 29 rfl
theorem dX11_isDoubtful_54 : decode cX11_isDoubtful 54 = .ok (.iload_n 1, 1) := getB' kX11_isDoubtful 30 rfl
theorem dX11_isDoubtful_55 : decode cX11_isDoubtful 55 = .ok (.iconst 4, 1) := getB' kX11_isDoubtful 31 rfl
theorem dX11_isDoubtful_56 : decode cX11_isDoubtful 56 = .ok (.invokevirtual 209, 3) := getB' kX11_isDoubtful 32 rfl
theorem dX11_isDoubtful_59 : decode cX11_isDoubtful 59 = .ok (.aload_n 0, 1) := getB' kX11_isDoubtful 33 rfl
theorem dX11_isDoubtful_60 : decode cX11_isDoubtful 60 = .ok (.getfield 82, 3) := getB' kX11_isDoubtful 34 rfl
theorem dX11_isDoubtful_63 : decode cX11_isDoubtful 63 = .ok (.iload_n 2, 1) := getB' kX11_isDoubtful 35 rfl
theorem dX11_isDoubtful_64 : decode cX11_isDoubtful 64 = .ok (.iconst 4, 1) := getB' kX11_isDoubtful 36 rfl
theorem dX11_isDoubtful_65 : decode cX11_isDoubtful 65 = .ok (.invokevirtual 209, 3) := getB' kX11_isDoubtful 37 rfl
theorem dX11_isDoubtful_68 : decode cX11_isDoubtful 68 = .ok (.isub, 1) := getB' kX11_isDoubtful 38 rfl
theorem dX11_isDoubtful_69 : decode cX11_isDoubtful 69 = .ok (.invokestatic 572, 3) := getB' kX11_isDoubtful 39 rfl
theorem dX11_isDoubtful_72 : decode cX11_isDoubtful 72 = .ok (.istore 5, 2) := getB' kX11_isDoubtful 40 rfl
theorem dX11_isDoubtful_74 : decode cX11_isDoubtful 74 = .ok (.iload 5, 2) := getB' kX11_isDoubtful 41 rfl
theorem dX11_isDoubtful_76 : decode cX11_isDoubtful 76 = .ok (.aload_n 0, 1) := getB' kX11_isDoubtful 42 rfl
theorem dX11_isDoubtful_77 : decode cX11_isDoubtful 77 = .ok (.getfield 12, 3) := getB' kX11_isDoubtful 43 rfl
theorem dX11_isDoubtful_80 : decode cX11_isDoubtful 80 = .ok (.getfield 400, 3) := getB' kX11_isDoubtful 44 rfl
theorem dX11_isDoubtful_83 : decode cX11_isDoubtful 83 = .ok (.iload_n 3, 1) := getB' kX11_isDoubtful 45 rfl
theorem dX11_isDoubtful_84 : decode cX11_isDoubtful 84 = .ok (.invokestatic 253, 3) := getB' kX11_isDoubtful 46 rfl
theorem dX11_isDoubtful_87 : decode cX11_isDoubtful 87 = .ok (.aload_n 0, 1) := getB' kX11_isDoubtful 47 rfl
theorem dX11_isDoubtful_88 : decode cX11_isDoubtful 88 = .ok (.getfield 12, 3) := getB' kX11_isDoubtful 48 rfl
theorem dX11_isDoubtful_91 : decode cX11_isDoubtful 91 = .ok (.getfield 400, 3) := getB' kX11_isDoubtful 49 rfl
theorem dX11_isDoubtful_94 : decode cX11_isDoubtful 94 = .ok (.iload 4, 2) := getB' kX11_isDoubtful 50 rfl
theorem dX11_isDoubtful_96 : decode cX11_isDoubtful 96 = .ok (.invokestatic 253, 3) := getB' kX11_isDoubtful 51 rfl
theorem dX11_isDoubtful_99 : decode cX11_isDoubtful 99 = .ok (.iadd, 1) := getB' kX11_isDoubtful 52 rfl
theorem dX11_isDoubtful_100 : decode cX11_isDoubtful 100 = .ok (.iconst 4, 1) := getB' kX11_isDoubtful 53 rfl
theorem dX11_isDoubtful_101 : decode cX11_isDoubtful 101 = .ok (.idiv, 1) := getB' kX11_isDoubtful 54 rfl
theorem dX11_isDoubtful_102 : decode cX11_isDoubtful 102 = .ok (.if_icmp .ge 7, 3) := getB' kX11_isDoubtful 55 rfl
theorem dX11_isDoubtful_105 : decode cX11_isDoubtful 105 = .ok (.iconst 1, 1) := getB' kX11_isDoubtful 56 rfl
theorem dX11_isDoubtful_106 : decode cX11_isDoubtful 106 = .ok (.goto 4, 3) := getB' kX11_isDoubtful 57 rfl
theorem dX11_isDoubtful_109 : decode cX11_isDoubtful 109 = .ok (.iconst 0, 1) := getB' kX11_isDoubtful 58 rfl
theorem dX11_isDoubtful_110 : decode cX11_isDoubtful 110 = .ok (.ireturn, 1) := getB' kX11_isDoubtful 59 rfl
def LX11_word : List (Nat × Instr × Nat) := [(0, .iload_n 1, 1), (1, .iconst 0, 1), (2, .sipush 1000, 3), (5, .invokestatic 112, 3), (8, .ifCond .eq 18, 3), (11, .aload_n 0, 1), (12, .getfield 88, 3), (15, .iload_n 1, 1), (16, .iconst 0, 1), (17, .iconst 0, 1), (18, .iconst 0, 1), (19, .iconst 0, 1), (20, .invokevirtual 205, 3), (23, .goto 4, 3), (26, .iconst (-1), 1), (27, .ireturn, 1)]
theorem kX11_word : chkB cX11_word LX11_word = true := by decide +kernel
theorem dX11_word_0 : decode cX11_word 0 = .ok (.iload_n 1, 1) := getB' kX11_word 0 rfl
theorem dX11_word_1 : decode cX11_word 1 = .ok (.iconst 0, 1) := getB' kX11_word 1 rfl
theorem dX11_word_2 : decode cX11_word 2 = .ok (.sipush 1000, 3) := getB' kX11_word 2 rfl
theorem dX11_word_5 : decode cX11_word 5 = .ok (.invokestatic 112, 3) := getB' kX11_word 3 rfl
theorem dX11_word_8 : decode cX11_word 8 = .ok (.ifCond .eq 18, 3) := getB' kX11_word 4 rfl
theorem dX11_word_11 : decode cX11_word 11 = .ok (.aload_n 0, 1) := getB' kX11_word 5 rfl
theorem dX11_word_12 : decode cX11_word 12 = .ok (.getfield 88, 3) := getB' kX11_word 6 rfl
theorem dX11_word_15 : decode cX11_word 15 = .ok (.iload_n 1, 1) := getB' kX11_word 7 rfl
theorem dX11_word_16 : decode cX11_word 16 = .ok (.iconst 0, 1) := getB' kX11_word 8 rfl
theorem dX11_word_17 : decode cX11_word 17 = .ok (.iconst 0, 1) := getB' kX11_word 9 rfl
theorem dX11_word_18 : decode cX11_word 18 = .ok (.iconst 0, 1) := getB' kX11_word 10 rfl
theorem dX11_word_19 : decode cX11_word 19 = .ok (.iconst 0, 1) := getB' kX11_word 11 rfl
theorem dX11_word_20 : decode cX11_word 20 = .ok (.invokevirtual 205, 3) := getB' kX11_word 12 rfl
theorem dX11_word_23 : decode cX11_word 23 = .ok (.goto 4, 3) := getB' kX11_word 13 rfl
theorem dX11_word_26 : decode cX11_word 26 = .ok (.iconst (-1), 1) := getB' kX11_word 14 rfl
theorem dX11_word_27 : decode cX11_word 27 = .ok (.ireturn, 1) := getB' kX11_word 15 rfl
def LX11_asks : List (Nat × Instr × Nat) := [(0, .aload_n 0, 1), (1, .iload_n 1, 1), (2, .invokevirtual 151, 3), (5, .astore 4, 2), (7, .aload 4, 2), (9, .ifnull 35, 3), (12, .aload_n 0, 1), (13, .getfield 88, 3), (16, .iload_n 2, 1), (17, .invokevirtual 431, 3), (20, .ifCond .eq 24, 3), (23, .iload_n 3, 1), (24, .iload_n 2, 1), (25, .if_icmp .eq 19, 3), (28, .iload_n 3, 1), (29, .iconst (-1), 1), (30, .if_icmp .eq 16, 3), (33, .aload_n 0, 1), (34, .getfield 88, 3), (37, .iload_n 3, 1), (38, .invokevirtual 431, 3), (41, .ifCond .ne 5, 3), (44, .iconst 0, 1), (45, .ireturn, 1), (46, .iconst 1, 1), (47, .iload_n 2, 1), (48, .ishl, 1), (49, .istore 5, 2), (51, .iload_n 3, 1), (52, .iconst (-1), 1), (53, .if_icmp .ne 36, 3), (56, .aload 4, 2), (58, .getfield 575, 3), (61, .iload 5, 2), (63, .iand, 1), (64, .ifCond .ne 7, 3), (67, .iconst 1, 1), (68, .goto 4, 3), (71, .iconst 0, 1), (72, .istore 6, 2), (74, .aload 4, 2), (76, .dup, 1), (77, .getfield 575, 3), (80, .iload 5, 2), (82, .ior, 1), (83, .putfield 575, 3), (86, .iload 6, 2), (88, .ireturn, 1), (89, .aload 4, 2), (91, .getfield 578, 3), (94, .iload_n 3, 1), (95, .invokestatic 253, 3), (98, .istore 6, 2), (100, .aload 4, 2), (102, .getfield 578, 3), (105, .iload_n 3, 1), (106, .iload 6, 2), (108, .iload 5, 2), (110, .ior, 1), (111, .invokestatic 108, 3), (114, .iload 6, 2), (116, .iload 5, 2), (118, .iand, 1), (119, .ifCond .ne 7, 3), (122, .iconst 1, 1), (123, .goto 4, 3), (126, .iconst 0, 1), (127, .ireturn, 1)]
theorem kX11_asks : chkB cX11_asks LX11_asks = true := by decide +kernel
theorem dX11_asks_0 : decode cX11_asks 0 = .ok (.aload_n 0, 1) := getB' kX11_asks 0 rfl
theorem dX11_asks_1 : decode cX11_asks 1 = .ok (.iload_n 1, 1) := getB' kX11_asks 1 rfl
theorem dX11_asks_2 : decode cX11_asks 2 = .ok (.invokevirtual 151, 3) := getB' kX11_asks 2 rfl
theorem dX11_asks_5 : decode cX11_asks 5 = .ok (.astore 4, 2) := getB' kX11_asks 3 rfl
theorem dX11_asks_7 : decode cX11_asks 7 = .ok (.aload 4, 2) := getB' kX11_asks 4 rfl
theorem dX11_asks_9 : decode cX11_asks 9 = .ok (.ifnull 35, 3) := getB' kX11_asks 5 rfl
theorem dX11_asks_12 : decode cX11_asks 12 = .ok (.aload_n 0, 1) := getB' kX11_asks 6 rfl
theorem dX11_asks_13 : decode cX11_asks 13 = .ok (.getfield 88, 3) := getB' kX11_asks 7 rfl
theorem dX11_asks_16 : decode cX11_asks 16 = .ok (.iload_n 2, 1) := getB' kX11_asks 8 rfl
theorem dX11_asks_17 : decode cX11_asks 17 = .ok (.invokevirtual 431, 3) := getB' kX11_asks 9 rfl
theorem dX11_asks_20 : decode cX11_asks 20 = .ok (.ifCond .eq 24, 3) := getB' kX11_asks 10 rfl
theorem dX11_asks_23 : decode cX11_asks 23 = .ok (.iload_n 3, 1) := getB' kX11_asks 11 rfl
theorem dX11_asks_24 : decode cX11_asks 24 = .ok (.iload_n 2, 1) := getB' kX11_asks 12 rfl
theorem dX11_asks_25 : decode cX11_asks 25 = .ok (.if_icmp .eq 19, 3) := getB' kX11_asks 13 rfl
theorem dX11_asks_28 : decode cX11_asks 28 = .ok (.iload_n 3, 1) := getB' kX11_asks 14 rfl
theorem dX11_asks_29 : decode cX11_asks 29 = .ok (.iconst (-1), 1) := getB' kX11_asks 15 rfl
theorem dX11_asks_30 : decode cX11_asks 30 = .ok (.if_icmp .eq 16, 3) := getB' kX11_asks 16 rfl
theorem dX11_asks_33 : decode cX11_asks 33 = .ok (.aload_n 0, 1) := getB' kX11_asks 17 rfl
theorem dX11_asks_34 : decode cX11_asks 34 = .ok (.getfield 88, 3) := getB' kX11_asks 18 rfl
theorem dX11_asks_37 : decode cX11_asks 37 = .ok (.iload_n 3, 1) := getB' kX11_asks 19 rfl
theorem dX11_asks_38 : decode cX11_asks 38 = .ok (.invokevirtual 431, 3) := getB' kX11_asks 20 rfl
theorem dX11_asks_41 : decode cX11_asks 41 = .ok (.ifCond .ne 5, 3) := getB' kX11_asks 21 rfl
theorem dX11_asks_44 : decode cX11_asks 44 = .ok (.iconst 0, 1) := getB' kX11_asks 22 rfl
theorem dX11_asks_45 : decode cX11_asks 45 = .ok (.ireturn, 1) := getB' kX11_asks 23 rfl
theorem dX11_asks_46 : decode cX11_asks 46 = .ok (.iconst 1, 1) := getB' kX11_asks 24 rfl
theorem dX11_asks_47 : decode cX11_asks 47 = .ok (.iload_n 2, 1) := getB' kX11_asks 25 rfl
theorem dX11_asks_48 : decode cX11_asks 48 = .ok (.ishl, 1) := getB' kX11_asks 26 rfl
theorem dX11_asks_49 : decode cX11_asks 49 = .ok (.istore 5, 2) := getB' kX11_asks 27 rfl
theorem dX11_asks_51 : decode cX11_asks 51 = .ok (.iload_n 3, 1) := getB' kX11_asks 28 rfl
theorem dX11_asks_52 : decode cX11_asks 52 = .ok (.iconst (-1), 1) := getB' kX11_asks 29 rfl
theorem dX11_asks_53 : decode cX11_asks 53 = .ok (.if_icmp .ne 36, 3) := getB' kX11_asks 30 rfl
theorem dX11_asks_56 : decode cX11_asks 56 = .ok (.aload 4, 2) := getB' kX11_asks 31 rfl
theorem dX11_asks_58 : decode cX11_asks 58 = .ok (.getfield 575, 3) := getB' kX11_asks 32 rfl
theorem dX11_asks_61 : decode cX11_asks 61 = .ok (.iload 5, 2) := getB' kX11_asks 33 rfl
theorem dX11_asks_63 : decode cX11_asks 63 = .ok (.iand, 1) := getB' kX11_asks 34 rfl
theorem dX11_asks_64 : decode cX11_asks 64 = .ok (.ifCond .ne 7, 3) := getB' kX11_asks 35 rfl
theorem dX11_asks_67 : decode cX11_asks 67 = .ok (.iconst 1, 1) := getB' kX11_asks 36 rfl
theorem dX11_asks_68 : decode cX11_asks 68 = .ok (.goto 4, 3) := getB' kX11_asks 37 rfl
theorem dX11_asks_71 : decode cX11_asks 71 = .ok (.iconst 0, 1) := getB' kX11_asks 38 rfl
theorem dX11_asks_72 : decode cX11_asks 72 = .ok (.istore 6, 2) := getB' kX11_asks 39 rfl
theorem dX11_asks_74 : decode cX11_asks 74 = .ok (.aload 4, 2) := getB' kX11_asks 40 rfl
theorem dX11_asks_76 : decode cX11_asks 76 = .ok (.dup, 1) := getB' kX11_asks 41 rfl
theorem dX11_asks_77 : decode cX11_asks 77 = .ok (.getfield 575, 3) := getB' kX11_asks 42 rfl
theorem dX11_asks_80 : decode cX11_asks 80 = .ok (.iload 5, 2) := getB' kX11_asks 43 rfl
theorem dX11_asks_82 : decode cX11_asks 82 = .ok (.ior, 1) := getB' kX11_asks 44 rfl
theorem dX11_asks_83 : decode cX11_asks 83 = .ok (.putfield 575, 3) := getB' kX11_asks 45 rfl
theorem dX11_asks_86 : decode cX11_asks 86 = .ok (.iload 6, 2) := getB' kX11_asks 46 rfl
theorem dX11_asks_88 : decode cX11_asks 88 = .ok (.ireturn, 1) := getB' kX11_asks 47 rfl
theorem dX11_asks_89 : decode cX11_asks 89 = .ok (.aload 4, 2) := getB' kX11_asks 48 rfl
theorem dX11_asks_91 : decode cX11_asks 91 = .ok (.getfield 578, 3) := getB' kX11_asks 49 rfl
theorem dX11_asks_94 : decode cX11_asks 94 = .ok (.iload_n 3, 1) := getB' kX11_asks 50 rfl
theorem dX11_asks_95 : decode cX11_asks 95 = .ok (.invokestatic 253, 3) := getB' kX11_asks 51 rfl
theorem dX11_asks_98 : decode cX11_asks 98 = .ok (.istore 6, 2) := getB' kX11_asks 52 rfl
theorem dX11_asks_100 : decode cX11_asks 100 = .ok (.aload 4, 2) := getB' kX11_asks 53 rfl
theorem dX11_asks_102 : decode cX11_asks 102 = .ok (.getfield 578, 3) := getB' kX11_asks 54 rfl
theorem dX11_asks_105 : decode cX11_asks 105 = .ok (.iload_n 3, 1) := getB' kX11_asks 55 rfl
theorem dX11_asks_106 : decode cX11_asks 106 = .ok (.iload 6, 2) := getB' kX11_asks 56 rfl
theorem dX11_asks_108 : decode cX11_asks 108 = .ok (.iload 5, 2) := getB' kX11_asks 57 rfl
theorem dX11_asks_110 : decode cX11_asks 110 = .ok (.ior, 1) := getB' kX11_asks 58 rfl
theorem dX11_asks_111 : decode cX11_asks 111 = .ok (.invokestatic 108, 3) := getB' kX11_asks 59 rfl
theorem dX11_asks_114 : decode cX11_asks 114 = .ok (.iload 6, 2) := getB' kX11_asks 60 rfl
theorem dX11_asks_116 : decode cX11_asks 116 = .ok (.iload 5, 2) := getB' kX11_asks 61 rfl
theorem dX11_asks_118 : decode cX11_asks 118 = .ok (.iand, 1) := getB' kX11_asks 62 rfl
theorem dX11_asks_119 : decode cX11_asks 119 = .ok (.ifCond .ne 7, 3) := getB' kX11_asks 63 rfl
theorem dX11_asks_122 : decode cX11_asks 122 = .ok (.iconst 1, 1) := getB' kX11_asks 64 rfl
theorem dX11_asks_123 : decode cX11_asks 123 = .ok (.goto 4, 3) := getB' kX11_asks 65 rfl
theorem dX11_asks_126 : decode cX11_asks 126 = .ok (.iconst 0, 1) := getB' kX11_asks 66 rfl
theorem dX11_asks_127 : decode cX11_asks 127 = .ok (.ireturn, 1) := getB' kX11_asks 67 rfl
def LX11_blocks : List (Nat × Instr × Nat) := [(0, .iload_n 1, 1), (1, .iconst 0, 1), (2, .iconst 1, 1), (3, .aload_n 0, 1), (4, .getfield 88, 3), (7, .getfield 199, 3), (10, .ishl, 1), (11, .iconst 1, 1), (12, .isub, 1), (13, .invokestatic 112, 3), (16, .ifCond .eq 11, 3), (19, .aload_n 0, 1), (20, .iload_n 1, 1), (21, .invokevirtual 581, 3), (24, .goto 4, 3), (27, .iconst (-1), 1), (28, .ireturn, 1)]
theorem kX11_blocks : chkB cX11_blocks LX11_blocks = true := by decide +kernel
theorem dX11_blocks_0 : decode cX11_blocks 0 = .ok (.iload_n 1, 1) := getB' kX11_blocks 0 rfl
theorem dX11_blocks_1 : decode cX11_blocks 1 = .ok (.iconst 0, 1) := getB' kX11_blocks 1 rfl
theorem dX11_blocks_2 : decode cX11_blocks 2 = .ok (.iconst 1, 1) := getB' kX11_blocks 2 rfl
theorem dX11_blocks_3 : decode cX11_blocks 3 = .ok (.aload_n 0, 1) := getB' kX11_blocks 3 rfl
theorem dX11_blocks_4 : decode cX11_blocks 4 = .ok (.getfield 88, 3) := getB' kX11_blocks 4 rfl
theorem dX11_blocks_7 : decode cX11_blocks 7 = .ok (.getfield 199, 3) := getB' kX11_blocks 5 rfl
theorem dX11_blocks_10 : decode cX11_blocks 10 = .ok (.ishl, 1) := getB' kX11_blocks 6 rfl
theorem dX11_blocks_11 : decode cX11_blocks 11 = .ok (.iconst 1, 1) := getB' kX11_blocks 7 rfl
theorem dX11_blocks_12 : decode cX11_blocks 12 = .ok (.isub, 1) := getB' kX11_blocks 8 rfl
theorem dX11_blocks_13 : decode cX11_blocks 13 = .ok (.invokestatic 112, 3) := getB' kX11_blocks 9 rfl
theorem dX11_blocks_16 : decode cX11_blocks 16 = .ok (.ifCond .eq 11, 3) := getB' kX11_blocks 10 rfl
theorem dX11_blocks_19 : decode cX11_blocks 19 = .ok (.aload_n 0, 1) := getB' kX11_blocks 11 rfl
theorem dX11_blocks_20 : decode cX11_blocks 20 = .ok (.iload_n 1, 1) := getB' kX11_blocks 12 rfl
theorem dX11_blocks_21 : decode cX11_blocks 21 = .ok (.invokevirtual 581, 3) := getB' kX11_blocks 13 rfl
theorem dX11_blocks_24 : decode cX11_blocks 24 = .ok (.goto 4, 3) := getB' kX11_blocks 14 rfl
theorem dX11_blocks_27 : decode cX11_blocks 27 = .ok (.iconst (-1), 1) := getB' kX11_blocks 15 rfl
theorem dX11_blocks_28 : decode cX11_blocks 28 = .ok (.ireturn, 1) := getB' kX11_blocks 16 rfl
def LX11_best : List (Nat × Instr × Nat) := [(0, .aload_n 0, 1), (1, .aload_n 0, 1), (2, .getfield 12, 3), (5, .getfield 145, 3), (8, .invokevirtual 369, 3), (11, .istore_n 1, 1), (12, .iconst 0, 1), (13, .istore_n 2, 1), (14, .iconst 0, 1), (15, .istore_n 3, 1), (16, .iconst 1, 1), (17, .istore 4, 2), (19, .iload 4, 2), (21, .iconst 1, 1), (22, .aload_n 0, 1), (23, .getfield 88, 3), (26, .getfield 199, 3), (29, .ishl, 1), (30, .if_icmp .ge 70, 3), (33, .aload_n 0, 1), (34, .iload 4, 2), (36, .invokevirtual 584, 3), (39, .istore 5, 2), (41, .iload 5, 2), (43, .iload_n 3, 1), (44, .if_icmp .ne 19, 3), (47, .iload 4, 2), (49, .invokestatic 286, 3), (52, .iload_n 2, 1), (53, .invokestatic 286, 3), (56, .if_icmp .ge 7, 3), (59, .iconst 1, 1), (60, .goto 4, 3), (63, .iconst 0, 1), (64, .istore 6, 2), (66, .iload 5, 2), (68, .iload_n 3, 1), (69, .if_icmp .gt 8, 3), (72, .iload 6, 2), (74, .ifCond .eq 20, 3), (77, .aload_n 0, 1), (78, .iload 4, 2), (80, .invokevirtual 581, 3), (83, .iload_n 1, 1), (84, .iand, 1), (85, .ifCond .ne 9, 3), (88, .iload 4, 2), (90, .istore_n 2, 1), (91, .iload 5, 2), (93, .istore_n 3, 1), (94, .iinc 4 1, 3), (97, .goto (-78), 3), (100, .iload_n 2, 1), (101, .ireturn, 1)]
theorem kX11_best : chkB cX11_best LX11_best = true := by decide +kernel
theorem dX11_best_0 : decode cX11_best 0 = .ok (.aload_n 0, 1) := getB' kX11_best 0 rfl
theorem dX11_best_1 : decode cX11_best 1 = .ok (.aload_n 0, 1) := getB' kX11_best 1 rfl
theorem dX11_best_2 : decode cX11_best 2 = .ok (.getfield 12, 3) := getB' kX11_best 2 rfl
theorem dX11_best_5 : decode cX11_best 5 = .ok (.getfield 145, 3) := getB' kX11_best 3 rfl
theorem dX11_best_8 : decode cX11_best 8 = .ok (.invokevirtual 369, 3) := getB' kX11_best 4 rfl
theorem dX11_best_11 : decode cX11_best 11 = .ok (.istore_n 1, 1) := getB' kX11_best 5 rfl
theorem dX11_best_12 : decode cX11_best 12 = .ok (.iconst 0, 1) := getB' kX11_best 6 rfl
theorem dX11_best_13 : decode cX11_best 13 = .ok (.istore_n 2, 1) := getB' kX11_best 7 rfl
theorem dX11_best_14 : decode cX11_best 14 = .ok (.iconst 0, 1) := getB' kX11_best 8 rfl
theorem dX11_best_15 : decode cX11_best 15 = .ok (.istore_n 3, 1) := getB' kX11_best 9 rfl
theorem dX11_best_16 : decode cX11_best 16 = .ok (.iconst 1, 1) := getB' kX11_best 10 rfl
theorem dX11_best_17 : decode cX11_best 17 = .ok (.istore 4, 2) := getB' kX11_best 11 rfl
theorem dX11_best_19 : decode cX11_best 19 = .ok (.iload 4, 2) := getB' kX11_best 12 rfl
theorem dX11_best_21 : decode cX11_best 21 = .ok (.iconst 1, 1) := getB' kX11_best 13 rfl
theorem dX11_best_22 : decode cX11_best 22 = .ok (.aload_n 0, 1) := getB' kX11_best 14 rfl
theorem dX11_best_23 : decode cX11_best 23 = .ok (.getfield 88, 3) := getB' kX11_best 15 rfl
theorem dX11_best_26 : decode cX11_best 26 = .ok (.getfield 199, 3) := getB' kX11_best 16 rfl
theorem dX11_best_29 : decode cX11_best 29 = .ok (.ishl, 1) := getB' kX11_best 17 rfl
theorem dX11_best_30 : decode cX11_best 30 = .ok (.if_icmp .ge 70, 3) := getB' kX11_best 18 rfl
theorem dX11_best_33 : decode cX11_best 33 = .ok (.aload_n 0, 1) := getB' kX11_best 19 rfl
theorem dX11_best_34 : decode cX11_best 34 = .ok (.iload 4, 2) := getB' kX11_best 20 rfl
theorem dX11_best_36 : decode cX11_best 36 = .ok (.invokevirtual 584, 3) := getB' kX11_best 21 rfl
theorem dX11_best_39 : decode cX11_best 39 = .ok (.istore 5, 2) := getB' kX11_best 22 rfl
theorem dX11_best_41 : decode cX11_best 41 = .ok (.iload 5, 2) := getB' kX11_best 23 rfl
theorem dX11_best_43 : decode cX11_best 43 = .ok (.iload_n 3, 1) := getB' kX11_best 24 rfl
theorem dX11_best_44 : decode cX11_best 44 = .ok (.if_icmp .ne 19, 3) := getB' kX11_best 25 rfl
theorem dX11_best_47 : decode cX11_best 47 = .ok (.iload 4, 2) := getB' kX11_best 26 rfl
theorem dX11_best_49 : decode cX11_best 49 = .ok (.invokestatic 286, 3) := getB' kX11_best 27 rfl
theorem dX11_best_52 : decode cX11_best 52 = .ok (.iload_n 2, 1) := getB' kX11_best 28 rfl
theorem dX11_best_53 : decode cX11_best 53 = .ok (.invokestatic 286, 3) := getB' kX11_best 29 rfl
theorem dX11_best_56 : decode cX11_best 56 = .ok (.if_icmp .ge 7, 3) := getB' kX11_best 30 rfl
theorem dX11_best_59 : decode cX11_best 59 = .ok (.iconst 1, 1) := getB' kX11_best 31 rfl
theorem dX11_best_60 : decode cX11_best 60 = .ok (.goto 4, 3) := getB' kX11_best 32 rfl
theorem dX11_best_63 : decode cX11_best 63 = .ok (.iconst 0, 1) := getB' kX11_best 33 rfl
theorem dX11_best_64 : decode cX11_best 64 = .ok (.istore 6, 2) := getB' kX11_best 34 rfl
theorem dX11_best_66 : decode cX11_best 66 = .ok (.iload 5, 2) := getB' kX11_best 35 rfl
theorem dX11_best_68 : decode cX11_best 68 = .ok (.iload_n 3, 1) := getB' kX11_best 36 rfl
theorem dX11_best_69 : decode cX11_best 69 = .ok (.if_icmp .gt 8, 3) := getB' kX11_best 37 rfl
theorem dX11_best_72 : decode cX11_best 72 = .ok (.iload 6, 2) := getB' kX11_best 38 rfl
theorem dX11_best_74 : decode cX11_best 74 = .ok (.ifCond .eq 20, 3) := getB' kX11_best 39 rfl
theorem dX11_best_77 : decode cX11_best 77 = .ok (.aload_n 0, 1) := getB' kX11_best 40 rfl
theorem dX11_best_78 : decode cX11_best 78 = .ok (.iload 4, 2) := getB' kX11_best 41 rfl
theorem dX11_best_80 : decode cX11_best 80 = .ok (.invokevirtual 581, 3) := getB' kX11_best 42 rfl
theorem dX11_best_83 : decode cX11_best 83 = .ok (.iload_n 1, 1) := getB' kX11_best 43 rfl
theorem dX11_best_84 : decode cX11_best 84 = .ok (.iand, 1) := getB' kX11_best 44 rfl
theorem dX11_best_85 : decode cX11_best 85 = .ok (.ifCond .ne 9, 3) := getB' kX11_best 45 rfl
theorem dX11_best_88 : decode cX11_best 88 = .ok (.iload 4, 2) := getB' kX11_best 46 rfl
theorem dX11_best_90 : decode cX11_best 90 = .ok (.istore_n 2, 1) := getB' kX11_best 47 rfl
theorem dX11_best_91 : decode cX11_best 91 = .ok (.iload 5, 2) := getB' kX11_best 48 rfl
theorem dX11_best_93 : decode cX11_best 93 = .ok (.istore_n 3, 1) := getB' kX11_best 49 rfl
theorem dX11_best_94 : decode cX11_best 94 = .ok (.iinc 4 1, 3) := getB' kX11_best 50 rfl
theorem dX11_best_97 : decode cX11_best 97 = .ok (.goto (-78), 3) := getB' kX11_best 51 rfl
theorem dX11_best_100 : decode cX11_best 100 = .ok (.iload_n 2, 1) := getB' kX11_best 52 rfl
theorem dX11_best_101 : decode cX11_best 101 = .ok (.ireturn, 1) := getB' kX11_best 53 rfl
def LX11_blockers : List (Nat × Instr × Nat) := [(0, .iconst 0, 1), (1, .istore_n 2, 1), (2, .iconst 0, 1), (3, .istore_n 3, 1), (4, .iload_n 3, 1), (5, .aload_n 0, 1), (6, .getfield 36, 3), (9, .if_icmp .ge 36, 3), (12, .aload_n 0, 1), (13, .iload_n 3, 1), (14, .invokevirtual 151, 3), (17, .astore 4, 2), (19, .aload 4, 2), (21, .ifnull 18, 3), (24, .aload 4, 2), (26, .iload_n 1, 1), (27, .invokevirtual 587, 3), (30, .ifCond .eq 9, 3), (33, .iload_n 2, 1), (34, .iconst 1, 1), (35, .iload_n 3, 1), (36, .ishl, 1), (37, .ior, 1), (38, .istore_n 2, 1), (39, .iinc 3 1, 3), (42, .goto (-38), 3), (45, .iload_n 2, 1), (46, .ireturn, 1)]
theorem kX11_blockers : chkB cX11_blockers LX11_blockers = true := by decide +kernel
theorem dX11_blockers_0 : decode cX11_blockers 0 = .ok (.iconst 0, 1) := getB' kX11_blockers 0 rfl
theorem dX11_blockers_1 : decode cX11_blockers 1 = .ok (.istore_n 2, 1) := getB' kX11_blockers 1 rfl
theorem dX11_blockers_2 : decode cX11_blockers 2 = .ok (.iconst 0, 1) := getB' kX11_blockers 2 rfl
theorem dX11_blockers_3 : decode cX11_blockers 3 = .ok (.istore_n 3, 1) := getB' kX11_blockers 3 rfl
theorem dX11_blockers_4 : decode cX11_blockers 4 = .ok (.iload_n 3, 1) := getB' kX11_blockers 4 rfl
theorem dX11_blockers_5 : decode cX11_blockers 5 = .ok (.aload_n 0, 1) := getB' kX11_blockers 5 rfl
theorem dX11_blockers_6 : decode cX11_blockers 6 = .ok (.getfield 36, 3) := getB' kX11_blockers 6 rfl
theorem dX11_blockers_9 : decode cX11_blockers 9 = .ok (.if_icmp .ge 36, 3) := getB' kX11_blockers 7 rfl
theorem dX11_blockers_12 : decode cX11_blockers 12 = .ok (.aload_n 0, 1) := getB' kX11_blockers 8 rfl
theorem dX11_blockers_13 : decode cX11_blockers 13 = .ok (.iload_n 3, 1) := getB' kX11_blockers 9 rfl
theorem dX11_blockers_14 : decode cX11_blockers 14 = .ok (.invokevirtual 151, 3) := getB' kX11_blockers 10 rfl
theorem dX11_blockers_17 : decode cX11_blockers 17 = .ok (.astore 4, 2) := getB' kX11_blockers 11 rfl
theorem dX11_blockers_19 : decode cX11_blockers 19 = .ok (.aload 4, 2) := getB' kX11_blockers 12 rfl
theorem dX11_blockers_21 : decode cX11_blockers 21 = .ok (.ifnull 18, 3) := getB' kX11_blockers 13 rfl
theorem dX11_blockers_24 : decode cX11_blockers 24 = .ok (.aload 4, 2) := getB' kX11_blockers 14 rfl
theorem dX11_blockers_26 : decode cX11_blockers 26 = .ok (.iload_n 1, 1) := getB' kX11_blockers 15 rfl
theorem dX11_blockers_27 : decode cX11_blockers 27 = .ok (.invokevirtual 587, 3) := getB' kX11_blockers 16 rfl
theorem dX11_blockers_30 : decode cX11_blockers 30 = .ok (.ifCond .eq 9, 3) := getB' kX11_blockers 17 rfl
theorem dX11_blockers_33 : decode cX11_blockers 33 = .ok (.iload_n 2, 1) := getB' kX11_blockers 18 rfl
theorem dX11_blockers_34 : decode cX11_blockers 34 = .ok (.iconst 1, 1) := getB' kX11_blockers 19 rfl
theorem dX11_blockers_35 : decode cX11_blockers 35 = .ok (.iload_n 3, 1) := getB' kX11_blockers 20 rfl
theorem dX11_blockers_36 : decode cX11_blockers 36 = .ok (.ishl, 1) := getB' kX11_blockers 21 rfl
theorem dX11_blockers_37 : decode cX11_blockers 37 = .ok (.ior, 1) := getB' kX11_blockers 22 rfl
theorem dX11_blockers_38 : decode cX11_blockers 38 = .ok (.istore_n 2, 1) := getB' kX11_blockers 23 rfl
theorem dX11_blockers_39 : decode cX11_blockers 39 = .ok (.iinc 3 1, 3) := getB' kX11_blockers 24 rfl
theorem dX11_blockers_42 : decode cX11_blockers 42 = .ok (.goto (-38), 3) := getB' kX11_blockers 25 rfl
theorem dX11_blockers_45 : decode cX11_blockers 45 = .ok (.iload_n 2, 1) := getB' kX11_blockers 26 rfl
theorem dX11_blockers_46 : decode cX11_blockers 46 = .ok (.ireturn, 1) := getB' kX11_blockers 27 rfl
def LX11_worthOf : List (Nat × Instr × Nat) := [(0, .iconst 0, 1), (1, .istore_n 2, 1), (2, .iconst 0, 1), (3, .istore_n 3, 1), (4, .iload_n 3, 1), (5, .aload_n 0, 1), (6, .getfield 88, 3), (9, .getfield 199, 3), (12, .if_icmp .ge 29, 3), (15, .iload_n 1, 1), (16, .iload_n 3, 1), (17, .ishr, 1), (18, .iconst 1, 1), (19, .iand, 1), (20, .ifCond .eq 15, 3), (23, .iload_n 2, 1), (24, .aload_n 0, 1), (25, .getfield 88, 3), (28, .iload_n 3, 1), (29, .iconst 0, 1), (30, .invokevirtual 209, 3), (33, .iadd, 1), (34, .istore_n 2, 1), (35, .iinc 3 1, 3), (38, .goto (-34), 3), (41, .iload_n 2, 1), (42, .ireturn, 1)]
theorem kX11_worthOf : chkB cX11_worthOf LX11_worthOf = true := by decide +kernel
theorem dX11_worthOf_0 : decode cX11_worthOf 0 = .ok (.iconst 0, 1) := getB' kX11_worthOf 0 rfl
theorem dX11_worthOf_1 : decode cX11_worthOf 1 = .ok (.istore_n 2, 1) := getB' kX11_worthOf 1 rfl
theorem dX11_worthOf_2 : decode cX11_worthOf 2 = .ok (.iconst 0, 1) := getB' kX11_worthOf 2 rfl
theorem dX11_worthOf_3 : decode cX11_worthOf 3 = .ok (.istore_n 3, 1) := getB' kX11_worthOf 3 rfl
theorem dX11_worthOf_4 : decode cX11_worthOf 4 = .ok (.iload_n 3, 1) := getB' kX11_worthOf 4 rfl
theorem dX11_worthOf_5 : decode cX11_worthOf 5 = .ok (.aload_n 0, 1) := getB' kX11_worthOf 5 rfl
theorem dX11_worthOf_6 : decode cX11_worthOf 6 = .ok (.getfield 88, 3) := getB' kX11_worthOf 6 rfl
theorem dX11_worthOf_9 : decode cX11_worthOf 9 = .ok (.getfield 199, 3) := getB' kX11_worthOf 7 rfl
theorem dX11_worthOf_12 : decode cX11_worthOf 12 = .ok (.if_icmp .ge 29, 3) := getB' kX11_worthOf 8 rfl
theorem dX11_worthOf_15 : decode cX11_worthOf 15 = .ok (.iload_n 1, 1) := getB' kX11_worthOf 9 rfl
theorem dX11_worthOf_16 : decode cX11_worthOf 16 = .ok (.iload_n 3, 1) := getB' kX11_worthOf 10 rfl
theorem dX11_worthOf_17 : decode cX11_worthOf 17 = .ok (.ishr, 1) := getB' kX11_worthOf 11 rfl
theorem dX11_worthOf_18 : decode cX11_worthOf 18 = .ok (.iconst 1, 1) := getB' kX11_worthOf 12 rfl
theorem dX11_worthOf_19 : decode cX11_worthOf 19 = .ok (.iand, 1) := getB' kX11_worthOf 13 rfl
theorem dX11_worthOf_20 : decode cX11_worthOf 20 = .ok (.ifCond .eq 15, 3) := getB' kX11_worthOf 14 rfl
theorem dX11_worthOf_23 : decode cX11_worthOf 23 = .ok (.iload_n 2, 1) := getB' kX11_worthOf 15 rfl
theorem dX11_worthOf_24 : decode cX11_worthOf 24 = .ok (.aload_n 0, 1) := getB' kX11_worthOf 16 rfl
theorem dX11_worthOf_25 : decode cX11_worthOf 25 = .ok (.getfield 88, 3) := getB' kX11_worthOf 17 rfl
theorem dX11_worthOf_28 : decode cX11_worthOf 28 = .ok (.iload_n 3, 1) := getB' kX11_worthOf 18 rfl
theorem dX11_worthOf_29 : decode cX11_worthOf 29 = .ok (.iconst 0, 1) := getB' kX11_worthOf 19 rfl
theorem dX11_worthOf_30 : decode cX11_worthOf 30 = .ok (.invokevirtual 209, 3) := getB' kX11_worthOf 20 rfl
theorem dX11_worthOf_33 : decode cX11_worthOf 33 = .ok (.iadd, 1) := getB' kX11_worthOf 21 rfl
theorem dX11_worthOf_34 : decode cX11_worthOf 34 = .ok (.istore_n 2, 1) := getB' kX11_worthOf 22 rfl
theorem dX11_worthOf_35 : decode cX11_worthOf 35 = .ok (.iinc 3 1, 3) := getB' kX11_worthOf 23 rfl
theorem dX11_worthOf_38 : decode cX11_worthOf 38 = .ok (.goto (-34), 3) := getB' kX11_worthOf 24 rfl
theorem dX11_worthOf_41 : decode cX11_worthOf 41 = .ok (.iload_n 2, 1) := getB' kX11_worthOf 25 rfl
theorem dX11_worthOf_42 : decode cX11_worthOf 42 = .ok (.ireturn, 1) := getB' kX11_worthOf 26 rfl
def LX11_stop : List (Nat × Instr × Nat) := [(0, .aload_n 0, 1), (1, .iload_n 1, 1), (2, .invokevirtual 195, 3), (5, .ifnull 25, 3), (8, .iload_n 2, 1), (9, .iconst 0, 1), (10, .sipush 10000, 3), (13, .invokestatic 112, 3), (16, .ifCond .eq 14, 3), (19, .aload_n 0, 1), (20, .getfield 26, 3), (23, .iload_n 1, 1), (24, .invokevirtual 590, 3), (27, .ifCond .eq 5, 3), (30, .iconst (-1), 1), (31, .ireturn, 1), (32, .aload_n 0, 1), (33, .getfield 26, 3), (36, .invokevirtual 435, 3), (39, .aload_n 0, 1), (40, .getfield 26, 3), (43, .getfield 593, 3), (46, .iload_n 1, 1), (47, .iload_n 2, 1), (48, .iconst 0, 1), (49, .iconst 0, 1), (50, .iconst 0, 1), (51, .invokevirtual 205, 3), (54, .ireturn, 1)]
theorem kX11_stop : chkB cX11_stop LX11_stop = true := by decide +kernel
theorem dX11_stop_0 : decode cX11_stop 0 = .ok (.aload_n 0, 1) := getB' kX11_stop 0 rfl
theorem dX11_stop_1 : decode cX11_stop 1 = .ok (.iload_n 1, 1) := getB' kX11_stop 1 rfl
theorem dX11_stop_2 : decode cX11_stop 2 = .ok (.invokevirtual 195, 3) := getB' kX11_stop 2 rfl
theorem dX11_stop_5 : decode cX11_stop 5 = .ok (.ifnull 25, 3) := getB' kX11_stop 3 rfl
theorem dX11_stop_8 : decode cX11_stop 8 = .ok (.iload_n 2, 1) := getB' kX11_stop 4 rfl
theorem dX11_stop_9 : decode cX11_stop 9 = .ok (.iconst 0, 1) := getB' kX11_stop 5 rfl
theorem dX11_stop_10 : decode cX11_stop 10 = .ok (.sipush 10000, 3) := getB' kX11_stop 6 rfl
theorem dX11_stop_13 : decode cX11_stop 13 = .ok (.invokestatic 112, 3) := getB' kX11_stop 7 rfl
theorem dX11_stop_16 : decode cX11_stop 16 = .ok (.ifCond .eq 14, 3) := getB' kX11_stop 8 rfl
theorem dX11_stop_19 : decode cX11_stop 19 = .ok (.aload_n 0, 1) := getB' kX11_stop 9 rfl
theorem dX11_stop_20 : decode cX11_stop 20 = .ok (.getfield 26, 3) := getB' kX11_stop 10 rfl
theorem dX11_stop_23 : decode cX11_stop 23 = .ok (.iload_n 1, 1) := getB' kX11_stop 11 rfl
theorem dX11_stop_24 : decode cX11_stop 24 = .ok (.invokevirtual 590, 3) := getB' kX11_stop 12 rfl
theorem dX11_stop_27 : decode cX11_stop 27 = .ok (.ifCond .eq 5, 3) := getB' kX11_stop 13 rfl
theorem dX11_stop_30 : decode cX11_stop 30 = .ok (.iconst (-1), 1) := getB' kX11_stop 14 rfl
theorem dX11_stop_31 : decode cX11_stop 31 = .ok (.ireturn, 1) := getB' kX11_stop 15 rfl
theorem dX11_stop_32 : decode cX11_stop 32 = .ok (.aload_n 0, 1) := getB' kX11_stop 16 rfl
theorem dX11_stop_33 : decode cX11_stop 33 = .ok (.getfield 26, 3) := getB' kX11_stop 17 rfl
theorem dX11_stop_36 : decode cX11_stop 36 = .ok (.invokevirtual 435, 3) := getB' kX11_stop 18 rfl
theorem dX11_stop_39 : decode cX11_stop 39 = .ok (.aload_n 0, 1) := getB' kX11_stop 19 rfl
theorem dX11_stop_40 : decode cX11_stop 40 = .ok (.getfield 26, 3) := getB' kX11_stop 20 rfl
theorem dX11_stop_43 : decode cX11_stop 43 = .ok (.getfield 593, 3) := getB' kX11_stop 21 rfl
theorem dX11_stop_46 : decode cX11_stop 46 = .ok (.iload_n 1, 1) := getB' kX11_stop 22 rfl
theorem dX11_stop_47 : decode cX11_stop 47 = .ok (.iload_n 2, 1) := getB' kX11_stop 23 rfl
theorem dX11_stop_48 : decode cX11_stop 48 = .ok (.iconst 0, 1) := getB' kX11_stop 24 rfl
theorem dX11_stop_49 : decode cX11_stop 49 = .ok (.iconst 0, 1) := getB' kX11_stop 25 rfl
theorem dX11_stop_50 : decode cX11_stop 50 = .ok (.iconst 0, 1) := getB' kX11_stop 26 rfl
theorem dX11_stop_51 : decode cX11_stop 51 = .ok (.invokevirtual 205, 3) := getB' kX11_stop 27 rfl
theorem dX11_stop_54 : decode cX11_stop 54 = .ok (.ireturn, 1) := getB' kX11_stop 28 rfl
def LX11_open : List (Nat × Instr × Nat) := [(0, .iload_n 1, 1), (1, .iconst 0, 1), (2, .iconst 2, 1), (3, .invokestatic 112, 3), (6, .ifCond .eq 26, 3), (9, .aload_n 0, 1), (10, .getfield 26, 3), (13, .getfield 593, 3), (16, .iload_n 2, 1), (17, .invokevirtual 431, 3), (20, .ifCond .eq 12, 3), (23, .iload_n 3, 1), (24, .iload 4, 2), (26, .invokestatic 135, 3), (29, .ifCond .ne 5, 3), (32, .iconst 0, 1), (33, .ireturn, 1), (34, .aload_n 0, 1), (35, .getfield 26, 3), (38, .invokevirtual 435, 3), (41, .aload_n 0, 1), (42, .getfield 26, 3), (45, .getfield 596, 3), (48, .iload_n 1, 1), (49, .bipush 8, 2), (51, .imul, 1), (52, .iload_n 2, 1), (53, .iadd, 1), (54, .iload_n 3, 1), (55, .invokestatic 108, 3), (58, .aload_n 0, 1), (59, .getfield 26, 3), (62, .getfield 599, 3), (65, .iload_n 1, 1), (66, .bipush 8, 2), (68, .imul, 1), (69, .iload_n 2, 1), (70, .iadd, 1), (71, .iload 4, 2), (73, .invokestatic 108, 3), (76, .iconst 1, 1), (77, .ireturn, 1)]
theorem kX11_open : chkB cX11_open LX11_open = true := by decide +kernel
theorem dX11_open_0 : decode cX11_open 0 = .ok (.iload_n 1, 1) := getB' kX11_open 0 rfl
theorem dX11_open_1 : decode cX11_open 1 = .ok (.iconst 0, 1) := getB' kX11_open 1 rfl
theorem dX11_open_2 : decode cX11_open 2 = .ok (.iconst 2, 1) := getB' kX11_open 2 rfl
theorem dX11_open_3 : decode cX11_open 3 = .ok (.invokestatic 112, 3) := getB' kX11_open 3 rfl
theorem dX11_open_6 : decode cX11_open 6 = .ok (.ifCond .eq 26, 3) := getB' kX11_open 4 rfl
theorem dX11_open_9 : decode cX11_open 9 = .ok (.aload_n 0, 1) := getB' kX11_open 5 rfl
theorem dX11_open_10 : decode cX11_open 10 = .ok (.getfield 26, 3) := getB' kX11_open 6 rfl
theorem dX11_open_13 : decode cX11_open 13 = .ok (.getfield 593, 3) := getB' kX11_open 7 rfl
theorem dX11_open_16 : decode cX11_open 16 = .ok (.iload_n 2, 1) := getB' kX11_open 8 rfl
theorem dX11_open_17 : decode cX11_open 17 = .ok (.invokevirtual 431, 3) := getB' kX11_open 9 rfl
theorem dX11_open_20 : decode cX11_open 20 = .ok (.ifCond .eq 12, 3) := getB' kX11_open 10 rfl
theorem dX11_open_23 : decode cX11_open 23 = .ok (.iload_n 3, 1) := getB' kX11_open 11 rfl
theorem dX11_open_24 : decode cX11_open 24 = .ok (.iload 4, 2) := getB' kX11_open 12 rfl
theorem dX11_open_26 : decode cX11_open 26 = .ok (.invokestatic 135, 3) := getB' kX11_open 13 rfl
theorem dX11_open_29 : decode cX11_open 29 = .ok (.ifCond .ne 5, 3) := getB' kX11_open 14 rfl
theorem dX11_open_32 : decode cX11_open 32 = .ok (.iconst 0, 1) := getB' kX11_open 15 rfl
theorem dX11_open_33 : decode cX11_open 33 = .ok (.ireturn, 1) := getB' kX11_open 16 rfl
theorem dX11_open_34 : decode cX11_open 34 = .ok (.aload_n 0, 1) := getB' kX11_open 17 rfl
theorem dX11_open_35 : decode cX11_open 35 = .ok (.getfield 26, 3) := getB' kX11_open 18 rfl
theorem dX11_open_38 : decode cX11_open 38 = .ok (.invokevirtual 435, 3) := getB' kX11_open 19 rfl
theorem dX11_open_41 : decode cX11_open 41 = .ok (.aload_n 0, 1) := getB' kX11_open 20 rfl
theorem dX11_open_42 : decode cX11_open 42 = .ok (.getfield 26, 3) := getB' kX11_open 21 rfl
theorem dX11_open_45 : decode cX11_open 45 = .ok (.getfield 596, 3) := getB' kX11_open 22 rfl
theorem dX11_open_48 : decode cX11_open 48 = .ok (.iload_n 1, 1) := getB' kX11_open 23 rfl
theorem dX11_open_49 : decode cX11_open 49 = .ok (.bipush 8, 2) := getB' kX11_open 24 rfl
theorem dX11_open_51 : decode cX11_open 51 = .ok (.imul, 1) := getB' kX11_open 25 rfl
theorem dX11_open_52 : decode cX11_open 52 = .ok (.iload_n 2, 1) := getB' kX11_open 26 rfl
theorem dX11_open_53 : decode cX11_open 53 = .ok (.iadd, 1) := getB' kX11_open 27 rfl
theorem dX11_open_54 : decode cX11_open 54 = .ok (.iload_n 3, 1) := getB' kX11_open 28 rfl
theorem dX11_open_55 : decode cX11_open 55 = .ok (.invokestatic 108, 3) := getB' kX11_open 29 rfl
theorem dX11_open_58 : decode cX11_open 58 = .ok (.aload_n 0, 1) := getB' kX11_open 30 rfl
theorem dX11_open_59 : decode cX11_open 59 = .ok (.getfield 26, 3) := getB' kX11_open 31 rfl
theorem dX11_open_62 : decode cX11_open 62 = .ok (.getfield 599, 3) := getB' kX11_open 32 rfl
theorem dX11_open_65 : decode cX11_open 65 = .ok (.iload_n 1, 1) := getB' kX11_open 33 rfl
theorem dX11_open_66 : decode cX11_open 66 = .ok (.bipush 8, 2) := getB' kX11_open 34 rfl
theorem dX11_open_68 : decode cX11_open 68 = .ok (.imul, 1) := getB' kX11_open 35 rfl
theorem dX11_open_69 : decode cX11_open 69 = .ok (.iload_n 2, 1) := getB' kX11_open 36 rfl
theorem dX11_open_70 : decode cX11_open 70 = .ok (.iadd, 1) := getB' kX11_open 37 rfl
theorem dX11_open_71 : decode cX11_open 71 = .ok (.iload 4, 2) := getB' kX11_open 38 rfl
theorem dX11_open_73 : decode cX11_open 73 = .ok (.invokestatic 108, 3) := getB' kX11_open 39 rfl
theorem dX11_open_76 : decode cX11_open 76 = .ok (.iconst 1, 1) := getB' kX11_open 40 rfl
theorem dX11_open_77 : decode cX11_open 77 = .ok (.ireturn, 1) := getB' kX11_open 41 rfl
def LX11_plan : List (Nat × Instr × Nat) := [(0, .aload_n 0, 1), (1, .iload_n 1, 1), (2, .invokevirtual 403, 3), (5, .astore 4, 2), (7, .aload 4, 2), (9, .ifnull 21, 3), (12, .iload_n 2, 1), (13, .invokestatic 394, 3), (16, .ifCond .eq 14, 3), (19, .iload_n 3, 1), (20, .iconst 0, 1), (21, .sipush 359, 3), (24, .invokestatic 112, 3), (27, .ifCond .ne 5, 3), (30, .iconst (-1), 1), (31, .ireturn, 1), (32, .aload_n 0, 1), (33, .getfield 26, 3), (36, .getfield 593, 3), (39, .getfield 199, 3), (42, .ifCond .eq 18, 3), (45, .aload_n 0, 1), (46, .getfield 26, 3), (49, .invokevirtual 602, 3), (52, .aload 4, 2), (54, .getfield 407, 3), (57, .if_icmp .le 5, 3), (60, .iconst (-1), 1), (61, .ireturn, 1), (62, .iload_n 3, 1), (63, .aload_n 0, 1), (64, .getfield 12, 3), (67, .getfield 400, 3), (70, .iload_n 2, 1), (71, .invokestatic 253, 3), (74, .iadd, 1), (75, .istore 5, 2), (77, .aload_n 0, 1), (78, .getfield 26, 3), (81, .getfield 605, 3), (84, .iload 5, 2), (86, .if_icmp .eq 16, 3), (89, .aload_n 0, 1), (90, .invokevirtual 608, 3), (93, .aload_n 0, 1), (94, .getfield 26, 3), (97, .iload 5, 2), (99, .invokevirtual 611, 3), (102, .aload_n 0, 1), (103, .getfield 26, 3), (106, .getfield 614, 3), (109, .ireturn, 1)]
theorem kX11_plan : chkB cX11_plan LX11_plan = true := by decide +kernel
theorem dX11_plan_0 : decode cX11_plan 0 = .ok (.aload_n 0, 1) := getB' kX11_plan 0 rfl
theorem dX11_plan_1 : decode cX11_plan 1 = .ok (.iload_n 1, 1) := getB' kX11_plan 1 rfl
theorem dX11_plan_2 : decode cX11_plan 2 = .ok (.invokevirtual 403, 3) := getB' kX11_plan 2 rfl
theorem dX11_plan_5 : decode cX11_plan 5 = .ok (.astore 4, 2) := getB' kX11_plan 3 rfl
theorem dX11_plan_7 : decode cX11_plan 7 = .ok (.aload 4, 2) := getB' kX11_plan 4 rfl
theorem dX11_plan_9 : decode cX11_plan 9 = .ok (.ifnull 21, 3) := getB' kX11_plan 5 rfl
theorem dX11_plan_12 : decode cX11_plan 12 = .ok (.iload_n 2, 1) := getB' kX11_plan 6 rfl
theorem dX11_plan_13 : decode cX11_plan 13 = .ok (.invokestatic 394, 3) := getB' kX11_plan 7 rfl
theorem dX11_plan_16 : decode cX11_plan 16 = .ok (.ifCond .eq 14, 3) := getB' kX11_plan 8 rfl
theorem dX11_plan_19 : decode cX11_plan 19 = .ok (.iload_n 3, 1) := getB' kX11_plan 9 rfl
theorem dX11_plan_20 : decode cX11_plan 20 = .ok (.iconst 0, 1) := getB' kX11_plan 10 rfl
theorem dX11_plan_21 : decode cX11_plan 21 = .ok (.sipush 359, 3) := getB' kX11_plan 11 rfl
theorem dX11_plan_24 : decode cX11_plan 24 = .ok (.invokestatic 112, 3) := getB' kX11_plan 12 rfl
theorem dX11_plan_27 : decode cX11_plan 27 = .ok (.ifCond .ne 5, 3) := getB' kX11_plan 13 rfl
theorem dX11_plan_30 : decode cX11_plan 30 = .ok (.iconst (-1), 1) := getB' kX11_plan 14 rfl
theorem dX11_plan_31 : decode cX11_plan 31 = .ok (.ireturn, 1) := getB' kX11_plan 15 rfl
theorem dX11_plan_32 : decode cX11_plan 32 = .ok (.aload_n 0, 1) := getB' kX11_plan 16 rfl
theorem dX11_plan_33 : decode cX11_plan 33 = .ok (.getfield 26, 3) := getB' kX11_plan 17 rfl
theorem dX11_plan_36 : decode cX11_plan 36 = .ok (.getfield 593, 3) := getB' kX11_plan 18 rfl
theorem dX11_plan_39 : decode cX11_plan 39 = .ok (.getfield 199, 3) := getB' kX11_plan 19 rfl
theorem dX11_plan_42 : decode cX11_plan 42 = .ok (.ifCond .eq 18, 3) := getB' kX11_plan 20 rfl
theorem dX11_plan_45 : decode cX11_plan 45 = .ok (.aload_n 0, 1) := getB' kX11_plan 21 rfl
theorem dX11_plan_46 : decode cX11_plan 46 = .ok (.getfield 26, 3) := getB' kX11_plan 22 rfl
theorem dX11_plan_49 : decode cX11_plan 49 = .ok (.invokevirtual 602, 3) := getB' kX11_plan 23 rfl
theorem dX11_plan_52 : decode cX11_plan 52 = .ok (.aload 4, 2) := getB' kX11_plan 24 rfl
theorem dX11_plan_54 : decode cX11_plan 54 = .ok (.getfield 407, 3) := getB' kX11_plan 25 rfl
theorem dX11_plan_57 : decode cX11_plan 57 = .ok (.if_icmp .le 5, 3) := getB' kX11_plan 26 rfl
theorem dX11_plan_60 : decode cX11_plan 60 = .ok (.iconst (-1), 1) := getB' kX11_plan 27 rfl
theorem dX11_plan_61 : decode cX11_plan 61 = .ok (.ireturn, 1) := getB' kX11_plan 28 rfl
theorem dX11_plan_62 : decode cX11_plan 62 = .ok (.iload_n 3, 1) := getB' kX11_plan 29 rfl
theorem dX11_plan_63 : decode cX11_plan 63 = .ok (.aload_n 0, 1) := getB' kX11_plan 30 rfl
theorem dX11_plan_64 : decode cX11_plan 64 = .ok (.getfield 12, 3) := getB' kX11_plan 31 rfl
theorem dX11_plan_67 : decode cX11_plan 67 = .ok (.getfield 400, 3) := getB' kX11_plan 32 rfl
theorem dX11_plan_70 : decode cX11_plan 70 = .ok (.iload_n 2, 1) := getB' kX11_plan 33 rfl
theorem dX11_plan_71 : decode cX11_plan 71 = .ok (.invokestatic 253, 3) := getB' kX11_plan 34 rfl
theorem dX11_plan_74 : decode cX11_plan 74 = .ok (.iadd, 1) := getB' kX11_plan 35 rfl
theorem dX11_plan_75 : decode cX11_plan 75 = .ok (.istore 5, 2) := getB' kX11_plan 36 rfl
theorem dX11_plan_77 : decode cX11_plan 77 = .ok (.aload_n 0, 1) := getB' kX11_plan 37 rfl
theorem dX11_plan_78 : decode cX11_plan 78 = .ok (.getfield 26, 3) := getB' kX11_plan 38 rfl
theorem dX11_plan_81 : decode cX11_plan 81 = .ok (.getfield 605, 3) := getB' kX11_plan 39 rfl
theorem dX11_plan_84 : decode cX11_plan 84 = .ok (.iload 5, 2) := getB' kX11_plan 40 rfl
theorem dX11_plan_86 : decode cX11_plan 86 = .ok (.if_icmp .eq 16, 3) := getB' kX11_plan 41 rfl
theorem dX11_plan_89 : decode cX11_plan 89 = .ok (.aload_n 0, 1) := getB' kX11_plan 42 rfl
theorem dX11_plan_90 : decode cX11_plan 90 = .ok (.invokevirtual 608, 3) := getB' kX11_plan 43 rfl
theorem dX11_plan_93 : decode cX11_plan 93 = .ok (.aload_n 0, 1) := getB' kX11_plan 44 rfl
theorem dX11_plan_94 : decode cX11_plan 94 = .ok (.getfield 26, 3) := getB' kX11_plan 45 rfl
theorem dX11_plan_97 : decode cX11_plan 97 = .ok (.iload 5, 2) := getB' kX11_plan 46 rfl
theorem dX11_plan_99 : decode cX11_plan 99 = .ok (.invokevirtual 611, 3) := getB' kX11_plan 47 rfl
theorem dX11_plan_102 : decode cX11_plan 102 = .ok (.aload_n 0, 1) := getB' kX11_plan 48 rfl
theorem dX11_plan_103 : decode cX11_plan 103 = .ok (.getfield 26, 3) := getB' kX11_plan 49 rfl
theorem dX11_plan_106 : decode cX11_plan 106 = .ok (.getfield 614, 3) := getB' kX11_plan 50 rfl
theorem dX11_plan_109 : decode cX11_plan 109 = .ok (.ireturn, 1) := getB' kX11_plan 51 rfl
def LX11_planned : List (Nat × Instr × Nat) := [(0, .aload_n 0, 1), (1, .iload_n 1, 1), (2, .iload_n 2, 1), (3, .iload_n 3, 1), (4, .invokevirtual 617, 3), (7, .iconst (-1), 1), (8, .if_icmp .eq 18, 3), (11, .aload_n 0, 1), (12, .getfield 26, 3), (15, .getfield 593, 3), (18, .iload 4, 2), (20, .invokevirtual 431, 3), (23, .ifCond .ne 5, 3), (26, .iconst (-1), 1), (27, .ireturn, 1), (28, .aload_n 0, 1), (29, .getfield 26, 3), (32, .getfield 620, 3), (35, .iload 4, 2), (37, .invokestatic 253, 3), (40, .ireturn, 1)]
theorem kX11_planned : chkB cX11_planned LX11_planned = true := by decide +kernel
theorem dX11_planned_0 : decode cX11_planned 0 = .ok (.aload_n 0, 1) := getB' kX11_planned 0 rfl
theorem dX11_planned_1 : decode cX11_planned 1 = .ok (.iload_n 1, 1) := getB' kX11_planned 1 rfl
theorem dX11_planned_2 : decode cX11_planned 2 = .ok (.iload_n 2, 1) := getB' kX11_planned 2 rfl
theorem dX11_planned_3 : decode cX11_planned 3 = .ok (.iload_n 3, 1) := getB' kX11_planned 3 rfl
theorem dX11_planned_4 : decode cX11_planned 4 = .ok (.invokevirtual 617, 3) := getB' kX11_planned 4 rfl
theorem dX11_planned_7 : decode cX11_planned 7 = .ok (.iconst (-1), 1) := getB' kX11_planned 5 rfl
theorem dX11_planned_8 : decode cX11_planned 8 = .ok (.if_icmp .eq 18, 3) := getB' kX11_planned 6 rfl
theorem dX11_planned_11 : decode cX11_planned 11 = .ok (.aload_n 0, 1) := getB' kX11_planned 7 rfl
theorem dX11_planned_12 : decode cX11_planned 12 = .ok (.getfield 26, 3) := getB' kX11_planned 8 rfl
theorem dX11_planned_15 : decode cX11_planned 15 = .ok (.getfield 593, 3) := getB' kX11_planned 9 rfl
theorem dX11_planned_18 : decode cX11_planned 18 = .ok (.iload 4, 2) := getB' kX11_planned 10 rfl
theorem dX11_planned_20 : decode cX11_planned 20 = .ok (.invokevirtual 431, 3) := getB' kX11_planned 11 rfl
theorem dX11_planned_23 : decode cX11_planned 23 = .ok (.ifCond .ne 5, 3) := getB' kX11_planned 12 rfl
theorem dX11_planned_26 : decode cX11_planned 26 = .ok (.iconst (-1), 1) := getB' kX11_planned 13 rfl
theorem dX11_planned_27 : decode cX11_planned 27 = .ok (.ireturn, 1) := getB' kX11_planned 14 rfl
theorem dX11_planned_28 : decode cX11_planned 28 = .ok (.aload_n 0, 1) := getB' kX11_planned 15 rfl
theorem dX11_planned_29 : decode cX11_planned 29 = .ok (.getfield 26, 3) := getB' kX11_planned 16 rfl
theorem dX11_planned_32 : decode cX11_planned 32 = .ok (.getfield 620, 3) := getB' kX11_planned 17 rfl
theorem dX11_planned_35 : decode cX11_planned 35 = .ok (.iload 4, 2) := getB' kX11_planned 18 rfl
theorem dX11_planned_37 : decode cX11_planned 37 = .ok (.invokestatic 253, 3) := getB' kX11_planned 19 rfl
theorem dX11_planned_40 : decode cX11_planned 40 = .ok (.ireturn, 1) := getB' kX11_planned 20 rfl
def LX11_measureLegs : List (Nat × Instr × Nat) := [(0, .iconst 0, 1), (1, .istore_n 1, 1), (2, .iload_n 1, 1), (3, .aload_n 0, 1), (4, .getfield 26, 3), (7, .getfield 593, 3), (10, .getfield 199, 3), (13, .if_icmp .ge 111, 3), (16, .iconst 0, 1), (17, .istore_n 2, 1), (18, .iload_n 2, 1), (19, .aload_n 0, 1), (20, .getfield 26, 3), (23, .getfield 593, 3), (26, .getfield 199, 3), (29, .if_icmp .ge 89, 3), (32, .aload_n 0, 1), (33, .aload_n 0, 1), (34, .getfield 26, 3), (37, .getfield 593, 3), (40, .iload_n 1, 1), (41, .iconst 0, 1), (42, .invokevirtual 209, 3), (45, .iconst 1, 1), (46, .invokevirtual 169, 3), (49, .astore_n 3, 1), (50, .aload_n 0, 1), (51, .aload_n 0, 1), (52, .getfield 26, 3), (55, .getfield 593, 3), (58, .iload_n 2, 1), (59, .iconst 0, 1), (60, .invokevirtual 209, 3), (63, .iconst 1, 1), (64, .invokevirtual 169, 3), (67, .astore 4, 2), (69, .aload_n 3, 1), (70, .ifnull 42, 3), (73, .aload 4, 2), (75, .ifnull 37, 3), (78, .aload_n 0, 1), (79, .getfield 26, 3), (82, .getfield 623, 3), (85, .iload_n 1, 1), (86, .bipush 8, 2), (88, .imul, 1), (89, .iload_n 2, 1), (90, .iadd, 1), (91, .iconst 2, 1), (92, .aload_n 0, 1), (93, .getfield 12, 3), (96, .aload_n 3, 1), (97, .getfield 344, 3), (100, .aload 4, 2), (102, .getfield 344, 3), (105, .invokevirtual 388, 3), (108, .imul, 1), (109, .invokestatic 108, 3), (112, .iinc 2 1, 3), (115, .goto (-97), 3), (118, .iinc 1 1, 3), (121, .goto (-119), 3), (124, .return_, 1)]
theorem kX11_measureLegs : chkB cX11_measureLegs LX11_measureLegs = true := by decide +kernel
theorem dX11_measureLegs_0 : decode cX11_measureLegs 0 = .ok (.iconst 0, 1) := getB' kX11_measureLegs 0 rfl
theorem dX11_measureLegs_1 : decode cX11_measureLegs 1 = .ok (.istore_n 1, 1) := getB' kX11_measureLegs 1 rfl
theorem dX11_measureLegs_2 : decode cX11_measureLegs 2 = .ok (.iload_n 1, 1) := getB' kX11_measureLegs 2 rfl
theorem dX11_measureLegs_3 : decode cX11_measureLegs 3 = .ok (.aload_n 0, 1) := getB' kX11_measureLegs 3 rfl
theorem dX11_measureLegs_4 : decode cX11_measureLegs 4 = .ok (.getfield 26, 3) := getB' kX11_measureLegs 4 rfl
theorem dX11_measureLegs_7 : decode cX11_measureLegs 7 = .ok (.getfield 593, 3) := getB' kX11_measureLegs 5 rfl
theorem dX11_measureLegs_10 : decode cX11_measureLegs 10 = .ok (.getfield 199, 3) := getB' kX11_measureLegs 6 rfl
theorem dX11_measureLegs_13 : decode cX11_measureLegs 13 = .ok (.if_icmp .ge 111, 3) := getB' kX11_measureLegs 7 rfl
theorem dX11_measureLegs_16 : decode cX11_measureLegs 16 = .ok (.iconst 0, 1) := getB' kX11_measureLegs 8 rfl
theorem dX11_measureLegs_17 : decode cX11_measureLegs 17 = .ok (.istore_n 2, 1) := getB' kX11_measureLegs 9 rfl
theorem dX11_measureLegs_18 : decode cX11_measureLegs 18 = .ok (.iload_n 2, 1) := getB' kX11_measureLegs 10 rfl
theorem dX11_measureLegs_19 : decode cX11_measureLegs 19 = .ok (.aload_n 0, 1) := getB' kX11_measureLegs 11 rfl
theorem dX11_measureLegs_20 : decode cX11_measureLegs 20 = .ok (.getfield 26, 3) := getB' kX11_measureLegs 12 rfl
theorem dX11_measureLegs_23 : decode cX11_measureLegs 23 = .ok (.getfield 593, 3) := getB' kX11_measureLegs 13 rfl
theorem dX11_measureLegs_26 : decode cX11_measureLegs 26 = .ok (.getfield 199, 3) := getB' kX11_measureLegs 14 rfl
theorem dX11_measureLegs_29 : decode cX11_measureLegs 29 = .ok (.if_icmp .ge 89, 3) := getB' kX11_measureLegs 15 rfl
theorem dX11_measureLegs_32 : decode cX11_measureLegs 32 = .ok (.aload_n 0, 1) := getB' kX11_measureLegs 16 rfl
theorem dX11_measureLegs_33 : decode cX11_measureLegs 33 = .ok (.aload_n 0, 1) := getB' kX11_measureLegs 17 rfl
theorem dX11_measureLegs_34 : decode cX11_measureLegs 34 = .ok (.getfield 26, 3) := getB' kX11_measureLegs 18 rfl
theorem dX11_measureLegs_37 : decode cX11_measureLegs 37 = .ok (.getfield 593, 3) := getB' kX11_measureLegs 19 rfl
theorem dX11_measureLegs_40 : decode cX11_measureLegs 40 = .ok (.iload_n 1, 1) := getB' kX11_measureLegs 20 rfl
theorem dX11_measureLegs_41 : decode cX11_measureLegs 41 = .ok (.iconst 0, 1) := getB' kX11_measureLegs 21 rfl
theorem dX11_measureLegs_42 : decode cX11_measureLegs 42 = .ok (.invokevirtual 209, 3) := getB' kX11_measureLegs 22 rfl
theorem dX11_measureLegs_45 : decode cX11_measureLegs 45 = .ok (.iconst 1, 1) := getB' kX11_measureLegs 23 rfl
theorem dX11_measureLegs_46 : decode cX11_measureLegs 46 = .ok (.invokevirtual 169, 3) := getB' kX11_measureLegs 24 rfl
theorem dX11_measureLegs_49 : decode cX11_measureLegs 49 = .ok (.astore_n 3, 1) := getB' kX11_measureLegs 25 rfl
theorem dX11_measureLegs_50 : decode cX11_measureLegs 50 = .ok (.aload_n 0, 1) := getB' kX11_measureLegs 26 rfl
theorem dX11_measureLegs_51 : decode cX11_measureLegs 51 = .ok (.aload_n 0, 1) := getB' kX11_measureLegs 27 rfl
theorem dX11_measureLegs_52 : decode cX11_measureLegs 52 = .ok (.getfield 26, 3) := getB' kX11_measureLegs 28 rfl
theorem dX11_measureLegs_55 : decode cX11_measureLegs 55 = .ok (.getfield 593, 3) := getB' kX11_measureLegs 29 rfl
theorem dX11_measureLegs_58 : decode cX11_measureLegs 58 = .ok (.iload_n 2, 1) := getB' kX11_measureLegs 30 rfl
theorem dX11_measureLegs_59 : decode cX11_measureLegs 59 = .ok (.iconst 0, 1) := getB' kX11_measureLegs 31 rfl
theorem dX11_measureLegs_60 : decode cX11_measureLegs 60 = .ok (.invokevirtual 209, 3) := getB' kX11_measureLegs 32 rfl
theorem dX11_measureLegs_63 : decode cX11_measureLegs 63 = .ok (.iconst 1, 1) := getB' kX11_measureLegs 33 rfl
theorem dX11_measureLegs_64 : decode cX11_measureLegs 64 = .ok (.invokevirtual 169, 3) := getB' kX11_measureLegs 34 rfl
theorem dX11_measureLegs_67 : decode cX11_measureLegs 67 = .ok (.astore 4, 2) := getB' kX11_measureLegs 35 rfl
theorem dX11_measureLegs_69 : decode cX11_measureLegs 69 = .ok (.aload_n 3, 1) := getB' kX11_measureLegs 36 rfl
theorem dX11_measureLegs_70 : decode cX11_measureLegs 70 = .ok (.ifnull 42, 3) := getB' kX11_measureLegs 37 rfl
theorem dX11_measureLegs_73 : decode cX11_measureLegs 73 = .ok (.aload 4, 2) := getB' kX11_measureLegs 38 rfl
theorem dX11_measureLegs_75 : decode cX11_measureLegs 75 = .ok (.ifnull 37, 3) := getB' kX11_measureLegs 39 rfl
theorem dX11_measureLegs_78 : decode cX11_measureLegs 78 = .ok (.aload_n 0, 1) := getB' kX11_measureLegs 40 rfl
theorem dX11_measureLegs_79 : decode cX11_measureLegs 79 = .ok (.getfield 26, 3) := getB' kX11_measureLegs 41 rfl
theorem dX11_measureLegs_82 : decode cX11_measureLegs 82 = .ok (.getfield 623, 3) := getB' kX11_measureLegs 42 rfl
theorem dX11_measureLegs_85 : decode cX11_measureLegs 85 = .ok (.iload_n 1, 1) := getB' kX11_measureLegs 43 rfl
theorem dX11_measureLegs_86 : decode cX11_measureLegs 86 = .ok (.bipush 8, 2) := getB' kX11_measureLegs 44 rfl
theorem dX11_measureLegs_88 : decode cX11_measureLegs 88 = .ok (.imul, 1) := getB' kX11_measureLegs 45 rfl
theorem dX11_measureLegs_89 : decode cX11_measureLegs 89 = .ok (.iload_n 2, 1) := getB' kX11_measureLegs 46 rfl
theorem dX11_measureLegs_90 : decode cX11_measureLegs 90 = .ok (.iadd, 1) := getB' kX11_measureLegs 47 rfl
theorem dX11_measureLegs_91 : decode cX11_measureLegs 91 = .ok (.iconst 2, 1) := getB' kX11_measureLegs 48 rfl
theorem dX11_measureLegs_92 : decode cX11_measureLegs 92 = .ok (.aload_n 0, 1) := getB' kX11_measureLegs 49 rfl
theorem dX11_measureLegs_93 : decode cX11_measureLegs 93 = .ok (.getfield 12, 3) := getB' kX11_measureLegs 50 rfl
theorem dX11_measureLegs_96 : decode cX11_measureLegs 96 = .ok (.aload_n 3, 1) := getB' kX11_measureLegs 51 rfl
theorem dX11_measureLegs_97 : decode cX11_measureLegs 97 = .ok (.getfield 344, 3) := getB' kX11_measureLegs 52 rfl
theorem dX11_measureLegs_100 : decode cX11_measureLegs 100 = .ok (.aload 4, 2) := getB' kX11_measureLegs 53 rfl
theorem dX11_measureLegs_102 : decode cX11_measureLegs 102 = .ok (.getfield 344, 3) := getB' kX11_measureLegs 54 rfl
theorem dX11_measureLegs_105 : decode cX11_measureLegs 105 = .ok (.invokevirtual 388, 3) := getB' kX11_measureLegs 55 rfl
theorem dX11_measureLegs_108 : decode cX11_measureLegs 108 = .ok (.imul, 1) := getB' kX11_measureLegs 56 rfl
theorem dX11_measureLegs_109 : decode cX11_measureLegs 109 = .ok (.invokestatic 108, 3) := getB' kX11_measureLegs 57 rfl
theorem dX11_measureLegs_112 : decode cX11_measureLegs 112 = .ok (.iinc 2 1, 3) := getB' kX11_measureLegs 58 rfl
theorem dX11_measureLegs_115 : decode cX11_measureLegs 115 = .ok (.goto (-97), 3) := getB' kX11_measureLegs 59 rfl
theorem dX11_measureLegs_118 : decode cX11_measureLegs 118 = .ok (.iinc 1 1, 3) := getB' kX11_measureLegs 60 rfl
theorem dX11_measureLegs_121 : decode cX11_measureLegs 121 = .ok (.goto (-119), 3) := getB' kX11_measureLegs 61 rfl
theorem dX11_measureLegs_124 : decode cX11_measureLegs 124 = .ok (.return_, 1) := getB' kX11_measureLegs 62 rfl
def LX11_report : List (Nat × Instr × Nat) := [(0, .aload_n 0, 1), (1, .iload_n 1, 1), (2, .iconst 1, 1), (3, .invokevirtual 169, 3), (6, .ifnull 18, 3), (9, .iload_n 2, 1), (10, .iconst 0, 1), (11, .aload_n 0, 1), (12, .getfield 12, 3), (15, .getfield 145, 3), (18, .invokestatic 112, 3), (21, .ifCond .ne 5, 3), (24, .iconst 0, 1), (25, .ireturn, 1), (26, .iload 4, 2), (28, .ifCond .eq 18, 3), (31, .iload_n 3, 1), (32, .sipush (-1000), 3), (35, .ldc_w 424, 3), (38, .invokestatic 112, 3), (41, .ifCond .ne 5, 3), (44, .iconst 0, 1), (45, .ireturn, 1), (46, .aload_n 0, 1), (47, .getfield 85, 3), (50, .iload_n 1, 1), (51, .iload_n 2, 1), (52, .iload_n 3, 1), (53, .iload 4, 2), (55, .ifCond .eq 7, 3), (58, .iconst 1, 1), (59, .goto 4, 3), (62, .iconst 0, 1), (63, .aload_n 0, 1), (64, .getfield 12, 3), (67, .getfield 145, 3), (70, .invokevirtual 205, 3), (73, .iconst (-1), 1), (74, .if_icmp .eq 7, 3), (77, .iconst 1, 1), (78, .goto 4, 3), (81, .iconst 0, 1), (82, .ireturn, 1)]
theorem kX11_report : chkB cX11_report LX11_report = true := by decide +kernel
theorem dX11_report_0 : decode cX11_report 0 = .ok (.aload_n 0, 1) := getB' kX11_report 0 rfl
theorem dX11_report_1 : decode cX11_report 1 = .ok (.iload_n 1, 1) := getB' kX11_report 1 rfl
theorem dX11_report_2 : decode cX11_report 2 = .ok (.iconst 1, 1) := getB' kX11_report 2 rfl
theorem dX11_report_3 : decode cX11_report 3 = .ok (.invokevirtual 169, 3) := getB' kX11_report 3 rfl
theorem dX11_report_6 : decode cX11_report 6 = .ok (.ifnull 18, 3) := getB' kX11_report 4 rfl
theorem dX11_report_9 : decode cX11_report 9 = .ok (.iload_n 2, 1) := getB' kX11_report 5 rfl
theorem dX11_report_10 : decode cX11_report 10 = .ok (.iconst 0, 1) := getB' kX11_report 6 rfl
theorem dX11_report_11 : decode cX11_report 11 = .ok (.aload_n 0, 1) := getB' kX11_report 7 rfl
theorem dX11_report_12 : decode cX11_report 12 = .ok (.getfield 12, 3) := getB' kX11_report 8 rfl
theorem dX11_report_15 : decode cX11_report 15 = .ok (.getfield 145, 3) := getB' kX11_report 9 rfl
theorem dX11_report_18 : decode cX11_report 18 = .ok (.invokestatic 112, 3) := getB' kX11_report 10 rfl
theorem dX11_report_21 : decode cX11_report 21 = .ok (.ifCond .ne 5, 3) := getB' kX11_report 11 rfl
theorem dX11_report_24 : decode cX11_report 24 = .ok (.iconst 0, 1) := getB' kX11_report 12 rfl
theorem dX11_report_25 : decode cX11_report 25 = .ok (.ireturn, 1) := getB' kX11_report 13 rfl
theorem dX11_report_26 : decode cX11_report 26 = .ok (.iload 4, 2) := getB' kX11_report 14 rfl
theorem dX11_report_28 : decode cX11_report 28 = .ok (.ifCond .eq 18, 3) := getB' kX11_report 15 rfl
theorem dX11_report_31 : decode cX11_report 31 = .ok (.iload_n 3, 1) := getB' kX11_report 16 rfl
theorem dX11_report_32 : decode cX11_report 32 = .ok (.sipush (-1000), 3) := getB' kX11_report 17 rfl
theorem dX11_report_35 : decode cX11_report 35 = .ok (.ldc_w 424, 3) := getB' kX11_report 18 rfl
theorem dX11_report_38 : decode cX11_report 38 = .ok (.invokestatic 112, 3) := getB' kX11_report 19 rfl
theorem dX11_report_41 : decode cX11_report 41 = .ok (.ifCond .ne 5, 3) := getB' kX11_report 20 rfl
theorem dX11_report_44 : decode cX11_report 44 = .ok (.iconst 0, 1) := getB' kX11_report 21 rfl
theorem dX11_report_45 : decode cX11_report 45 = .ok (.ireturn, 1) := getB' kX11_report 22 rfl
theorem dX11_report_46 : decode cX11_report 46 = .ok (.aload_n 0, 1) := getB' kX11_report 23 rfl
theorem dX11_report_47 : decode cX11_report 47 = .ok (.getfield 85, 3) := getB' kX11_report 24 rfl
theorem dX11_report_50 : decode cX11_report 50 = .ok (.iload_n 1, 1) := getB' kX11_report 25 rfl
theorem dX11_report_51 : decode cX11_report 51 = .ok (.iload_n 2, 1) := getB' kX11_report 26 rfl
theorem dX11_report_52 : decode cX11_report 52 = .ok (.iload_n 3, 1) := getB' kX11_report 27 rfl
theorem dX11_report_53 : decode cX11_report 53 = .ok (.iload 4, 2) := getB' kX11_report 28 rfl
theorem dX11_report_55 : decode cX11_report 55 = .ok (.ifCond .eq 7, 3) := getB' kX11_report 29 rfl
theorem dX11_report_58 : decode cX11_report 58 = .ok (.iconst 1, 1) := getB' kX11_report 30 rfl
theorem dX11_report_59 : decode cX11_report 59 = .ok (.goto 4, 3) := getB' kX11_report 31 rfl
theorem dX11_report_62 : decode cX11_report 62 = .ok (.iconst 0, 1) := getB' kX11_report 32 rfl
theorem dX11_report_63 : decode cX11_report 63 = .ok (.aload_n 0, 1) := getB' kX11_report 33 rfl
theorem dX11_report_64 : decode cX11_report 64 = .ok (.getfield 12, 3) := getB' kX11_report 34 rfl
theorem dX11_report_67 : decode cX11_report 67 = .ok (.getfield 145, 3) := getB' kX11_report 35 rfl
theorem dX11_report_70 : decode cX11_report 70 = .ok (.invokevirtual 205, 3) := getB' kX11_report 36 rfl
theorem dX11_report_73 : decode cX11_report 73 = .ok (.iconst (-1), 1) := getB' kX11_report 37 rfl
theorem dX11_report_74 : decode cX11_report 74 = .ok (.if_icmp .eq 7, 3) := getB' kX11_report 38 rfl
theorem dX11_report_77 : decode cX11_report 77 = .ok (.iconst 1, 1) := getB' kX11_report 39 rfl
theorem dX11_report_78 : decode cX11_report 78 = .ok (.goto 4, 3) := getB' kX11_report 40 rfl
theorem dX11_report_81 : decode cX11_report 81 = .ok (.iconst 0, 1) := getB' kX11_report 41 rfl
theorem dX11_report_82 : decode cX11_report 82 = .ok (.ireturn, 1) := getB' kX11_report 42 rfl
def LX11_known : List (Nat × Instr × Nat) := [(0, .aload_n 0, 1), (1, .iload_n 1, 1), (2, .iconst 1, 1), (3, .invokevirtual 169, 3), (6, .ifnull 17, 3), (9, .iload_n 2, 1), (10, .invokestatic 276, 3), (13, .ifCond .eq 10, 3), (16, .iload_n 3, 1), (17, .invokestatic 276, 3), (20, .ifCond .ne 7, 3), (23, .ldc_w 626, 3), (26, .ireturn, 1), (27, .iconst (-1), 1), (28, .istore 4, 2), (30, .iconst (-1), 1), (31, .istore 5, 2), (33, .iconst 0, 1), (34, .istore 6, 2), (36, .iload 6, 2), (38, .aload_n 0, 1), (39, .getfield 85, 3), (42, .getfield 199, 3), (45, .if_icmp .ge 131, 3), (48, .aload_n 0, 1), (49, .getfield 85, 3), (52, .iload 6, 2), (54, .iconst 0, 1), (55, .invokevirtual 209, 3), (58, .iload_n 1, 1), (59, .if_icmp .ne 111, 3), (62, .aload_n 0, 1), (63, .getfield 85, 3), (66, .iload 6, 2), (68, .iconst 4, 1), (69, .invokevirtual 209, 3), (72, .iload_n 3, 1), (73, .if_icmp .le 6, 3), (76, .goto 94, 3), (79, .aload_n 0, 1), (80, .getfield 85, 3), (83, .iload 6, 2), (85, .iconst 1, 1), (86, .invokevirtual 209, 3), (89, .istore 7, 2), (91, .aload_n 0, 1), (92, .getfield 85, 3), (95, .iload 6, 2), (97, .iconst 3, 1), (98, .invokevirtual 209, 3), (101, .iconst 1, 1), (102, .if_icmp .ne 7, 3), (105, .iconst 1, 1), (106, .goto 4, 3), (109, .iconst 0, 1), (110, .istore 8, 2), (112, .iload 7, 2), (114, .iload_n 2, 1), (115, .if_icmp .ne 19, 3), (118, .iload 8, 2), (120, .ifCond .eq 8, 3), (123, .iload 6, 2), (125, .goto 4, 3), (128, .iconst (-1), 1), (129, .istore 4, 2), (131, .goto 39, 3), (134, .iload 7, 2), (136, .iload_n 2, 1), (137, .if_icmp .ge 33, 3), (140, .iload 8, 2), (142, .ifCond .eq 28, 3), (145, .iload 5, 2), (147, .iconst (-1), 1), (148, .if_icmp .eq 18, 3), (151, .iload 7, 2), (153, .aload_n 0, 1), (154, .getfield 85, 3), (157, .iload 5, 2), (159, .iconst 1, 1), (160, .invokevirtual 209, 3), (163, .if_icmp .lt 7, 3), (166, .iload 6, 2), (168, .istore 5, 2), (170, .iinc 6 1, 3), (173, .goto (-137), 3), (176, .iload 4, 2), (178, .iconst (-1), 1), (179, .if_icmp .eq 8, 3), (182, .iload 4, 2), (184, .goto 5, 3), (187, .iload 5, 2), (189, .istore 6, 2), (191, .iload 6, 2), (193, .iconst (-1), 1), (194, .if_icmp .ne 9, 3), (197, .ldc_w 626, 3), (200, .goto 13, 3), (203, .aload_n 0, 1), (204, .getfield 85, 3), (207, .iload 6, 2), (209, .iconst 2, 1), (210, .invokevirtual 209, 3), (213, .ireturn, 1)]
theorem kX11_known : chkB cX11_known LX11_known = true := by decide +kernel
theorem dX11_known_0 : decode cX11_known 0 = .ok (.aload_n 0, 1) := getB' kX11_known 0 rfl
theorem dX11_known_1 : decode cX11_known 1 = .ok (.iload_n 1, 1) := getB' kX11_known 1 rfl
theorem dX11_known_2 : decode cX11_known 2 = .ok (.iconst 1, 1) := getB' kX11_known 2 rfl
theorem dX11_known_3 : decode cX11_known 3 = .ok (.invokevirtual 169, 3) := getB' kX11_known 3 rfl
theorem dX11_known_6 : decode cX11_known 6 = .ok (.ifnull 17, 3) := getB' kX11_known 4 rfl
theorem dX11_known_9 : decode cX11_known 9 = .ok (.iload_n 2, 1) := getB' kX11_known 5 rfl
theorem dX11_known_10 : decode cX11_known 10 = .ok (.invokestatic 276, 3) := getB' kX11_known 6 rfl
theorem dX11_known_13 : decode cX11_known 13 = .ok (.ifCond .eq 10, 3) := getB' kX11_known 7 rfl
theorem dX11_known_16 : decode cX11_known 16 = .ok (.iload_n 3, 1) := getB' kX11_known 8 rfl
theorem dX11_known_17 : decode cX11_known 17 = .ok (.invokestatic 276, 3) := getB' kX11_known 9 rfl
theorem dX11_known_20 : decode cX11_known 20 = .ok (.ifCond .ne 7, 3) := getB' kX11_known 10 rfl
theorem dX11_known_23 : decode cX11_known 23 = .ok (.ldc_w 626, 3) := getB' kX11_known 11 rfl
theorem dX11_known_26 : decode cX11_known 26 = .ok (.ireturn, 1) := getB' kX11_known 12 rfl
theorem dX11_known_27 : decode cX11_known 27 = .ok (.iconst (-1), 1) := getB' kX11_known 13 rfl
theorem dX11_known_28 : decode cX11_known 28 = .ok (.istore 4, 2) := getB' kX11_known 14 rfl
theorem dX11_known_30 : decode cX11_known 30 = .ok (.iconst (-1), 1) := getB' kX11_known 15 rfl
theorem dX11_known_31 : decode cX11_known 31 = .ok (.istore 5, 2) := getB' kX11_known 16 rfl
theorem dX11_known_33 : decode cX11_known 33 = .ok (.iconst 0, 1) := getB' kX11_known 17 rfl
theorem dX11_known_34 : decode cX11_known 34 = .ok (.istore 6, 2) := getB' kX11_known 18 rfl
theorem dX11_known_36 : decode cX11_known 36 = .ok (.iload 6, 2) := getB' kX11_known 19 rfl
theorem dX11_known_38 : decode cX11_known 38 = .ok (.aload_n 0, 1) := getB' kX11_known 20 rfl
theorem dX11_known_39 : decode cX11_known 39 = .ok (.getfield 85, 3) := getB' kX11_known 21 rfl
theorem dX11_known_42 : decode cX11_known 42 = .ok (.getfield 199, 3) := getB' kX11_known 22 rfl
theorem dX11_known_45 : decode cX11_known 45 = .ok (.if_icmp .ge 131, 3) := getB' kX11_known 23 rfl
theorem dX11_known_48 : decode cX11_known 48 = .ok (.aload_n 0, 1) := getB' kX11_known 24 rfl
theorem dX11_known_49 : decode cX11_known 49 = .ok (.getfield 85, 3) := getB' kX11_known 25 rfl
theorem dX11_known_52 : decode cX11_known 52 = .ok (.iload 6, 2) := getB' kX11_known 26 rfl
theorem dX11_known_54 : decode cX11_known 54 = .ok (.iconst 0, 1) := getB' kX11_known 27 rfl
theorem dX11_known_55 : decode cX11_known 55 = .ok (.invokevirtual 209, 3) := getB' kX11_known 28 rfl
theorem dX11_known_58 : decode cX11_known 58 = .ok (.iload_n 1, 1) := getB' kX11_known 29 rfl
theorem dX11_known_59 : decode cX11_known 59 = .ok (.if_icmp .ne 111, 3) := getB' kX11_known 30 rfl
theorem dX11_known_62 : decode cX11_known 62 = .ok (.aload_n 0, 1) := getB' kX11_known 31 rfl
theorem dX11_known_63 : decode cX11_known 63 = .ok (.getfield 85, 3) := getB' kX11_known 32 rfl
theorem dX11_known_66 : decode cX11_known 66 = .ok (.iload 6, 2) := getB' kX11_known 33 rfl
theorem dX11_known_68 : decode cX11_known 68 = .ok (.iconst 4, 1) := getB' kX11_known 34 rfl
theorem dX11_known_69 : decode cX11_known 69 = .ok (.invokevirtual 209, 3) := getB' kX11_known 35 rfl
theorem dX11_known_72 : decode cX11_known 72 = .ok (.iload_n 3, 1) := getB' kX11_known 36 rfl
theorem dX11_known_73 : decode cX11_known 73 = .ok (.if_icmp .le 6, 3) := getB' kX11_known 37 rfl
theorem dX11_known_76 : decode cX11_known 76 = .ok (.goto 94, 3) := getB' kX11_known 38 rfl
theorem dX11_known_79 : decode cX11_known 79 = .ok (.aload_n 0, 1) := getB' kX11_known 39 rfl
theorem dX11_known_80 : decode cX11_known 80 = .ok (.getfield 85, 3) := getB' kX11_known 40 rfl
theorem dX11_known_83 : decode cX11_known 83 = .ok (.iload 6, 2) := getB' kX11_known 41 rfl
theorem dX11_known_85 : decode cX11_known 85 = .ok (.iconst 1, 1) := getB' kX11_known 42 rfl
theorem dX11_known_86 : decode cX11_known 86 = .ok (.invokevirtual 209, 3) := getB' kX11_known 43 rfl
theorem dX11_known_89 : decode cX11_known 89 = .ok (.istore 7, 2) := getB' kX11_known 44 rfl
theorem dX11_known_91 : decode cX11_known 91 = .ok (.aload_n 0, 1) := getB' kX11_known 45 rfl
theorem dX11_known_92 : decode cX11_known 92 = .ok (.getfield 85, 3) := getB' kX11_known 46 rfl
theorem dX11_known_95 : decode cX11_known 95 = .ok (.iload 6, 2) := getB' kX11_known 47 rfl
theorem dX11_known_97 : decode cX11_known 97 = .ok (.iconst 3, 1) := getB' kX11_known 48 rfl
theorem dX11_known_98 : decode cX11_known 98 = .ok (.invokevirtual 209, 3) := getB' kX11_known 49 rfl
theorem dX11_known_101 : decode cX11_known 101 = .ok (.iconst 1, 1) := getB' kX11_known 50 rfl
theorem dX11_known_102 : decode cX11_known 102 = .ok (.if_icmp .ne 7, 3) := getB' kX11_known 51 rfl
theorem dX11_known_105 : decode cX11_known 105 = .ok (.iconst 1, 1) := getB' kX11_known 52 rfl
theorem dX11_known_106 : decode cX11_known 106 = .ok (.goto 4, 3) := getB' kX11_known 53 rfl
theorem dX11_known_109 : decode cX11_known 109 = .ok (.iconst 0, 1) := getB' kX11_known 54 rfl
theorem dX11_known_110 : decode cX11_known 110 = .ok (.istore 8, 2) := getB' kX11_known 55 rfl
theorem dX11_known_112 : decode cX11_known 112 = .ok (.iload 7, 2) := getB' kX11_known 56 rfl
theorem dX11_known_114 : decode cX11_known 114 = .ok (.iload_n 2, 1) := getB' kX11_known 57 rfl
theorem dX11_known_115 : decode cX11_known 115 = .ok (.if_icmp .ne 19, 3) := getB' kX11_known 58 rfl
theorem dX11_known_118 : decode cX11_known 118 = .ok (.iload 8, 2) := getB' kX11_known 59 rfl
theorem dX11_known_120 : decode cX11_known 120 = .ok (.ifCond .eq 8, 3) := getB' kX11_known 60 rfl
theorem dX11_known_123 : decode cX11_known 123 = .ok (.iload 6, 2) := getB' kX11_known 61 rfl
theorem dX11_known_125 : decode cX11_known 125 = .ok (.goto 4, 3) := getB' kX11_known 62 rfl
theorem dX11_known_128 : decode cX11_known 128 = .ok (.iconst (-1), 1) := getB' kX11_known 63 rfl
theorem dX11_known_129 : decode cX11_known 129 = .ok (.istore 4, 2) := getB' kX11_known 64 rfl
theorem dX11_known_131 : decode cX11_known 131 = .ok (.goto 39, 3) := getB' kX11_known 65 rfl
theorem dX11_known_134 : decode cX11_known 134 = .ok (.iload 7, 2) := getB' kX11_known 66 rfl
theorem dX11_known_136 : decode cX11_known 136 = .ok (.iload_n 2, 1) := getB' kX11_known 67 rfl
theorem dX11_known_137 : decode cX11_known 137 = .ok (.if_icmp .ge 33, 3) := getB' kX11_known 68 rfl
theorem dX11_known_140 : decode cX11_known 140 = .ok (.iload 8, 2) := getB' kX11_known 69 rfl
theorem dX11_known_142 : decode cX11_known 142 = .ok (.ifCond .eq 28, 3) := getB' kX11_known 70 rfl
theorem dX11_known_145 : decode cX11_known 145 = .ok (.iload 5, 2) := getB' kX11_known 71 rfl
theorem dX11_known_147 : decode cX11_known 147 = .ok (.iconst (-1), 1) := getB' kX11_known 72 rfl
theorem dX11_known_148 : decode cX11_known 148 = .ok (.if_icmp .eq 18, 3) := getB' kX11_known 73 rfl
theorem dX11_known_151 : decode cX11_known 151 = .ok (.iload 7, 2) := getB' kX11_known 74 rfl
theorem dX11_known_153 : decode cX11_known 153 = .ok (.aload_n 0, 1) := getB' kX11_known 75 rfl
theorem dX11_known_154 : decode cX11_known 154 = .ok (.getfield 85, 3) := getB' kX11_known 76 rfl
theorem dX11_known_157 : decode cX11_known 157 = .ok (.iload 5, 2) := getB' kX11_known 77 rfl
theorem dX11_known_159 : decode cX11_known 159 = .ok (.iconst 1, 1) := getB' kX11_known 78 rfl
theorem dX11_known_160 : decode cX11_known 160 = .ok (.invokevirtual 209, 3) := getB' kX11_known 79 rfl
theorem dX11_known_163 : decode cX11_known 163 = .ok (.if_icmp .lt 7, 3) := getB' kX11_known 80 rfl
theorem dX11_known_166 : decode cX11_known 166 = .ok (.iload 6, 2) := getB' kX11_known 81 rfl
theorem dX11_known_168 : decode cX11_known 168 = .ok (.istore 5, 2) := getB' kX11_known 82 rfl
theorem dX11_known_170 : decode cX11_known 170 = .ok (.iinc 6 1, 3) := getB' kX11_known 83 rfl
theorem dX11_known_173 : decode cX11_known 173 = .ok (.goto (-137), 3) := getB' kX11_known 84 rfl
theorem dX11_known_176 : decode cX11_known 176 = .ok (.iload 4, 2) := getB' kX11_known 85 rfl
theorem dX11_known_178 : decode cX11_known 178 = .ok (.iconst (-1), 1) := getB' kX11_known 86 rfl
theorem dX11_known_179 : decode cX11_known 179 = .ok (.if_icmp .eq 8, 3) := getB' kX11_known 87 rfl
theorem dX11_known_182 : decode cX11_known 182 = .ok (.iload 4, 2) := getB' kX11_known 88 rfl
theorem dX11_known_184 : decode cX11_known 184 = .ok (.goto 5, 3) := getB' kX11_known 89 rfl
theorem dX11_known_187 : decode cX11_known 187 = .ok (.iload 5, 2) := getB' kX11_known 90 rfl
theorem dX11_known_189 : decode cX11_known 189 = .ok (.istore 6, 2) := getB' kX11_known 91 rfl
theorem dX11_known_191 : decode cX11_known 191 = .ok (.iload 6, 2) := getB' kX11_known 92 rfl
theorem dX11_known_193 : decode cX11_known 193 = .ok (.iconst (-1), 1) := getB' kX11_known 93 rfl
theorem dX11_known_194 : decode cX11_known 194 = .ok (.if_icmp .ne 9, 3) := getB' kX11_known 94 rfl
theorem dX11_known_197 : decode cX11_known 197 = .ok (.ldc_w 626, 3) := getB' kX11_known 95 rfl
theorem dX11_known_200 : decode cX11_known 200 = .ok (.goto 13, 3) := getB' kX11_known 96 rfl
theorem dX11_known_203 : decode cX11_known 203 = .ok (.aload_n 0, 1) := getB' kX11_known 97 rfl
theorem dX11_known_204 : decode cX11_known 204 = .ok (.getfield 85, 3) := getB' kX11_known 98 rfl
theorem dX11_known_207 : decode cX11_known 207 = .ok (.iload 6, 2) := getB' kX11_known 99 rfl
theorem dX11_known_209 : decode cX11_known 209 = .ok (.iconst 2, 1) := getB' kX11_known 100 rfl
theorem dX11_known_210 : decode cX11_known 210 = .ok (.invokevirtual 209, 3) := getB' kX11_known 101 rfl
theorem dX11_known_213 : decode cX11_known 213 = .ok (.ireturn, 1) := getB' kX11_known 102 rfl
def LX11_check : List (Nat × Instr × Nat) := [(0, .iload_n 1, 1), (1, .ifCond .lt 17, 3), (4, .iload_n 1, 1), (5, .aload_n 0, 1), (6, .getfield 91, 3), (9, .getfield 199, 3), (12, .bipush 8, 2), (14, .idiv, 1), (15, .if_icmp .le 6, 3), (18, .bipush (-2), 2), (20, .ireturn, 1), (21, .aload_n 0, 1), (22, .iconst 2, 1), (23, .iload_n 1, 1), (24, .imul, 1), (25, .invokevirtual 627, 3), (28, .istore_n 2, 1), (29, .aload_n 0, 1), (30, .getfield 91, 3), (33, .iconst 0, 1), (34, .putfield 199, 3), (37, .iload_n 2, 1), (38, .ireturn, 1)]
theorem kX11_check : chkB cX11_check LX11_check = true := by decide +kernel
theorem dX11_check_0 : decode cX11_check 0 = .ok (.iload_n 1, 1) := getB' kX11_check 0 rfl
theorem dX11_check_1 : decode cX11_check 1 = .ok (.ifCond .lt 17, 3) := getB' kX11_check 1 rfl
theorem dX11_check_4 : decode cX11_check 4 = .ok (.iload_n 1, 1) := getB' kX11_check 2 rfl
theorem dX11_check_5 : decode cX11_check 5 = .ok (.aload_n 0, 1) := getB' kX11_check 3 rfl
theorem dX11_check_6 : decode cX11_check 6 = .ok (.getfield 91, 3) := getB' kX11_check 4 rfl
theorem dX11_check_9 : decode cX11_check 9 = .ok (.getfield 199, 3) := getB' kX11_check 5 rfl
theorem dX11_check_12 : decode cX11_check 12 = .ok (.bipush 8, 2) := getB' kX11_check 6 rfl
theorem dX11_check_14 : decode cX11_check 14 = .ok (.idiv, 1) := getB' kX11_check 7 rfl
theorem dX11_check_15 : decode cX11_check 15 = .ok (.if_icmp .le 6, 3) := getB' kX11_check 8 rfl
theorem dX11_check_18 : decode cX11_check 18 = .ok (.bipush (-2), 2) := getB' kX11_check 9 rfl
theorem dX11_check_20 : decode cX11_check 20 = .ok (.ireturn, 1) := getB' kX11_check 10 rfl
theorem dX11_check_21 : decode cX11_check 21 = .ok (.aload_n 0, 1) := getB' kX11_check 11 rfl
theorem dX11_check_22 : decode cX11_check 22 = .ok (.iconst 2, 1) := getB' kX11_check 12 rfl
theorem dX11_check_23 : decode cX11_check 23 = .ok (.iload_n 1, 1) := getB' kX11_check 13 rfl
theorem dX11_check_24 : decode cX11_check 24 = .ok (.imul, 1) := getB' kX11_check 14 rfl
theorem dX11_check_25 : decode cX11_check 25 = .ok (.invokevirtual 627, 3) := getB' kX11_check 15 rfl
theorem dX11_check_28 : decode cX11_check 28 = .ok (.istore_n 2, 1) := getB' kX11_check 16 rfl
theorem dX11_check_29 : decode cX11_check 29 = .ok (.aload_n 0, 1) := getB' kX11_check 17 rfl
theorem dX11_check_30 : decode cX11_check 30 = .ok (.getfield 91, 3) := getB' kX11_check 18 rfl
theorem dX11_check_33 : decode cX11_check 33 = .ok (.iconst 0, 1) := getB' kX11_check 19 rfl
theorem dX11_check_34 : decode cX11_check 34 = .ok (.putfield 199, 3) := getB' kX11_check 20 rfl
theorem dX11_check_37 : decode cX11_check 37 = .ok (.iload_n 2, 1) := getB' kX11_check 21 rfl
theorem dX11_check_38 : decode cX11_check 38 = .ok (.ireturn, 1) := getB' kX11_check 22 rfl
def LX11_firstWrong : List (Nat × Instr × Nat) := [(0, .iconst 0, 1), (1, .istore_n 2, 1), (2, .iconst 0, 1), (3, .istore_n 3, 1), (4, .iload_n 3, 1), (5, .aload_n 0, 1), (6, .getfield 46, 3), (9, .if_icmp .ge 68, 3), (12, .aload_n 0, 1), (13, .iload_n 3, 1), (14, .invokevirtual 195, 3), (17, .astore 4, 2), (19, .aload 4, 2), (21, .ifnonnull 6, 3), (24, .goto 47, 3), (27, .iload_n 2, 1), (28, .iload_n 1, 1), (29, .if_icmp .ge 12, 3), (32, .aload_n 0, 1), (33, .iload_n 2, 1), (34, .invokevirtual 630, 3), (37, .iload_n 3, 1), (38, .if_icmp .eq 5, 3), (41, .iload_n 2, 1), (42, .ireturn, 1), (43, .aload_n 0, 1), (44, .iload_n 2, 1), (45, .iconst 1, 1), (46, .iadd, 1), (47, .invokevirtual 630, 3), (50, .aload 4, 2), (52, .getfield 186, 3), (55, .aload 4, 2), (57, .getfield 421, 3), (60, .iadd, 1), (61, .if_icmp .eq 7, 3), (64, .iload_n 2, 1), (65, .iconst 1, 1), (66, .iadd, 1), (67, .ireturn, 1), (68, .iinc 2 2, 3), (71, .iinc 3 1, 3), (74, .goto (-70), 3), (77, .iload_n 2, 1), (78, .iload_n 1, 1), (79, .if_icmp .ge 7, 3), (82, .iload_n 2, 1), (83, .goto 4, 3), (86, .iconst (-1), 1), (87, .ireturn, 1)]
theorem kX11_firstWrong : chkB cX11_firstWrong LX11_firstWrong = true := by decide +kernel
theorem dX11_firstWrong_0 : decode cX11_firstWrong 0 = .ok (.iconst 0, 1) := getB' kX11_firstWrong 0 rfl
theorem dX11_firstWrong_1 : decode cX11_firstWrong 1 = .ok (.istore_n 2, 1) := getB' kX11_firstWrong 1 rfl
theorem dX11_firstWrong_2 : decode cX11_firstWrong 2 = .ok (.iconst 0, 1) := getB' kX11_firstWrong 2 rfl
theorem dX11_firstWrong_3 : decode cX11_firstWrong 3 = .ok (.istore_n 3, 1) := getB' kX11_firstWrong 3 rfl
theorem dX11_firstWrong_4 : decode cX11_firstWrong 4 = .ok (.iload_n 3, 1) := getB' kX11_firstWrong 4 rfl
theorem dX11_firstWrong_5 : decode cX11_firstWrong 5 = .ok (.aload_n 0, 1) := getB' kX11_firstWrong 5 rfl
theorem dX11_firstWrong_6 : decode cX11_firstWrong 6 = .ok (.getfield 46, 3) := getB' kX11_firstWrong 6 rfl
theorem dX11_firstWrong_9 : decode cX11_firstWrong 9 = .ok (.if_icmp .ge 68, 3) := getB' kX11_firstWrong 7 rfl
theorem dX11_firstWrong_12 : decode cX11_firstWrong 12 = .ok (.aload_n 0, 1) := getB' kX11_firstWrong 8 rfl
theorem dX11_firstWrong_13 : decode cX11_firstWrong 13 = .ok (.iload_n 3, 1) := getB' kX11_firstWrong 9 rfl
theorem dX11_firstWrong_14 : decode cX11_firstWrong 14 = .ok (.invokevirtual 195, 3) := getB' kX11_firstWrong 10 rfl
theorem dX11_firstWrong_17 : decode cX11_firstWrong 17 = .ok (.astore 4, 2) := getB' kX11_firstWrong 11 rfl
theorem dX11_firstWrong_19 : decode cX11_firstWrong 19 = .ok (.aload 4, 2) := getB' kX11_firstWrong 12 rfl
theorem dX11_firstWrong_21 : decode cX11_firstWrong 21 = .ok (.ifnonnull 6, 3) := getB' kX11_firstWrong 13 rfl
theorem dX11_firstWrong_24 : decode cX11_firstWrong 24 = .ok (.goto 47, 3) := getB' kX11_firstWrong 14 rfl
theorem dX11_firstWrong_27 : decode cX11_firstWrong 27 = .ok (.iload_n 2, 1) := getB' kX11_firstWrong 15 rfl
theorem dX11_firstWrong_28 : decode cX11_firstWrong 28 = .ok (.iload_n 1, 1) := getB' kX11_firstWrong 16 rfl
theorem dX11_firstWrong_29 : decode cX11_firstWrong 29 = .ok (.if_icmp .ge 12, 3) := getB' kX11_firstWrong 17 rfl
theorem dX11_firstWrong_32 : decode cX11_firstWrong 32 = .ok (.aload_n 0, 1) := getB' kX11_firstWrong 18 rfl
theorem dX11_firstWrong_33 : decode cX11_firstWrong 33 = .ok (.iload_n 2, 1) := getB' kX11_firstWrong 19 rfl
theorem dX11_firstWrong_34 : decode cX11_firstWrong 34 = .ok (.invokevirtual 630, 3) := getB' kX11_firstWrong 20 rfl
theorem dX11_firstWrong_37 : decode cX11_firstWrong 37 = .ok (.iload_n 3, 1) := getB' kX11_firstWrong 21 rfl
theorem dX11_firstWrong_38 : decode cX11_firstWrong 38 = .ok (.if_icmp .eq 5, 3) := getB' kX11_firstWrong 22 rfl
theorem dX11_firstWrong_41 : decode cX11_firstWrong 41 = .ok (.iload_n 2, 1) := getB' kX11_firstWrong 23 rfl
theorem dX11_firstWrong_42 : decode cX11_firstWrong 42 = .ok (.ireturn, 1) := getB' kX11_firstWrong 24 rfl
theorem dX11_firstWrong_43 : decode cX11_firstWrong 43 = .ok (.aload_n 0, 1) := getB' kX11_firstWrong 25 rfl
theorem dX11_firstWrong_44 : decode cX11_firstWrong 44 = .ok (.iload_n 2, 1) := getB' kX11_firstWrong 26 rfl
theorem dX11_firstWrong_45 : decode cX11_firstWrong 45 = .ok (.iconst 1, 1) := getB' kX11_firstWrong 27 rfl
theorem dX11_firstWrong_46 : decode cX11_firstWrong 46 = .ok (.iadd, 1) := getB' kX11_firstWrong 28 rfl
theorem dX11_firstWrong_47 : decode cX11_firstWrong 47 = .ok (.invokevirtual 630, 3) := getB' kX11_firstWrong 29 rfl
theorem dX11_firstWrong_50 : decode cX11_firstWrong 50 = .ok (.aload 4, 2) := getB' kX11_firstWrong 30 rfl
theorem dX11_firstWrong_52 : decode cX11_firstWrong 52 = .ok (.getfield 186, 3) := getB' kX11_firstWrong 31 rfl
theorem dX11_firstWrong_55 : decode cX11_firstWrong 55 = .ok (.aload 4, 2) := getB' kX11_firstWrong 32 rfl
theorem dX11_firstWrong_57 : decode cX11_firstWrong 57 = .ok (.getfield 421, 3) := getB' kX11_firstWrong 33 rfl
theorem dX11_firstWrong_60 : decode cX11_firstWrong 60 = .ok (.iadd, 1) := getB' kX11_firstWrong 34 rfl
theorem dX11_firstWrong_61 : decode cX11_firstWrong 61 = .ok (.if_icmp .eq 7, 3) := getB' kX11_firstWrong 35 rfl
theorem dX11_firstWrong_64 : decode cX11_firstWrong 64 = .ok (.iload_n 2, 1) := getB' kX11_firstWrong 36 rfl
theorem dX11_firstWrong_65 : decode cX11_firstWrong 65 = .ok (.iconst 1, 1) := getB' kX11_firstWrong 37 rfl
theorem dX11_firstWrong_66 : decode cX11_firstWrong 66 = .ok (.iadd, 1) := getB' kX11_firstWrong 38 rfl
theorem dX11_firstWrong_67 : decode cX11_firstWrong 67 = .ok (.ireturn, 1) := getB' kX11_firstWrong 39 rfl
theorem dX11_firstWrong_68 : decode cX11_firstWrong 68 = .ok (.iinc 2 2, 3) := getB' kX11_firstWrong 40 rfl
theorem dX11_firstWrong_71 : decode cX11_firstWrong 71 = .ok (.iinc 3 1, 3) := getB' kX11_firstWrong 41 rfl
theorem dX11_firstWrong_74 : decode cX11_firstWrong 74 = .ok (.goto (-70), 3) := getB' kX11_firstWrong 42 rfl
theorem dX11_firstWrong_77 : decode cX11_firstWrong 77 = .ok (.iload_n 2, 1) := getB' kX11_firstWrong 43 rfl
theorem dX11_firstWrong_78 : decode cX11_firstWrong 78 = .ok (.iload_n 1, 1) := getB' kX11_firstWrong 44 rfl
theorem dX11_firstWrong_79 : decode cX11_firstWrong 79 = .ok (.if_icmp .ge 7, 3) := getB' kX11_firstWrong 45 rfl
theorem dX11_firstWrong_82 : decode cX11_firstWrong 82 = .ok (.iload_n 2, 1) := getB' kX11_firstWrong 46 rfl
theorem dX11_firstWrong_83 : decode cX11_firstWrong 83 = .ok (.goto 4, 3) := getB' kX11_firstWrong 47 rfl
theorem dX11_firstWrong_86 : decode cX11_firstWrong 86 = .ok (.iconst (-1), 1) := getB' kX11_firstWrong 48 rfl
theorem dX11_firstWrong_87 : decode cX11_firstWrong 87 = .ok (.ireturn, 1) := getB' kX11_firstWrong 49 rfl
def LX11_look : List (Nat × Instr × Nat) := [(0, .aload_n 0, 1), (1, .iload_n 1, 1), (2, .invokevirtual 384, 3), (5, .astore_n 3, 1), (6, .aload_n 3, 1), (7, .ifnonnull 5, 3), (10, .iconst (-1), 1), (11, .ireturn, 1), (12, .iload_n 2, 1), (13, .tableswitch 77 0 5 #[39, 44, 49, 54, 59, 64], 39), (52, .aload_n 3, 1), (53, .getfield 387, 3), (56, .ireturn, 1), (57, .aload_n 3, 1), (58, .getfield 173, 3), (61, .ireturn, 1), (62, .aload_n 3, 1), (63, .getfield 344, 3), (66, .ireturn, 1), (67, .aload_n 3, 1), (68, .getfield 347, 3), (71, .ireturn, 1), (72, .aload_n 3, 1), (73, .getfield 176, 3), (76, .ireturn, 1), (77, .aload_n 3, 1), (78, .getfield 511, 3), (81, .ifCond .eq 7, 3), (84, .iconst 1, 1), (85, .goto 4, 3), (88, .iconst 0, 1), (89, .ireturn, 1), (90, .aload_n 3, 1), (91, .getfield 387, 3), (94, .iconst 1, 1), (95, .if_icmp .ne 12, 3), (98, .aload_n 0, 1), (99, .aload_n 3, 1), (100, .iload_n 2, 1), (101, .invokevirtual 633, 3), (104, .goto 4, 3), (107, .iconst (-1), 1), (108, .ireturn, 1)]
theorem kX11_look : chkB cX11_look LX11_look = true := by decide +kernel
theorem dX11_look_0 : decode cX11_look 0 = .ok (.aload_n 0, 1) := getB' kX11_look 0 rfl
theorem dX11_look_1 : decode cX11_look 1 = .ok (.iload_n 1, 1) := getB' kX11_look 1 rfl
theorem dX11_look_2 : decode cX11_look 2 = .ok (.invokevirtual 384, 3) := getB' kX11_look 2 rfl
theorem dX11_look_5 : decode cX11_look 5 = .ok (.astore_n 3, 1) := getB' kX11_look 3 rfl
theorem dX11_look_6 : decode cX11_look 6 = .ok (.aload_n 3, 1) := getB' kX11_look 4 rfl
theorem dX11_look_7 : decode cX11_look 7 = .ok (.ifnonnull 5, 3) := getB' kX11_look 5 rfl
theorem dX11_look_10 : decode cX11_look 10 = .ok (.iconst (-1), 1) := getB' kX11_look 6 rfl
theorem dX11_look_11 : decode cX11_look 11 = .ok (.ireturn, 1) := getB' kX11_look 7 rfl
theorem dX11_look_12 : decode cX11_look 12 = .ok (.iload_n 2, 1) := getB' kX11_look 8 rfl
theorem dX11_look_13 : decode cX11_look 13 = .ok (.tableswitch 77 0 5 #[39, 44, 49, 54, 59, 64], 39) := getB' kX11_look 9 rfl
theorem dX11_look_52 : decode cX11_look 52 = .ok (.aload_n 3, 1) := getB' kX11_look 10 rfl
theorem dX11_look_53 : decode cX11_look 53 = .ok (.getfield 387, 3) := getB' kX11_look 11 rfl
theorem dX11_look_56 : decode cX11_look 56 = .ok (.ireturn, 1) := getB' kX11_look 12 rfl
theorem dX11_look_57 : decode cX11_look 57 = .ok (.aload_n 3, 1) := getB' kX11_look 13 rfl
theorem dX11_look_58 : decode cX11_look 58 = .ok (.getfield 173, 3) := getB' kX11_look 14 rfl
theorem dX11_look_61 : decode cX11_look 61 = .ok (.ireturn, 1) := getB' kX11_look 15 rfl
theorem dX11_look_62 : decode cX11_look 62 = .ok (.aload_n 3, 1) := getB' kX11_look 16 rfl
theorem dX11_look_63 : decode cX11_look 63 = .ok (.getfield 344, 3) := getB' kX11_look 17 rfl
theorem dX11_look_66 : decode cX11_look 66 = .ok (.ireturn, 1) := getB' kX11_look 18 rfl
theorem dX11_look_67 : decode cX11_look 67 = .ok (.aload_n 3, 1) := getB' kX11_look 19 rfl
theorem dX11_look_68 : decode cX11_look 68 = .ok (.getfield 347, 3) := getB' kX11_look 20 rfl
theorem dX11_look_71 : decode cX11_look 71 = .ok (.ireturn, 1) := getB' kX11_look 21 rfl
theorem dX11_look_72 : decode cX11_look 72 = .ok (.aload_n 3, 1) := getB' kX11_look 22 rfl
theorem dX11_look_73 : decode cX11_look 73 = .ok (.getfield 176, 3) := getB' kX11_look 23 rfl
theorem dX11_look_76 : decode cX11_look 76 = .ok (.ireturn, 1) := getB' kX11_look 24 rfl
theorem dX11_look_77 : decode cX11_look 77 = .ok (.aload_n 3, 1) := getB' kX11_look 25 rfl
theorem dX11_look_78 : decode cX11_look 78 = .ok (.getfield 511, 3) := getB' kX11_look 26 rfl
theorem dX11_look_81 : decode cX11_look 81 = .ok (.ifCond .eq 7, 3) := getB' kX11_look 27 rfl
theorem dX11_look_84 : decode cX11_look 84 = .ok (.iconst 1, 1) := getB' kX11_look 28 rfl
theorem dX11_look_85 : decode cX11_look 85 = .ok (.goto 4, 3) := getB' kX11_look 29 rfl
theorem dX11_look_88 : decode cX11_look 88 = .ok (.iconst 0, 1) := getB' kX11_look 30 rfl
theorem dX11_look_89 : decode cX11_look 89 = .ok (.ireturn, 1) := getB' kX11_look 31 rfl
theorem dX11_look_90 : decode cX11_look 90 = .ok (.aload_n 3, 1) := getB' kX11_look 32 rfl
theorem dX11_look_91 : decode cX11_look 91 = .ok (.getfield 387, 3) := getB' kX11_look 33 rfl
theorem dX11_look_94 : decode cX11_look 94 = .ok (.iconst 1, 1) := getB' kX11_look 34 rfl
theorem dX11_look_95 : decode cX11_look 95 = .ok (.if_icmp .ne 12, 3) := getB' kX11_look 35 rfl
theorem dX11_look_98 : decode cX11_look 98 = .ok (.aload_n 0, 1) := getB' kX11_look 36 rfl
theorem dX11_look_99 : decode cX11_look 99 = .ok (.aload_n 3, 1) := getB' kX11_look 37 rfl
theorem dX11_look_100 : decode cX11_look 100 = .ok (.iload_n 2, 1) := getB' kX11_look 38 rfl
theorem dX11_look_101 : decode cX11_look 101 = .ok (.invokevirtual 633, 3) := getB' kX11_look 39 rfl
theorem dX11_look_104 : decode cX11_look 104 = .ok (.goto 4, 3) := getB' kX11_look 40 rfl
theorem dX11_look_107 : decode cX11_look 107 = .ok (.iconst (-1), 1) := getB' kX11_look 41 rfl
theorem dX11_look_108 : decode cX11_look 108 = .ok (.ireturn, 1) := getB' kX11_look 42 rfl
def LX11_lookAtStation : List (Nat × Instr × Nat) := [(0, .iload_n 2, 1), (1, .tableswitch 51 6 9 #[31, 36, 41, 46], 31), (32, .aload_n 1, 1), (33, .getfield 183, 3), (36, .ireturn, 1), (37, .aload_n 1, 1), (38, .getfield 186, 3), (41, .ireturn, 1), (42, .aload_n 1, 1), (43, .getfield 421, 3), (46, .ireturn, 1), (47, .aload_n 1, 1), (48, .getfield 501, 3), (51, .ireturn, 1), (52, .iload_n 2, 1), (53, .bipush 10, 2), (55, .bipush 13, 2), (57, .invokestatic 112, 3), (60, .ifCond .eq 17, 3), (63, .aload_n 1, 1), (64, .getfield 491, 3), (67, .iload_n 2, 1), (68, .bipush 10, 2), (70, .isub, 1), (71, .invokestatic 253, 3), (74, .goto 4, 3), (77, .iconst (-1), 1), (78, .ireturn, 1)]
theorem kX11_lookAtStation : chkB cX11_lookAtStation LX11_lookAtStation = true := by decide +kernel
theorem dX11_lookAtStation_0 : decode cX11_lookAtStation 0 = .ok (.iload_n 2, 1) := getB' kX11_lookAtStation 0 rfl
theorem dX11_lookAtStation_1 : decode cX11_lookAtStation 1 = .ok (.tableswitch 51 6 9 #[31, 36, 41, 46], 31) := getB' kX11_lookAtStation 1 rfl
theorem dX11_lookAtStation_32 : decode cX11_lookAtStation 32 = .ok (.aload_n 1, 1) := getB' kX11_lookAtStation 2 rfl
theorem dX11_lookAtStation_33 : decode cX11_lookAtStation 33 = .ok (.getfield 183, 3) := getB' kX11_lookAtStation 3 rfl
theorem dX11_lookAtStation_36 : decode cX11_lookAtStation 36 = .ok (.ireturn, 1) := getB' kX11_lookAtStation 4 rfl
theorem dX11_lookAtStation_37 : decode cX11_lookAtStation 37 = .ok (.aload_n 1, 1) := getB' kX11_lookAtStation 5 rfl
theorem dX11_lookAtStation_38 : decode cX11_lookAtStation 38 = .ok (.getfield 186, 3) := getB' kX11_lookAtStation 6 rfl
theorem dX11_lookAtStation_41 : decode cX11_lookAtStation 41 = .ok (.ireturn, 1) := getB' kX11_lookAtStation 7 rfl
theorem dX11_lookAtStation_42 : decode cX11_lookAtStation 42 = .ok (.aload_n 1, 1) := getB' kX11_lookAtStation 8 rfl
theorem dX11_lookAtStation_43 : decode cX11_lookAtStation 43 = .ok (.getfield 421, 3) := getB' kX11_lookAtStation 9 rfl
theorem dX11_lookAtStation_46 : decode cX11_lookAtStation 46 = .ok (.ireturn, 1) := getB' kX11_lookAtStation 10 rfl
theorem dX11_lookAtStation_47 : decode cX11_lookAtStation 47 = .ok (.aload_n 1, 1) := getB' kX11_lookAtStation 11 rfl
theorem dX11_lookAtStation_48 : decode cX11_lookAtStation 48 = .ok (.getfield 501, 3) := getB' kX11_lookAtStation 12 rfl
theorem dX11_lookAtStation_51 : decode cX11_lookAtStation 51 = .ok (.ireturn, 1) := getB' kX11_lookAtStation 13 rfl
theorem dX11_lookAtStation_52 : decode cX11_lookAtStation 52 = .ok (.iload_n 2, 1) := getB' kX11_lookAtStation 14 rfl
theorem dX11_lookAtStation_53 : decode cX11_lookAtStation 53 = .ok (.bipush 10, 2) := getB' kX11_lookAtStation 15 rfl
theorem dX11_lookAtStation_55 : decode cX11_lookAtStation 55 = .ok (.bipush 13, 2) := getB' kX11_lookAtStation 16 rfl
theorem dX11_lookAtStation_57 : decode cX11_lookAtStation 57 = .ok (.invokestatic 112, 3) := getB' kX11_lookAtStation 17 rfl
theorem dX11_lookAtStation_60 : decode cX11_lookAtStation 60 = .ok (.ifCond .eq 17, 3) := getB' kX11_lookAtStation 18 rfl
theorem dX11_lookAtStation_63 : decode cX11_lookAtStation 63 = .ok (.aload_n 1, 1) := getB' kX11_lookAtStation 19 rfl
theorem dX11_lookAtStation_64 : decode cX11_lookAtStation 64 = .ok (.getfield 491, 3) := getB' kX11_lookAtStation 20 rfl
theorem dX11_lookAtStation_67 : decode cX11_lookAtStation 67 = .ok (.iload_n 2, 1) := getB' kX11_lookAtStation 21 rfl
theorem dX11_lookAtStation_68 : decode cX11_lookAtStation 68 = .ok (.bipush 10, 2) := getB' kX11_lookAtStation 22 rfl
theorem dX11_lookAtStation_70 : decode cX11_lookAtStation 70 = .ok (.isub, 1) := getB' kX11_lookAtStation 23 rfl
theorem dX11_lookAtStation_71 : decode cX11_lookAtStation 71 = .ok (.invokestatic 253, 3) := getB' kX11_lookAtStation 24 rfl
theorem dX11_lookAtStation_74 : decode cX11_lookAtStation 74 = .ok (.goto 4, 3) := getB' kX11_lookAtStation 25 rfl
theorem dX11_lookAtStation_77 : decode cX11_lookAtStation 77 = .ok (.iconst (-1), 1) := getB' kX11_lookAtStation 26 rfl
theorem dX11_lookAtStation_78 : decode cX11_lookAtStation 78 = .ok (.ireturn, 1) := getB' kX11_lookAtStation 27 rfl
def LX11_at : List (Nat × Instr × Nat) := [(0, .aload_n 0, 1), (1, .iload_n 1, 1), (2, .invokevirtual 403, 3), (5, .astore_n 3, 1), (6, .aload_n 3, 1), (7, .ifnonnull 5, 3), (10, .iconst (-1), 1), (11, .ireturn, 1), (12, .iload_n 2, 1), (13, .tableswitch 80 0 4 #[35, 40, 45, 50, 75], 35), (48, .aload_n 3, 1), (49, .getfield 410, 3), (52, .ireturn, 1), (53, .aload_n 3, 1), (54, .getfield 552, 3), (57, .ireturn, 1), (58, .aload_n 3, 1), (59, .getfield 553, 3), (62, .ireturn, 1), (63, .aload_n 3, 1), (64, .getfield 410, 3), (67, .iconst 1, 1), (68, .if_icmp .eq 11, 3), (71, .aload_n 3, 1), (72, .getfield 410, 3), (75, .iconst 3, 1), (76, .if_icmp .ne 10, 3), (79, .aload_n 3, 1), (80, .getfield 522, 3), (83, .goto 4, 3), (86, .iconst (-1), 1), (87, .ireturn, 1), (88, .aload_n 3, 1), (89, .getfield 546, 3), (92, .ireturn, 1), (93, .iconst (-1), 1), (94, .ireturn, 1)]
theorem kX11_at : chkB cX11_at LX11_at = true := by decide +kernel
theorem dX11_at_0 : decode cX11_at 0 = .ok (.aload_n 0, 1) := getB' kX11_at 0 rfl
theorem dX11_at_1 : decode cX11_at 1 = .ok (.iload_n 1, 1) := getB' kX11_at 1 rfl
theorem dX11_at_2 : decode cX11_at 2 = .ok (.invokevirtual 403, 3) := getB' kX11_at 2 rfl
theorem dX11_at_5 : decode cX11_at 5 = .ok (.astore_n 3, 1) := getB' kX11_at 3 rfl
theorem dX11_at_6 : decode cX11_at 6 = .ok (.aload_n 3, 1) := getB' kX11_at 4 rfl
theorem dX11_at_7 : decode cX11_at 7 = .ok (.ifnonnull 5, 3) := getB' kX11_at 5 rfl
theorem dX11_at_10 : decode cX11_at 10 = .ok (.iconst (-1), 1) := getB' kX11_at 6 rfl
theorem dX11_at_11 : decode cX11_at 11 = .ok (.ireturn, 1) := getB' kX11_at 7 rfl
theorem dX11_at_12 : decode cX11_at 12 = .ok (.iload_n 2, 1) := getB' kX11_at 8 rfl
theorem dX11_at_13 : decode cX11_at 13 = .ok (.tableswitch 80 0 4 #[35, 40, 45, 50, 75], 35) := getB' kX11_at 9 rfl
theorem dX11_at_48 : decode cX11_at 48 = .ok (.aload_n 3, 1) := getB' kX11_at 10 rfl
theorem dX11_at_49 : decode cX11_at 49 = .ok (.getfield 410, 3) := getB' kX11_at 11 rfl
theorem dX11_at_52 : decode cX11_at 52 = .ok (.ireturn, 1) := getB' kX11_at 12 rfl
theorem dX11_at_53 : decode cX11_at 53 = .ok (.aload_n 3, 1) := getB' kX11_at 13 rfl
theorem dX11_at_54 : decode cX11_at 54 = .ok (.getfield 552, 3) := getB' kX11_at 14 rfl
theorem dX11_at_57 : decode cX11_at 57 = .ok (.ireturn, 1) := getB' kX11_at 15 rfl
theorem dX11_at_58 : decode cX11_at 58 = .ok (.aload_n 3, 1) := getB' kX11_at 16 rfl
theorem dX11_at_59 : decode cX11_at 59 = .ok (.getfield 553, 3) := getB' kX11_at 17 rfl
theorem dX11_at_62 : decode cX11_at 62 = .ok (.ireturn, 1) := getB' kX11_at 18 rfl
theorem dX11_at_63 : decode cX11_at 63 = .ok (.aload_n 3, 1) := getB' kX11_at 19 rfl
theorem dX11_at_64 : decode cX11_at 64 = .ok (.getfield 410, 3) := getB' kX11_at 20 rfl
theorem dX11_at_67 : decode cX11_at 67 = .ok (.iconst 1, 1) := getB' kX11_at 21 rfl
theorem dX11_at_68 : decode cX11_at 68 = .ok (.if_icmp .eq 11, 3) := getB' kX11_at 22 rfl
theorem dX11_at_71 : decode cX11_at 71 = .ok (.aload_n 3, 1) := getB' kX11_at 23 rfl
theorem dX11_at_72 : decode cX11_at 72 = .ok (.getfield 410, 3) := getB' kX11_at 24 rfl
theorem dX11_at_75 : decode cX11_at 75 = .ok (.iconst 3, 1) := getB' kX11_at 25 rfl
theorem dX11_at_76 : decode cX11_at 76 = .ok (.if_icmp .ne 10, 3) := getB' kX11_at 26 rfl
theorem dX11_at_79 : decode cX11_at 79 = .ok (.aload_n 3, 1) := getB' kX11_at 27 rfl
theorem dX11_at_80 : decode cX11_at 80 = .ok (.getfield 522, 3) := getB' kX11_at 28 rfl
theorem dX11_at_83 : decode cX11_at 83 = .ok (.goto 4, 3) := getB' kX11_at 29 rfl
theorem dX11_at_86 : decode cX11_at 86 = .ok (.iconst (-1), 1) := getB' kX11_at 30 rfl
theorem dX11_at_87 : decode cX11_at 87 = .ok (.ireturn, 1) := getB' kX11_at 31 rfl
theorem dX11_at_88 : decode cX11_at 88 = .ok (.aload_n 3, 1) := getB' kX11_at 32 rfl
theorem dX11_at_89 : decode cX11_at 89 = .ok (.getfield 546, 3) := getB' kX11_at 33 rfl
theorem dX11_at_92 : decode cX11_at 92 = .ok (.ireturn, 1) := getB' kX11_at 34 rfl
theorem dX11_at_93 : decode cX11_at 93 = .ok (.iconst (-1), 1) := getB' kX11_at 35 rfl
theorem dX11_at_94 : decode cX11_at 94 = .ok (.ireturn, 1) := getB' kX11_at 36 rfl
def LX11_about : List (Nat × Instr × Nat) := [(0, .aload_n 0, 1), (1, .iload_n 1, 1), (2, .invokevirtual 309, 3), (5, .astore_n 3, 1), (6, .aload_n 3, 1), (7, .ifnonnull 5, 3), (10, .iconst (-1), 1), (11, .ireturn, 1), (12, .iload_n 2, 1), (13, .tableswitch 114 0 10 #[59, 64, 69, 74, 79, 84, 89, 94, 99, 104, 109], 59), (72, .aload_n 3, 1), (73, .getfield 375, 3), (76, .ireturn, 1), (77, .aload_n 3, 1), (78, .getfield 353, 3), (81, .ireturn, 1), (82, .aload_n 3, 1), (83, .getfield 378, 3), (86, .ireturn, 1), (87, .aload_n 3, 1), (88, .getfield 452, 3), (91, .ireturn, 1), (92, .aload_n 3, 1), (93, .getfield 455, 3), (96, .ireturn, 1), (97, .aload_n 3, 1), (98, .getfield 461, 3), (101, .ireturn, 1), (102, .aload_n 3, 1), (103, .getfield 458, 3), (106, .ireturn, 1), (107, .aload_n 3, 1), (108, .getfield 313, 3), (111, .ireturn, 1), (112, .aload_n 3, 1), (113, .getfield 316, 3), (116, .ireturn, 1), (117, .aload_n 3, 1), (118, .getfield 319, 3), (121, .ireturn, 1), (122, .aload_n 3, 1), (123, .getfield 322, 3), (126, .ireturn, 1), (127, .iconst (-1), 1), (128, .ireturn, 1)]
theorem kX11_about : chkB cX11_about LX11_about = true := by decide +kernel
theorem dX11_about_0 : decode cX11_about 0 = .ok (.aload_n 0, 1) := getB' kX11_about 0 rfl
theorem dX11_about_1 : decode cX11_about 1 = .ok (.iload_n 1, 1) := getB' kX11_about 1 rfl
theorem dX11_about_2 : decode cX11_about 2 = .ok (.invokevirtual 309, 3) := getB' kX11_about 2 rfl
theorem dX11_about_5 : decode cX11_about 5 = .ok (.astore_n 3, 1) := getB' kX11_about 3 rfl
theorem dX11_about_6 : decode cX11_about 6 = .ok (.aload_n 3, 1) := getB' kX11_about 4 rfl
theorem dX11_about_7 : decode cX11_about 7 = .ok (.ifnonnull 5, 3) := getB' kX11_about 5 rfl
theorem dX11_about_10 : decode cX11_about 10 = .ok (.iconst (-1), 1) := getB' kX11_about 6 rfl
theorem dX11_about_11 : decode cX11_about 11 = .ok (.ireturn, 1) := getB' kX11_about 7 rfl
theorem dX11_about_12 : decode cX11_about 12 = .ok (.iload_n 2, 1) := getB' kX11_about 8 rfl
theorem dX11_about_13 : decode cX11_about 13 = .ok (.tableswitch 114 0 10 #[59, 64, 69, 74, 79, 84, 89, 94, 99, 104, 109], 59) := getB' kX11_about 9 rfl
theorem dX11_about_72 : decode cX11_about 72 = .ok (.aload_n 3, 1) := getB' kX11_about 10 rfl
theorem dX11_about_73 : decode cX11_about 73 = .ok (.getfield 375, 3) := getB' kX11_about 11 rfl
theorem dX11_about_76 : decode cX11_about 76 = .ok (.ireturn, 1) := getB' kX11_about 12 rfl
theorem dX11_about_77 : decode cX11_about 77 = .ok (.aload_n 3, 1) := getB' kX11_about 13 rfl
theorem dX11_about_78 : decode cX11_about 78 = .ok (.getfield 353, 3) := getB' kX11_about 14 rfl
theorem dX11_about_81 : decode cX11_about 81 = .ok (.ireturn, 1) := getB' kX11_about 15 rfl
theorem dX11_about_82 : decode cX11_about 82 = .ok (.aload_n 3, 1) := getB' kX11_about 16 rfl
theorem dX11_about_83 : decode cX11_about 83 = .ok (.getfield 378, 3) := getB' kX11_about 17 rfl
theorem dX11_about_86 : decode cX11_about 86 = .ok (.ireturn, 1) := getB' kX11_about 18 rfl
theorem dX11_about_87 : decode cX11_about 87 = .ok (.aload_n 3, 1) := getB' kX11_about 19 rfl
theorem dX11_about_88 : decode cX11_about 88 = .ok (.getfield 452, 3) := getB' kX11_about 20 rfl
theorem dX11_about_91 : decode cX11_about 91 = .ok (.ireturn, 1) := getB' kX11_about 21 rfl
theorem dX11_about_92 : decode cX11_about 92 = .ok (.aload_n 3, 1) := getB' kX11_about 22 rfl
theorem dX11_about_93 : decode cX11_about 93 = .ok (.getfield 455, 3) := getB' kX11_about 23 rfl
theorem dX11_about_96 : decode cX11_about 96 = .ok (.ireturn, 1) := getB' kX11_about 24 rfl
theorem dX11_about_97 : decode cX11_about 97 = .ok (.aload_n 3, 1) := getB' kX11_about 25 rfl
theorem dX11_about_98 : decode cX11_about 98 = .ok (.getfield 461, 3) := getB' kX11_about 26 rfl
theorem dX11_about_101 : decode cX11_about 101 = .ok (.ireturn, 1) := getB' kX11_about 27 rfl
theorem dX11_about_102 : decode cX11_about 102 = .ok (.aload_n 3, 1) := getB' kX11_about 28 rfl
theorem dX11_about_103 : decode cX11_about 103 = .ok (.getfield 458, 3) := getB' kX11_about 29 rfl
theorem dX11_about_106 : decode cX11_about 106 = .ok (.ireturn, 1) := getB' kX11_about 30 rfl
theorem dX11_about_107 : decode cX11_about 107 = .ok (.aload_n 3, 1) := getB' kX11_about 31 rfl
theorem dX11_about_108 : decode cX11_about 108 = .ok (.getfield 313, 3) := getB' kX11_about 32 rfl
theorem dX11_about_111 : decode cX11_about 111 = .ok (.ireturn, 1) := getB' kX11_about 33 rfl
theorem dX11_about_112 : decode cX11_about 112 = .ok (.aload_n 3, 1) := getB' kX11_about 34 rfl
theorem dX11_about_113 : decode cX11_about 113 = .ok (.getfield 316, 3) := getB' kX11_about 35 rfl
theorem dX11_about_116 : decode cX11_about 116 = .ok (.ireturn, 1) := getB' kX11_about 36 rfl
theorem dX11_about_117 : decode cX11_about 117 = .ok (.aload_n 3, 1) := getB' kX11_about 37 rfl
theorem dX11_about_118 : decode cX11_about 118 = .ok (.getfield 319, 3) := getB' kX11_about 38 rfl
theorem dX11_about_121 : decode cX11_about 121 = .ok (.ireturn, 1) := getB' kX11_about 39 rfl
theorem dX11_about_122 : decode cX11_about 122 = .ok (.aload_n 3, 1) := getB' kX11_about 40 rfl
theorem dX11_about_123 : decode cX11_about 123 = .ok (.getfield 322, 3) := getB' kX11_about 41 rfl
theorem dX11_about_126 : decode cX11_about 126 = .ok (.ireturn, 1) := getB' kX11_about 42 rfl
theorem dX11_about_127 : decode cX11_about 127 = .ok (.iconst (-1), 1) := getB' kX11_about 43 rfl
theorem dX11_about_128 : decode cX11_about 128 = .ok (.ireturn, 1) := getB' kX11_about 44 rfl
def LX11_sum : List (Nat × Instr × Nat) := [(0, .iload_n 1, 1), (1, .ifCond .lt 19, 3), (4, .iload_n 1, 1), (5, .aload_n 0, 1), (6, .getfield 98, 3), (9, .arraylength, 1), (10, .if_icmp .ge 10, 3), (13, .aload_n 0, 1), (14, .getfield 98, 3), (17, .iload_n 1, 1), (18, .laload, 1), (19, .lreturn, 1), (20, .iload_n 1, 1), (21, .bipush 10, 2), (23, .bipush 18, 2), (25, .invokestatic 112, 3), (28, .ifCond .eq 28, 3), (31, .aload_n 0, 1), (32, .iload_n 1, 1), (33, .bipush 10, 2), (35, .isub, 1), (36, .invokevirtual 151, 3), (39, .astore_n 2, 1), (40, .aload_n 2, 1), (41, .ifnonnull 9, 3), (44, .ldc2_w 637, 3), (47, .goto 8, 3), (50, .aload_n 2, 1), (51, .getfield 464, 3), (54, .i2l, 1), (55, .lreturn, 1), (56, .iload_n 1, 1), (57, .bipush 20, 2), (59, .if_icmp .lt 33, 3), (62, .aload_n 0, 1), (63, .getfield 79, 3), (66, .iload_n 1, 1), (67, .bipush 20, 2), (69, .isub, 1), (70, .invokevirtual 431, 3), (73, .ifCond .eq 19, 3), (76, .aload_n 0, 1), (77, .getfield 79, 3), (80, .iload_n 1, 1), (81, .bipush 20, 2), (83, .isub, 1), (84, .iconst 2, 1), (85, .invokevirtual 209, 3), (88, .i2l, 1), (89, .goto 6, 3), (92, .ldc2_w 637, 3), (95, .lreturn, 1)]
theorem kX11_sum : chkB cX11_sum LX11_sum = true := by decide +kernel
theorem dX11_sum_0 : decode cX11_sum 0 = .ok (.iload_n 1, 1) := getB' kX11_sum 0 rfl
theorem dX11_sum_1 : decode cX11_sum 1 = .ok (.ifCond .lt 19, 3) := getB' kX11_sum 1 rfl
theorem dX11_sum_4 : decode cX11_sum 4 = .ok (.iload_n 1, 1) := getB' kX11_sum 2 rfl
theorem dX11_sum_5 : decode cX11_sum 5 = .ok (.aload_n 0, 1) := getB' kX11_sum 3 rfl
theorem dX11_sum_6 : decode cX11_sum 6 = .ok (.getfield 98, 3) := getB' kX11_sum 4 rfl
theorem dX11_sum_9 : decode cX11_sum 9 = .ok (.arraylength, 1) := getB' kX11_sum 5 rfl
theorem dX11_sum_10 : decode cX11_sum 10 = .ok (.if_icmp .ge 10, 3) := getB' kX11_sum 6 rfl
theorem dX11_sum_13 : decode cX11_sum 13 = .ok (.aload_n 0, 1) := getB' kX11_sum 7 rfl
theorem dX11_sum_14 : decode cX11_sum 14 = .ok (.getfield 98, 3) := getB' kX11_sum 8 rfl
theorem dX11_sum_17 : decode cX11_sum 17 = .ok (.iload_n 1, 1) := getB' kX11_sum 9 rfl
theorem dX11_sum_18 : decode cX11_sum 18 = .ok (.laload, 1) := getB' kX11_sum 10 rfl
theorem dX11_sum_19 : decode cX11_sum 19 = .ok (.lreturn, 1) := getB' kX11_sum 11 rfl
theorem dX11_sum_20 : decode cX11_sum 20 = .ok (.iload_n 1, 1) := getB' kX11_sum 12 rfl
theorem dX11_sum_21 : decode cX11_sum 21 = .ok (.bipush 10, 2) := getB' kX11_sum 13 rfl
theorem dX11_sum_23 : decode cX11_sum 23 = .ok (.bipush 18, 2) := getB' kX11_sum 14 rfl
theorem dX11_sum_25 : decode cX11_sum 25 = .ok (.invokestatic 112, 3) := getB' kX11_sum 15 rfl
theorem dX11_sum_28 : decode cX11_sum 28 = .ok (.ifCond .eq 28, 3) := getB' kX11_sum 16 rfl
theorem dX11_sum_31 : decode cX11_sum 31 = .ok (.aload_n 0, 1) := getB' kX11_sum 17 rfl
theorem dX11_sum_32 : decode cX11_sum 32 = .ok (.iload_n 1, 1) := getB' kX11_sum 18 rfl
theorem dX11_sum_33 : decode cX11_sum 33 = .ok (.bipush 10, 2) := getB' kX11_sum 19 rfl
theorem dX11_sum_35 : decode cX11_sum 35 = .ok (.isub, 1) := getB' kX11_sum 20 rfl
theorem dX11_sum_36 : decode cX11_sum 36 = .ok (.invokevirtual 151, 3) := getB' kX11_sum 21 rfl
theorem dX11_sum_39 : decode cX11_sum 39 = .ok (.astore_n 2, 1) := getB' kX11_sum 22 rfl
theorem dX11_sum_40 : decode cX11_sum 40 = .ok (.aload_n 2, 1) := getB' kX11_sum 23 rfl
theorem dX11_sum_41 : decode cX11_sum 41 = .ok (.ifnonnull 9, 3) := getB' kX11_sum 24 rfl
theorem dX11_sum_44 : decode cX11_sum 44 = .ok (.ldc2_w 637, 3) := getB' kX11_sum 25 rfl
theorem dX11_sum_47 : decode cX11_sum 47 = .ok (.goto 8, 3) := getB' kX11_sum 26 rfl
theorem dX11_sum_50 : decode cX11_sum 50 = .ok (.aload_n 2, 1) := getB' kX11_sum 27 rfl
theorem dX11_sum_51 : decode cX11_sum 51 = .ok (.getfield 464, 3) := getB' kX11_sum 28 rfl
theorem dX11_sum_54 : decode cX11_sum 54 = .ok (.i2l, 1) := getB' kX11_sum 29 rfl
theorem dX11_sum_55 : decode cX11_sum 55 = .ok (.lreturn, 1) := getB' kX11_sum 30 rfl
theorem dX11_sum_56 : decode cX11_sum 56 = .ok (.iload_n 1, 1) := getB' kX11_sum 31 rfl
theorem dX11_sum_57 : decode cX11_sum 57 = .ok (.bipush 20, 2) := getB' kX11_sum 32 rfl
theorem dX11_sum_59 : decode cX11_sum 59 = .ok (.if_icmp .lt 33, 3) := getB' kX11_sum 33 rfl
theorem dX11_sum_62 : decode cX11_sum 62 = .ok (.aload_n 0, 1) := getB' kX11_sum 34 rfl
theorem dX11_sum_63 : decode cX11_sum 63 = .ok (.getfield 79, 3) := getB' kX11_sum 35 rfl
theorem dX11_sum_66 : decode cX11_sum 66 = .ok (.iload_n 1, 1) := getB' kX11_sum 36 rfl
theorem dX11_sum_67 : decode cX11_sum 67 = .ok (.bipush 20, 2) := getB' kX11_sum 37 rfl
theorem dX11_sum_69 : decode cX11_sum 69 = .ok (.isub, 1) := getB' kX11_sum 38 rfl
theorem dX11_sum_70 : decode cX11_sum 70 = .ok (.invokevirtual 431, 3) := getB' kX11_sum 39 rfl
theorem dX11_sum_73 : decode cX11_sum 73 = .ok (.ifCond .eq 19, 3) := getB' kX11_sum 40 rfl
theorem dX11_sum_76 : decode cX11_sum 76 = .ok (.aload_n 0, 1) := getB' kX11_sum 41 rfl
theorem dX11_sum_77 : decode cX11_sum 77 = .ok (.getfield 79, 3) := getB' kX11_sum 42 rfl
theorem dX11_sum_80 : decode cX11_sum 80 = .ok (.iload_n 1, 1) := getB' kX11_sum 43 rfl
theorem dX11_sum_81 : decode cX11_sum 81 = .ok (.bipush 20, 2) := getB' kX11_sum 44 rfl
theorem dX11_sum_83 : decode cX11_sum 83 = .ok (.isub, 1) := getB' kX11_sum 45 rfl
theorem dX11_sum_84 : decode cX11_sum 84 = .ok (.iconst 2, 1) := getB' kX11_sum 46 rfl
theorem dX11_sum_85 : decode cX11_sum 85 = .ok (.invokevirtual 209, 3) := getB' kX11_sum 47 rfl
theorem dX11_sum_88 : decode cX11_sum 88 = .ok (.i2l, 1) := getB' kX11_sum 48 rfl
theorem dX11_sum_89 : decode cX11_sum 89 = .ok (.goto 6, 3) := getB' kX11_sum 49 rfl
theorem dX11_sum_92 : decode cX11_sum 92 = .ok (.ldc2_w 637, 3) := getB' kX11_sum 50 rfl
theorem dX11_sum_95 : decode cX11_sum 95 = .ok (.lreturn, 1) := getB' kX11_sum 51 rfl
def LX11_count : List (Nat × Instr × Nat) := [(0, .iload_n 1, 1), (1, .tableswitch 210 0 16 #[83, 91, 99, 107, 112, 117, 125, 136, 141, 146, 151, 159, 167, 175, 183, 194, 202], 83), (84, .aload_n 0, 1), (85, .getfield 12, 3), (88, .getfield 145, 3), (91, .ireturn, 1), (92, .aload_n 0, 1), (93, .getfield 12, 3), (96, .getfield 639, 3), (99, .ireturn, 1), (100, .aload_n 0, 1), (101, .getfield 12, 3), (104, .getfield 642, 3), (107, .ireturn, 1), (108, .aload_n 0, 1), (109, .getfield 36, 3), (112, .ireturn, 1), (113, .aload_n 0, 1), (114, .getfield 46, 3), (117, .ireturn, 1), (118, .aload_n 0, 1), (119, .getfield 19, 3), (122, .getfield 216, 3), (125, .ireturn, 1), (126, .aload_n 0, 1), (127, .getfield 19, 3), (130, .getfield 262, 3), (133, .getfield 199, 3), (136, .ireturn, 1), (137, .aload_n 0, 1), (138, .getfield 55, 3), (141, .ireturn, 1), (142, .aload_n 0, 1), (143, .getfield 64, 3), (146, .ireturn, 1), (147, .aload_n 0, 1), (148, .invokevirtual 644, 3), (151, .ireturn, 1), (152, .aload_n 0, 1), (153, .getfield 76, 3), (156, .getfield 199, 3), (159, .ireturn, 1), (160, .aload_n 0, 1), (161, .getfield 79, 3), (164, .getfield 199, 3), (167, .ireturn, 1), (168, .aload_n 0, 1), (169, .getfield 82, 3), (172, .getfield 199, 3), (175, .ireturn, 1), (176, .aload_n 0, 1), (177, .getfield 88, 3), (180, .getfield 199, 3), (183, .ireturn, 1), (184, .aload_n 0, 1), (185, .getfield 26, 3), (188, .getfield 593, 3), (191, .getfield 199, 3), (194, .ireturn, 1), (195, .aload_n 0, 1), (196, .getfield 85, 3), (199, .getfield 199, 3), (202, .ireturn, 1), (203, .aload_n 0, 1), (204, .getfield 91, 3), (207, .getfield 199, 3), (210, .ireturn, 1), (211, .aload_n 0, 1), (212, .iload_n 1, 1), (213, .invokevirtual 647, 3), (216, .ireturn, 1)]
theorem kX11_count : chkB cX11_count LX11_count = true := by decide +kernel
theorem dX11_count_0 : decode cX11_count 0 = .ok (.iload_n 1, 1) := getB' kX11_count 0 rfl
theorem dX11_count_1 : decode cX11_count 1 = .ok (.tableswitch 210 0 16 #[83, 91, 99, 107, 112, 117, 125, 136, 141, 146, 151, 159, 167, 175, 183, 194, 202], 83) := getB' kX11_count 1 rfl
theorem dX11_count_84 : decode cX11_count 84 = .ok (.aload_n 0, 1) := getB' kX11_count 2 rfl
theorem dX11_count_85 : decode cX11_count 85 = .ok (.getfield 12, 3) := getB' kX11_count 3 rfl
theorem dX11_count_88 : decode cX11_count 88 = .ok (.getfield 145, 3) := getB' kX11_count 4 rfl
theorem dX11_count_91 : decode cX11_count 91 = .ok (.ireturn, 1) := getB' kX11_count 5 rfl
theorem dX11_count_92 : decode cX11_count 92 = .ok (.aload_n 0, 1) := getB' kX11_count 6 rfl
theorem dX11_count_93 : decode cX11_count 93 = .ok (.getfield 12, 3) := getB' kX11_count 7 rfl
theorem dX11_count_96 : decode cX11_count 96 = .ok (.getfield 639, 3) := getB' kX11_count 8 rfl
theorem dX11_count_99 : decode cX11_count 99 = .ok (.ireturn, 1) := getB' kX11_count 9 rfl
theorem dX11_count_100 : decode cX11_count 100 = .ok (.aload_n 0, 1) := getB' kX11_count 10 rfl
theorem dX11_count_101 : decode cX11_count 101 = .ok (.getfield 12, 3) := getB' kX11_count 11 rfl
theorem dX11_count_104 : decode cX11_count 104 = .ok (.getfield 642, 3) := getB' kX11_count 12 rfl
theorem dX11_count_107 : decode cX11_count 107 = .ok (.ireturn, 1) := getB' kX11_count 13 rfl
theorem dX11_count_108 : decode cX11_count 108 = .ok (.aload_n 0, 1) := getB' kX11_count 14 rfl
theorem dX11_count_109 : decode cX11_count 109 = .ok (.getfield 36, 3) := getB' kX11_count 15 rfl
theorem dX11_count_112 : decode cX11_count 112 = .ok (.ireturn, 1) := getB' kX11_count 16 rfl
theorem dX11_count_113 : decode cX11_count 113 = .ok (.aload_n 0, 1) := getB' kX11_count 17 rfl
theorem dX11_count_114 : decode cX11_count 114 = .ok (.getfield 46, 3) := getB' kX11_count 18 rfl
theorem dX11_count_117 : decode cX11_count 117 = .ok (.ireturn, 1) := getB' kX11_count 19 rfl
theorem dX11_count_118 : decode cX11_count 118 = .ok (.aload_n 0, 1) := getB' kX11_count 20 rfl
theorem dX11_count_119 : decode cX11_count 119 = .ok (.getfield 19, 3) := getB' kX11_count 21 rfl
theorem dX11_count_122 : decode cX11_count 122 = .ok (.getfield 216, 3) := getB' kX11_count 22 rfl
theorem dX11_count_125 : decode cX11_count 125 = .ok (.ireturn, 1) := getB' kX11_count 23 rfl
theorem dX11_count_126 : decode cX11_count 126 = .ok (.aload_n 0, 1) := getB' kX11_count 24 rfl
theorem dX11_count_127 : decode cX11_count 127 = .ok (.getfield 19, 3) := getB' kX11_count 25 rfl
theorem dX11_count_130 : decode cX11_count 130 = .ok (.getfield 262, 3) := getB' kX11_count 26 rfl
theorem dX11_count_133 : decode cX11_count 133 = .ok (.getfield 199, 3) := getB' kX11_count 27 rfl
theorem dX11_count_136 : decode cX11_count 136 = .ok (.ireturn, 1) := getB' kX11_count 28 rfl
theorem dX11_count_137 : decode cX11_count 137 = .ok (.aload_n 0, 1) := getB' kX11_count 29 rfl
theorem dX11_count_138 : decode cX11_count 138 = .ok (.getfield 55, 3) := getB' kX11_count 30 rfl
theorem dX11_count_141 : decode cX11_count 141 = .ok (.ireturn, 1) := getB' kX11_count 31 rfl
theorem dX11_count_142 : decode cX11_count 142 = .ok (.aload_n 0, 1) := getB' kX11_count 32 rfl
theorem dX11_count_143 : decode cX11_count 143 = .ok (.getfield 64, 3) := getB' kX11_count 33 rfl
theorem dX11_count_146 : decode cX11_count 146 = .ok (.ireturn, 1) := getB' kX11_count 34 rfl
theorem dX11_count_147 : decode cX11_count 147 = .ok (.aload_n 0, 1) := getB' kX11_count 35 rfl
theorem dX11_count_148 : decode cX11_count 148 = .ok (.invokevirtual 644, 3) := getB' kX11_count 36 rfl
theorem dX11_count_151 : decode cX11_count 151 = .ok (.ireturn, 1) := getB' kX11_count 37 rfl
theorem dX11_count_152 : decode cX11_count 152 = .ok (.aload_n 0, 1) := getB' kX11_count 38 rfl
theorem dX11_count_153 : decode cX11_count 153 = .ok (.getfield 76, 3) := getB' kX11_count 39 rfl
theorem dX11_count_156 : decode cX11_count 156 = .ok (.getfield 199, 3) := getB' kX11_count 40 rfl
theorem dX11_count_159 : decode cX11_count 159 = .ok (.ireturn, 1) := getB' kX11_count 41 rfl
theorem dX11_count_160 : decode cX11_count 160 = .ok (.aload_n 0, 1) := getB' kX11_count 42 rfl
theorem dX11_count_161 : decode cX11_count 161 = .ok (.getfield 79, 3) := getB' kX11_count 43 rfl
theorem dX11_count_164 : decode cX11_count 164 = .ok (.getfield 199, 3) := getB' kX11_count 44 rfl
theorem dX11_count_167 : decode cX11_count 167 = .ok (.ireturn, 1) := getB' kX11_count 45 rfl
theorem dX11_count_168 : decode cX11_count 168 = .ok (.aload_n 0, 1) := getB' kX11_count 46 rfl
theorem dX11_count_169 : decode cX11_count 169 = .ok (.getfield 82, 3) := getB' kX11_count 47 rfl
theorem dX11_count_172 : decode cX11_count 172 = .ok (.getfield 199, 3) := getB' kX11_count 48 rfl
theorem dX11_count_175 : decode cX11_count 175 = .ok (.ireturn, 1) := getB' kX11_count 49 rfl
theorem dX11_count_176 : decode cX11_count 176 = .ok (.aload_n 0, 1) := getB' kX11_count 50 rfl
theorem dX11_count_177 : decode cX11_count 177 = .ok (.getfield 88, 3) := getB' kX11_count 51 rfl
theorem dX11_count_180 : decode cX11_count 180 = .ok (.getfield 199, 3) := getB' kX11_count 52 rfl
theorem dX11_count_183 : decode cX11_count 183 = .ok (.ireturn, 1) := getB' kX11_count 53 rfl
theorem dX11_count_184 : decode cX11_count 184 = .ok (.aload_n 0, 1) := getB' kX11_count 54 rfl
theorem dX11_count_185 : decode cX11_count 185 = .ok (.getfield 26, 3) := getB' kX11_count 55 rfl
theorem dX11_count_188 : decode cX11_count 188 = .ok (.getfield 593, 3) := getB' kX11_count 56 rfl
theorem dX11_count_191 : decode cX11_count 191 = .ok (.getfield 199, 3) := getB' kX11_count 57 rfl
theorem dX11_count_194 : decode cX11_count 194 = .ok (.ireturn, 1) := getB' kX11_count 58 rfl
theorem dX11_count_195 : decode cX11_count 195 = .ok (.aload_n 0, 1) := getB' kX11_count 59 rfl
theorem dX11_count_196 : decode cX11_count 196 = .ok (.getfield 85, 3) := getB' kX11_count 60 rfl
theorem dX11_count_199 : decode cX11_count 199 = .ok (.getfield 199, 3) := getB' kX11_count 61 rfl
theorem dX11_count_202 : decode cX11_count 202 = .ok (.ireturn, 1) := getB' kX11_count 62 rfl
theorem dX11_count_203 : decode cX11_count 203 = .ok (.aload_n 0, 1) := getB' kX11_count 63 rfl
theorem dX11_count_204 : decode cX11_count 204 = .ok (.getfield 91, 3) := getB' kX11_count 64 rfl
theorem dX11_count_207 : decode cX11_count 207 = .ok (.getfield 199, 3) := getB' kX11_count 65 rfl
theorem dX11_count_210 : decode cX11_count 210 = .ok (.ireturn, 1) := getB' kX11_count 66 rfl
theorem dX11_count_211 : decode cX11_count 211 = .ok (.aload_n 0, 1) := getB' kX11_count 67 rfl
theorem dX11_count_212 : decode cX11_count 212 = .ok (.iload_n 1, 1) := getB' kX11_count 68 rfl
theorem dX11_count_213 : decode cX11_count 213 = .ok (.invokevirtual 647, 3) := getB' kX11_count 69 rfl
theorem dX11_count_216 : decode cX11_count 216 = .ok (.ireturn, 1) := getB' kX11_count 70 rfl
def LX11_decidesFrom : List (Nat × Instr × Nat) := [(0, .iload_n 1, 1), (1, .bipush 20, 2), (3, .bipush 28, 2), (5, .invokestatic 112, 3), (8, .ifCond .eq 14, 3), (11, .aload_n 0, 1), (12, .iload_n 1, 1), (13, .bipush 20, 2), (15, .isub, 1), (16, .invokevirtual 151, 3), (19, .goto 4, 3), (22, .aconst_null, 1), (23, .astore_n 2, 1), (24, .aload_n 2, 1), (25, .ifnonnull 7, 3), (28, .iconst (-1), 1), (29, .goto 7, 3), (32, .aload_n 2, 1), (33, .getfield 341, 3), (36, .ireturn, 1)]
theorem kX11_decidesFrom : chkB cX11_decidesFrom LX11_decidesFrom = true := by decide +kernel
theorem dX11_decidesFrom_0 : decode cX11_decidesFrom 0 = .ok (.iload_n 1, 1) := getB' kX11_decidesFrom 0 rfl
theorem dX11_decidesFrom_1 : decode cX11_decidesFrom 1 = .ok (.bipush 20, 2) := getB' kX11_decidesFrom 1 rfl
theorem dX11_decidesFrom_3 : decode cX11_decidesFrom 3 = .ok (.bipush 28, 2) := getB' kX11_decidesFrom 2 rfl
theorem dX11_decidesFrom_5 : decode cX11_decidesFrom 5 = .ok (.invokestatic 112, 3) := getB' kX11_decidesFrom 3 rfl
theorem dX11_decidesFrom_8 : decode cX11_decidesFrom 8 = .ok (.ifCond .eq 14, 3) := getB' kX11_decidesFrom 4 rfl
theorem dX11_decidesFrom_11 : decode cX11_decidesFrom 11 = .ok (.aload_n 0, 1) := getB' kX11_decidesFrom 5 rfl
theorem dX11_decidesFrom_12 : decode cX11_decidesFrom 12 = .ok (.iload_n 1, 1) := getB' kX11_decidesFrom 6 rfl
theorem dX11_decidesFrom_13 : decode cX11_decidesFrom 13 = .ok (.bipush 20, 2) := getB' kX11_decidesFrom 7 rfl
theorem dX11_decidesFrom_15 : decode cX11_decidesFrom 15 = .ok (.isub, 1) := getB' kX11_decidesFrom 8 rfl
theorem dX11_decidesFrom_16 : decode cX11_decidesFrom 16 = .ok (.invokevirtual 151, 3) := getB' kX11_decidesFrom 9 rfl
theorem dX11_decidesFrom_19 : decode cX11_decidesFrom 19 = .ok (.goto 4, 3) := getB' kX11_decidesFrom 10 rfl
theorem dX11_decidesFrom_22 : decode cX11_decidesFrom 22 = .ok (.aconst_null, 1) := getB' kX11_decidesFrom 11 rfl
theorem dX11_decidesFrom_23 : decode cX11_decidesFrom 23 = .ok (.astore_n 2, 1) := getB' kX11_decidesFrom 12 rfl
theorem dX11_decidesFrom_24 : decode cX11_decidesFrom 24 = .ok (.aload_n 2, 1) := getB' kX11_decidesFrom 13 rfl
theorem dX11_decidesFrom_25 : decode cX11_decidesFrom 25 = .ok (.ifnonnull 7, 3) := getB' kX11_decidesFrom 14 rfl
theorem dX11_decidesFrom_28 : decode cX11_decidesFrom 28 = .ok (.iconst (-1), 1) := getB' kX11_decidesFrom 15 rfl
theorem dX11_decidesFrom_29 : decode cX11_decidesFrom 29 = .ok (.goto 7, 3) := getB' kX11_decidesFrom 16 rfl
theorem dX11_decidesFrom_32 : decode cX11_decidesFrom 32 = .ok (.aload_n 2, 1) := getB' kX11_decidesFrom 17 rfl
theorem dX11_decidesFrom_33 : decode cX11_decidesFrom 33 = .ok (.getfield 341, 3) := getB' kX11_decidesFrom 18 rfl
theorem dX11_decidesFrom_36 : decode cX11_decidesFrom 36 = .ok (.ireturn, 1) := getB' kX11_decidesFrom 19 rfl
def LX11_sledgesOnWay : List (Nat × Instr × Nat) := [(0, .iconst 0, 1), (1, .istore_n 1, 1), (2, .iconst 0, 1), (3, .istore_n 2, 1), (4, .iload_n 2, 1), (5, .aload_n 0, 1), (6, .getfield 72, 3), (9, .getfield 199, 3), (12, .if_icmp .ge 21, 3), (15, .iload_n 1, 1), (16, .aload_n 0, 1), (17, .getfield 72, 3), (20, .iload_n 2, 1), (21, .iconst 4, 1), (22, .invokevirtual 209, 3), (25, .iadd, 1), (26, .istore_n 1, 1), (27, .iinc 2 1, 3), (30, .goto (-26), 3), (33, .iload_n 1, 1), (34, .ireturn, 1)]
theorem kX11_sledgesOnWay : chkB cX11_sledgesOnWay LX11_sledgesOnWay = true := by decide +kernel
theorem dX11_sledgesOnWay_0 : decode cX11_sledgesOnWay 0 = .ok (.iconst 0, 1) := getB' kX11_sledgesOnWay 0 rfl
theorem dX11_sledgesOnWay_1 : decode cX11_sledgesOnWay 1 = .ok (.istore_n 1, 1) := getB' kX11_sledgesOnWay 1 rfl
theorem dX11_sledgesOnWay_2 : decode cX11_sledgesOnWay 2 = .ok (.iconst 0, 1) := getB' kX11_sledgesOnWay 2 rfl
theorem dX11_sledgesOnWay_3 : decode cX11_sledgesOnWay 3 = .ok (.istore_n 2, 1) := getB' kX11_sledgesOnWay 3 rfl
theorem dX11_sledgesOnWay_4 : decode cX11_sledgesOnWay 4 = .ok (.iload_n 2, 1) := getB' kX11_sledgesOnWay 4 rfl
theorem dX11_sledgesOnWay_5 : decode cX11_sledgesOnWay 5 = .ok (.aload_n 0, 1) := getB' kX11_sledgesOnWay 5 rfl
theorem dX11_sledgesOnWay_6 : decode cX11_sledgesOnWay 6 = .ok (.getfield 72, 3) := getB' kX11_sledgesOnWay 6 rfl
theorem dX11_sledgesOnWay_9 : decode cX11_sledgesOnWay 9 = .ok (.getfield 199, 3) := getB' kX11_sledgesOnWay 7 rfl
theorem dX11_sledgesOnWay_12 : decode cX11_sledgesOnWay 12 = .ok (.if_icmp .ge 21, 3) := getB' kX11_sledgesOnWay 8 rfl
theorem dX11_sledgesOnWay_15 : decode cX11_sledgesOnWay 15 = .ok (.iload_n 1, 1) := getB' kX11_sledgesOnWay 9 rfl
theorem dX11_sledgesOnWay_16 : decode cX11_sledgesOnWay 16 = .ok (.aload_n 0, 1) := getB' kX11_sledgesOnWay 10 rfl
theorem dX11_sledgesOnWay_17 : decode cX11_sledgesOnWay 17 = .ok (.getfield 72, 3) := getB' kX11_sledgesOnWay 11 rfl
theorem dX11_sledgesOnWay_20 : decode cX11_sledgesOnWay 20 = .ok (.iload_n 2, 1) := getB' kX11_sledgesOnWay 12 rfl
theorem dX11_sledgesOnWay_21 : decode cX11_sledgesOnWay 21 = .ok (.iconst 4, 1) := getB' kX11_sledgesOnWay 13 rfl
theorem dX11_sledgesOnWay_22 : decode cX11_sledgesOnWay 22 = .ok (.invokevirtual 209, 3) := getB' kX11_sledgesOnWay 14 rfl
theorem dX11_sledgesOnWay_25 : decode cX11_sledgesOnWay 25 = .ok (.iadd, 1) := getB' kX11_sledgesOnWay 15 rfl
theorem dX11_sledgesOnWay_26 : decode cX11_sledgesOnWay 26 = .ok (.istore_n 1, 1) := getB' kX11_sledgesOnWay 16 rfl
theorem dX11_sledgesOnWay_27 : decode cX11_sledgesOnWay 27 = .ok (.iinc 2 1, 3) := getB' kX11_sledgesOnWay 17 rfl
theorem dX11_sledgesOnWay_30 : decode cX11_sledgesOnWay 30 = .ok (.goto (-26), 3) := getB' kX11_sledgesOnWay 18 rfl
theorem dX11_sledgesOnWay_33 : decode cX11_sledgesOnWay 33 = .ok (.iload_n 1, 1) := getB' kX11_sledgesOnWay 19 rfl
theorem dX11_sledgesOnWay_34 : decode cX11_sledgesOnWay 34 = .ok (.ireturn, 1) := getB' kX11_sledgesOnWay 20 rfl
def LX11_partyOf : List (Nat × Instr × Nat) := [(0, .iload_n 1, 1), (1, .ifCond .lt 29, 3), (4, .iload_n 1, 1), (5, .aload_n 0, 1), (6, .getfield 36, 3), (9, .if_icmp .ge 21, 3), (12, .iload_n 1, 1), (13, .aload_n 0, 1), (14, .getfield 32, 3), (17, .arraylength, 1), (18, .if_icmp .ge 12, 3), (21, .aload_n 0, 1), (22, .getfield 32, 3), (25, .iload_n 1, 1), (26, .aaload, 1), (27, .goto 4, 3), (30, .aconst_null, 1), (31, .areturn, 1)]
theorem kX11_partyOf : chkB cX11_partyOf LX11_partyOf = true := by decide +kernel
theorem dX11_partyOf_0 : decode cX11_partyOf 0 = .ok (.iload_n 1, 1) := getB' kX11_partyOf 0 rfl
theorem dX11_partyOf_1 : decode cX11_partyOf 1 = .ok (.ifCond .lt 29, 3) := getB' kX11_partyOf 1 rfl
theorem dX11_partyOf_4 : decode cX11_partyOf 4 = .ok (.iload_n 1, 1) := getB' kX11_partyOf 2 rfl
theorem dX11_partyOf_5 : decode cX11_partyOf 5 = .ok (.aload_n 0, 1) := getB' kX11_partyOf 3 rfl
theorem dX11_partyOf_6 : decode cX11_partyOf 6 = .ok (.getfield 36, 3) := getB' kX11_partyOf 4 rfl
theorem dX11_partyOf_9 : decode cX11_partyOf 9 = .ok (.if_icmp .ge 21, 3) := getB' kX11_partyOf 5 rfl
theorem dX11_partyOf_12 : decode cX11_partyOf 12 = .ok (.iload_n 1, 1) := getB' kX11_partyOf 6 rfl
theorem dX11_partyOf_13 : decode cX11_partyOf 13 = .ok (.aload_n 0, 1) := getB' kX11_partyOf 7 rfl
theorem dX11_partyOf_14 : decode cX11_partyOf 14 = .ok (.getfield 32, 3) := getB' kX11_partyOf 8 rfl
theorem dX11_partyOf_17 : decode cX11_partyOf 17 = .ok (.arraylength, 1) := getB' kX11_partyOf 9 rfl
theorem dX11_partyOf_18 : decode cX11_partyOf 18 = .ok (.if_icmp .ge 12, 3) := getB' kX11_partyOf 10 rfl
theorem dX11_partyOf_21 : decode cX11_partyOf 21 = .ok (.aload_n 0, 1) := getB' kX11_partyOf 11 rfl
theorem dX11_partyOf_22 : decode cX11_partyOf 22 = .ok (.getfield 32, 3) := getB' kX11_partyOf 12 rfl
theorem dX11_partyOf_25 : decode cX11_partyOf 25 = .ok (.iload_n 1, 1) := getB' kX11_partyOf 13 rfl
theorem dX11_partyOf_26 : decode cX11_partyOf 26 = .ok (.aaload, 1) := getB' kX11_partyOf 14 rfl
theorem dX11_partyOf_27 : decode cX11_partyOf 27 = .ok (.goto 4, 3) := getB' kX11_partyOf 15 rfl
theorem dX11_partyOf_30 : decode cX11_partyOf 30 = .ok (.aconst_null, 1) := getB' kX11_partyOf 16 rfl
theorem dX11_partyOf_31 : decode cX11_partyOf 31 = .ok (.areturn, 1) := getB' kX11_partyOf 17 rfl
def LX11_anyPlace : List (Nat × Instr × Nat) := [(0, .iload_n 1, 1), (1, .ifCond .lt 29, 3), (4, .iload_n 1, 1), (5, .aload_n 0, 1), (6, .getfield 46, 3), (9, .if_icmp .ge 21, 3), (12, .iload_n 1, 1), (13, .aload_n 0, 1), (14, .getfield 42, 3), (17, .arraylength, 1), (18, .if_icmp .ge 12, 3), (21, .aload_n 0, 1), (22, .getfield 42, 3), (25, .iload_n 1, 1), (26, .aaload, 1), (27, .goto 4, 3), (30, .aconst_null, 1), (31, .areturn, 1)]
theorem kX11_anyPlace : chkB cX11_anyPlace LX11_anyPlace = true := by decide +kernel
theorem dX11_anyPlace_0 : decode cX11_anyPlace 0 = .ok (.iload_n 1, 1) := getB' kX11_anyPlace 0 rfl
theorem dX11_anyPlace_1 : decode cX11_anyPlace 1 = .ok (.ifCond .lt 29, 3) := getB' kX11_anyPlace 1 rfl
theorem dX11_anyPlace_4 : decode cX11_anyPlace 4 = .ok (.iload_n 1, 1) := getB' kX11_anyPlace 2 rfl
theorem dX11_anyPlace_5 : decode cX11_anyPlace 5 = .ok (.aload_n 0, 1) := getB' kX11_anyPlace 3 rfl
theorem dX11_anyPlace_6 : decode cX11_anyPlace 6 = .ok (.getfield 46, 3) := getB' kX11_anyPlace 4 rfl
theorem dX11_anyPlace_9 : decode cX11_anyPlace 9 = .ok (.if_icmp .ge 21, 3) := getB' kX11_anyPlace 5 rfl
theorem dX11_anyPlace_12 : decode cX11_anyPlace 12 = .ok (.iload_n 1, 1) := getB' kX11_anyPlace 6 rfl
theorem dX11_anyPlace_13 : decode cX11_anyPlace 13 = .ok (.aload_n 0, 1) := getB' kX11_anyPlace 7 rfl
theorem dX11_anyPlace_14 : decode cX11_anyPlace 14 = .ok (.getfield 42, 3) := getB' kX11_anyPlace 8 rfl
theorem dX11_anyPlace_17 : decode cX11_anyPlace 17 = .ok (.arraylength, 1) := getB' kX11_anyPlace 9 rfl
theorem dX11_anyPlace_18 : decode cX11_anyPlace 18 = .ok (.if_icmp .ge 12, 3) := getB' kX11_anyPlace 10 rfl
theorem dX11_anyPlace_21 : decode cX11_anyPlace 21 = .ok (.aload_n 0, 1) := getB' kX11_anyPlace 11 rfl
theorem dX11_anyPlace_22 : decode cX11_anyPlace 22 = .ok (.getfield 42, 3) := getB' kX11_anyPlace 12 rfl
theorem dX11_anyPlace_25 : decode cX11_anyPlace 25 = .ok (.iload_n 1, 1) := getB' kX11_anyPlace 13 rfl
theorem dX11_anyPlace_26 : decode cX11_anyPlace 26 = .ok (.aaload, 1) := getB' kX11_anyPlace 14 rfl
theorem dX11_anyPlace_27 : decode cX11_anyPlace 27 = .ok (.goto 4, 3) := getB' kX11_anyPlace 15 rfl
theorem dX11_anyPlace_30 : decode cX11_anyPlace 30 = .ok (.aconst_null, 1) := getB' kX11_anyPlace 16 rfl
theorem dX11_anyPlace_31 : decode cX11_anyPlace 31 = .ok (.areturn, 1) := getB' kX11_anyPlace 17 rfl
def LX11_placeOf : List (Nat × Instr × Nat) := [(0, .aload_n 0, 1), (1, .iload_n 1, 1), (2, .invokevirtual 384, 3), (5, .astore_n 3, 1), (6, .aload_n 3, 1), (7, .ifnull 15, 3), (10, .aload_n 3, 1), (11, .getfield 387, 3), (14, .iload_n 2, 1), (15, .if_icmp .ne 7, 3), (18, .aload_n 3, 1), (19, .goto 4, 3), (22, .aconst_null, 1), (23, .areturn, 1)]
theorem kX11_placeOf : chkB cX11_placeOf LX11_placeOf = true := by decide +kernel
theorem dX11_placeOf_0 : decode cX11_placeOf 0 = .ok (.aload_n 0, 1) := getB' kX11_placeOf 0 rfl
theorem dX11_placeOf_1 : decode cX11_placeOf 1 = .ok (.iload_n 1, 1) := getB' kX11_placeOf 1 rfl
theorem dX11_placeOf_2 : decode cX11_placeOf 2 = .ok (.invokevirtual 384, 3) := getB' kX11_placeOf 2 rfl
theorem dX11_placeOf_5 : decode cX11_placeOf 5 = .ok (.astore_n 3, 1) := getB' kX11_placeOf 3 rfl
theorem dX11_placeOf_6 : decode cX11_placeOf 6 = .ok (.aload_n 3, 1) := getB' kX11_placeOf 4 rfl
theorem dX11_placeOf_7 : decode cX11_placeOf 7 = .ok (.ifnull 15, 3) := getB' kX11_placeOf 5 rfl
theorem dX11_placeOf_10 : decode cX11_placeOf 10 = .ok (.aload_n 3, 1) := getB' kX11_placeOf 6 rfl
theorem dX11_placeOf_11 : decode cX11_placeOf 11 = .ok (.getfield 387, 3) := getB' kX11_placeOf 7 rfl
theorem dX11_placeOf_14 : decode cX11_placeOf 14 = .ok (.iload_n 2, 1) := getB' kX11_placeOf 8 rfl
theorem dX11_placeOf_15 : decode cX11_placeOf 15 = .ok (.if_icmp .ne 7, 3) := getB' kX11_placeOf 9 rfl
theorem dX11_placeOf_18 : decode cX11_placeOf 18 = .ok (.aload_n 3, 1) := getB' kX11_placeOf 10 rfl
theorem dX11_placeOf_19 : decode cX11_placeOf 19 = .ok (.goto 4, 3) := getB' kX11_placeOf 11 rfl
theorem dX11_placeOf_22 : decode cX11_placeOf 22 = .ok (.aconst_null, 1) := getB' kX11_placeOf 12 rfl
theorem dX11_placeOf_23 : decode cX11_placeOf 23 = .ok (.areturn, 1) := getB' kX11_placeOf 13 rfl
def LX11_standingStation : List (Nat × Instr × Nat) := [(0, .aload_n 0, 1), (1, .iload_n 1, 1), (2, .iconst 1, 1), (3, .invokevirtual 169, 3), (6, .astore_n 2, 1), (7, .aload_n 2, 1), (8, .ifnull 14, 3), (11, .aload_n 2, 1), (12, .getfield 511, 3), (15, .ifCond .ne 7, 3), (18, .aload_n 2, 1), (19, .goto 4, 3), (22, .aconst_null, 1), (23, .areturn, 1)]
theorem kX11_standingStation : chkB cX11_standingStation LX11_standingStation = true := by decide +kernel
theorem dX11_standingStation_0 : decode cX11_standingStation 0 = .ok (.aload_n 0, 1) := getB' kX11_standingStation 0 rfl
theorem dX11_standingStation_1 : decode cX11_standingStation 1 = .ok (.iload_n 1, 1) := getB' kX11_standingStation 1 rfl
theorem dX11_standingStation_2 : decode cX11_standingStation 2 = .ok (.iconst 1, 1) := getB' kX11_standingStation 2 rfl
theorem dX11_standingStation_3 : decode cX11_standingStation 3 = .ok (.invokevirtual 169, 3) := getB' kX11_standingStation 3 rfl
theorem dX11_standingStation_6 : decode cX11_standingStation 6 = .ok (.astore_n 2, 1) := getB' kX11_standingStation 4 rfl
theorem dX11_standingStation_7 : decode cX11_standingStation 7 = .ok (.aload_n 2, 1) := getB' kX11_standingStation 5 rfl
theorem dX11_standingStation_8 : decode cX11_standingStation 8 = .ok (.ifnull 14, 3) := getB' kX11_standingStation 6 rfl
theorem dX11_standingStation_11 : decode cX11_standingStation 11 = .ok (.aload_n 2, 1) := getB' kX11_standingStation 7 rfl
theorem dX11_standingStation_12 : decode cX11_standingStation 12 = .ok (.getfield 511, 3) := getB' kX11_standingStation 8 rfl
theorem dX11_standingStation_15 : decode cX11_standingStation 15 = .ok (.ifCond .ne 7, 3) := getB' kX11_standingStation 9 rfl
theorem dX11_standingStation_18 : decode cX11_standingStation 18 = .ok (.aload_n 2, 1) := getB' kX11_standingStation 10 rfl
theorem dX11_standingStation_19 : decode cX11_standingStation 19 = .ok (.goto 4, 3) := getB' kX11_standingStation 11 rfl
theorem dX11_standingStation_22 : decode cX11_standingStation 22 = .ok (.aconst_null, 1) := getB' kX11_standingStation 12 rfl
theorem dX11_standingStation_23 : decode cX11_standingStation 23 = .ok (.areturn, 1) := getB' kX11_standingStation 13 rfl
def LX11_workOf : List (Nat × Instr × Nat) := [(0, .iload_n 1, 1), (1, .ifCond .lt 29, 3), (4, .iload_n 1, 1), (5, .aload_n 0, 1), (6, .getfield 55, 3), (9, .if_icmp .ge 21, 3), (12, .iload_n 1, 1), (13, .aload_n 0, 1), (14, .getfield 51, 3), (17, .arraylength, 1), (18, .if_icmp .ge 12, 3), (21, .aload_n 0, 1), (22, .getfield 51, 3), (25, .iload_n 1, 1), (26, .aaload, 1), (27, .goto 4, 3), (30, .aconst_null, 1), (31, .areturn, 1)]
theorem kX11_workOf : chkB cX11_workOf LX11_workOf = true := by decide +kernel
theorem dX11_workOf_0 : decode cX11_workOf 0 = .ok (.iload_n 1, 1) := getB' kX11_workOf 0 rfl
theorem dX11_workOf_1 : decode cX11_workOf 1 = .ok (.ifCond .lt 29, 3) := getB' kX11_workOf 1 rfl
theorem dX11_workOf_4 : decode cX11_workOf 4 = .ok (.iload_n 1, 1) := getB' kX11_workOf 2 rfl
theorem dX11_workOf_5 : decode cX11_workOf 5 = .ok (.aload_n 0, 1) := getB' kX11_workOf 3 rfl
theorem dX11_workOf_6 : decode cX11_workOf 6 = .ok (.getfield 55, 3) := getB' kX11_workOf 4 rfl
theorem dX11_workOf_9 : decode cX11_workOf 9 = .ok (.if_icmp .ge 21, 3) := getB' kX11_workOf 5 rfl
theorem dX11_workOf_12 : decode cX11_workOf 12 = .ok (.iload_n 1, 1) := getB' kX11_workOf 6 rfl
theorem dX11_workOf_13 : decode cX11_workOf 13 = .ok (.aload_n 0, 1) := getB' kX11_workOf 7 rfl
theorem dX11_workOf_14 : decode cX11_workOf 14 = .ok (.getfield 51, 3) := getB' kX11_workOf 8 rfl
theorem dX11_workOf_17 : decode cX11_workOf 17 = .ok (.arraylength, 1) := getB' kX11_workOf 9 rfl
theorem dX11_workOf_18 : decode cX11_workOf 18 = .ok (.if_icmp .ge 12, 3) := getB' kX11_workOf 10 rfl
theorem dX11_workOf_21 : decode cX11_workOf 21 = .ok (.aload_n 0, 1) := getB' kX11_workOf 11 rfl
theorem dX11_workOf_22 : decode cX11_workOf 22 = .ok (.getfield 51, 3) := getB' kX11_workOf 12 rfl
theorem dX11_workOf_25 : decode cX11_workOf 25 = .ok (.iload_n 1, 1) := getB' kX11_workOf 13 rfl
theorem dX11_workOf_26 : decode cX11_workOf 26 = .ok (.aaload, 1) := getB' kX11_workOf 14 rfl
theorem dX11_workOf_27 : decode cX11_workOf 27 = .ok (.goto 4, 3) := getB' kX11_workOf 15 rfl
theorem dX11_workOf_30 : decode cX11_workOf 30 = .ok (.aconst_null, 1) := getB' kX11_workOf 16 rfl
theorem dX11_workOf_31 : decode cX11_workOf 31 = .ok (.areturn, 1) := getB' kX11_workOf 17 rfl
def LX11_shipOf : List (Nat × Instr × Nat) := [(0, .iload_n 1, 1), (1, .ifCond .lt 29, 3), (4, .iload_n 1, 1), (5, .aload_n 0, 1), (6, .getfield 64, 3), (9, .if_icmp .ge 21, 3), (12, .iload_n 1, 1), (13, .aload_n 0, 1), (14, .getfield 60, 3), (17, .arraylength, 1), (18, .if_icmp .ge 12, 3), (21, .aload_n 0, 1), (22, .getfield 60, 3), (25, .iload_n 1, 1), (26, .aaload, 1), (27, .goto 4, 3), (30, .aconst_null, 1), (31, .areturn, 1)]
theorem kX11_shipOf : chkB cX11_shipOf LX11_shipOf = true := by decide +kernel
theorem dX11_shipOf_0 : decode cX11_shipOf 0 = .ok (.iload_n 1, 1) := getB' kX11_shipOf 0 rfl
theorem dX11_shipOf_1 : decode cX11_shipOf 1 = .ok (.ifCond .lt 29, 3) := getB' kX11_shipOf 1 rfl
theorem dX11_shipOf_4 : decode cX11_shipOf 4 = .ok (.iload_n 1, 1) := getB' kX11_shipOf 2 rfl
theorem dX11_shipOf_5 : decode cX11_shipOf 5 = .ok (.aload_n 0, 1) := getB' kX11_shipOf 3 rfl
theorem dX11_shipOf_6 : decode cX11_shipOf 6 = .ok (.getfield 64, 3) := getB' kX11_shipOf 4 rfl
theorem dX11_shipOf_9 : decode cX11_shipOf 9 = .ok (.if_icmp .ge 21, 3) := getB' kX11_shipOf 5 rfl
theorem dX11_shipOf_12 : decode cX11_shipOf 12 = .ok (.iload_n 1, 1) := getB' kX11_shipOf 6 rfl
theorem dX11_shipOf_13 : decode cX11_shipOf 13 = .ok (.aload_n 0, 1) := getB' kX11_shipOf 7 rfl
theorem dX11_shipOf_14 : decode cX11_shipOf 14 = .ok (.getfield 60, 3) := getB' kX11_shipOf 8 rfl
theorem dX11_shipOf_17 : decode cX11_shipOf 17 = .ok (.arraylength, 1) := getB' kX11_shipOf 9 rfl
theorem dX11_shipOf_18 : decode cX11_shipOf 18 = .ok (.if_icmp .ge 12, 3) := getB' kX11_shipOf 10 rfl
theorem dX11_shipOf_21 : decode cX11_shipOf 21 = .ok (.aload_n 0, 1) := getB' kX11_shipOf 11 rfl
theorem dX11_shipOf_22 : decode cX11_shipOf 22 = .ok (.getfield 60, 3) := getB' kX11_shipOf 12 rfl
theorem dX11_shipOf_25 : decode cX11_shipOf 25 = .ok (.iload_n 1, 1) := getB' kX11_shipOf 13 rfl
theorem dX11_shipOf_26 : decode cX11_shipOf 26 = .ok (.aaload, 1) := getB' kX11_shipOf 14 rfl
theorem dX11_shipOf_27 : decode cX11_shipOf 27 = .ok (.goto 4, 3) := getB' kX11_shipOf 15 rfl
theorem dX11_shipOf_30 : decode cX11_shipOf 30 = .ok (.aconst_null, 1) := getB' kX11_shipOf 16 rfl
theorem dX11_shipOf_31 : decode cX11_shipOf 31 = .ok (.areturn, 1) := getB' kX11_shipOf 17 rfl
def LX11_tally : List (Nat × Instr × Nat) := [(0, .iload_n 1, 1), (1, .ifCond .lt 23, 3), (4, .iload_n 1, 1), (5, .aload_n 0, 1), (6, .getfield 98, 3), (9, .arraylength, 1), (10, .if_icmp .ge 14, 3), (13, .aload_n 0, 1), (14, .getfield 98, 3), (17, .iload_n 1, 1), (18, .dup2, 1), (19, .laload, 1), (20, .iload_n 2, 1), (21, .i2l, 1), (22, .ladd, 1), (23, .lastore, 1), (24, .return_, 1)]
theorem kX11_tally : chkB cX11_tally LX11_tally = true := by decide +kernel
theorem dX11_tally_0 : decode cX11_tally 0 = .ok (.iload_n 1, 1) := getB' kX11_tally 0 rfl
theorem dX11_tally_1 : decode cX11_tally 1 = .ok (.ifCond .lt 23, 3) := getB' kX11_tally 1 rfl
theorem dX11_tally_4 : decode cX11_tally 4 = .ok (.iload_n 1, 1) := getB' kX11_tally 2 rfl
theorem dX11_tally_5 : decode cX11_tally 5 = .ok (.aload_n 0, 1) := getB' kX11_tally 3 rfl
theorem dX11_tally_6 : decode cX11_tally 6 = .ok (.getfield 98, 3) := getB' kX11_tally 4 rfl
theorem dX11_tally_9 : decode cX11_tally 9 = .ok (.arraylength, 1) := getB' kX11_tally 5 rfl
theorem dX11_tally_10 : decode cX11_tally 10 = .ok (.if_icmp .ge 14, 3) := getB' kX11_tally 6 rfl
theorem dX11_tally_13 : decode cX11_tally 13 = .ok (.aload_n 0, 1) := getB' kX11_tally 7 rfl
theorem dX11_tally_14 : decode cX11_tally 14 = .ok (.getfield 98, 3) := getB' kX11_tally 8 rfl
theorem dX11_tally_17 : decode cX11_tally 17 = .ok (.iload_n 1, 1) := getB' kX11_tally 9 rfl
theorem dX11_tally_18 : decode cX11_tally 18 = .ok (.dup2, 1) := getB' kX11_tally 10 rfl
theorem dX11_tally_19 : decode cX11_tally 19 = .ok (.laload, 1) := getB' kX11_tally 11 rfl
theorem dX11_tally_20 : decode cX11_tally 20 = .ok (.iload_n 2, 1) := getB' kX11_tally 12 rfl
theorem dX11_tally_21 : decode cX11_tally 21 = .ok (.i2l, 1) := getB' kX11_tally 13 rfl
theorem dX11_tally_22 : decode cX11_tally 22 = .ok (.ladd, 1) := getB' kX11_tally 14 rfl
theorem dX11_tally_23 : decode cX11_tally 23 = .ok (.lastore, 1) := getB' kX11_tally 15 rfl
theorem dX11_tally_24 : decode cX11_tally 24 = .ok (.return_, 1) := getB' kX11_tally 16 rfl
def LX11_between : List (Nat × Instr × Nat) := [(0, .iload_n 0, 1), (1, .iload_n 1, 1), (2, .if_icmp .lt 12, 3), (5, .iload_n 0, 1), (6, .iload_n 2, 1), (7, .if_icmp .gt 7, 3), (10, .iconst 1, 1), (11, .goto 4, 3), (14, .iconst 0, 1), (15, .ireturn, 1)]
theorem kX11_between : chkB cX11_between LX11_between = true := by decide +kernel
theorem dX11_between_0 : decode cX11_between 0 = .ok (.iload_n 0, 1) := getB' kX11_between 0 rfl
theorem dX11_between_1 : decode cX11_between 1 = .ok (.iload_n 1, 1) := getB' kX11_between 1 rfl
theorem dX11_between_2 : decode cX11_between 2 = .ok (.if_icmp .lt 12, 3) := getB' kX11_between 2 rfl
theorem dX11_between_5 : decode cX11_between 5 = .ok (.iload_n 0, 1) := getB' kX11_between 3 rfl
theorem dX11_between_6 : decode cX11_between 6 = .ok (.iload_n 2, 1) := getB' kX11_between 4 rfl
theorem dX11_between_7 : decode cX11_between 7 = .ok (.if_icmp .gt 7, 3) := getB' kX11_between 5 rfl
theorem dX11_between_10 : decode cX11_between 10 = .ok (.iconst 1, 1) := getB' kX11_between 6 rfl
theorem dX11_between_11 : decode cX11_between 11 = .ok (.goto 4, 3) := getB' kX11_between 7 rfl
theorem dX11_between_14 : decode cX11_between 14 = .ok (.iconst 0, 1) := getB' kX11_between 8 rfl
theorem dX11_between_15 : decode cX11_between 15 = .ok (.ireturn, 1) := getB' kX11_between 9 rfl
def LX11_isDay : List (Nat × Instr × Nat) := [(0, .iload_n 0, 1), (1, .iconst 0, 1), (2, .sipush 3599, 3), (5, .invokestatic 112, 3), (8, .ireturn, 1)]
theorem kX11_isDay : chkB cX11_isDay LX11_isDay = true := by decide +kernel
theorem dX11_isDay_0 : decode cX11_isDay 0 = .ok (.iload_n 0, 1) := getB' kX11_isDay 0 rfl
theorem dX11_isDay_1 : decode cX11_isDay 1 = .ok (.iconst 0, 1) := getB' kX11_isDay 1 rfl
theorem dX11_isDay_2 : decode cX11_isDay 2 = .ok (.sipush 3599, 3) := getB' kX11_isDay 2 rfl
theorem dX11_isDay_5 : decode cX11_isDay 5 = .ok (.invokestatic 112, 3) := getB' kX11_isDay 3 rfl
theorem dX11_isDay_8 : decode cX11_isDay 8 = .ok (.ireturn, 1) := getB' kX11_isDay 4 rfl
def LX11_areDays : List (Nat × Instr × Nat) := [(0, .iload_n 0, 1), (1, .ifCond .lt 19, 3), (4, .iload_n 0, 1), (5, .iload_n 1, 1), (6, .if_icmp .gt 14, 3), (9, .iload_n 1, 1), (10, .sipush 3600, 3), (13, .if_icmp .ge 7, 3), (16, .iconst 1, 1), (17, .goto 4, 3), (20, .iconst 0, 1), (21, .ireturn, 1)]
theorem kX11_areDays : chkB cX11_areDays LX11_areDays = true := by decide +kernel
theorem dX11_areDays_0 : decode cX11_areDays 0 = .ok (.iload_n 0, 1) := getB' kX11_areDays 0 rfl
theorem dX11_areDays_1 : decode cX11_areDays 1 = .ok (.ifCond .lt 19, 3) := getB' kX11_areDays 1 rfl
theorem dX11_areDays_4 : decode cX11_areDays 4 = .ok (.iload_n 0, 1) := getB' kX11_areDays 2 rfl
theorem dX11_areDays_5 : decode cX11_areDays 5 = .ok (.iload_n 1, 1) := getB' kX11_areDays 3 rfl
theorem dX11_areDays_6 : decode cX11_areDays 6 = .ok (.if_icmp .gt 14, 3) := getB' kX11_areDays 4 rfl
theorem dX11_areDays_9 : decode cX11_areDays 9 = .ok (.iload_n 1, 1) := getB' kX11_areDays 5 rfl
theorem dX11_areDays_10 : decode cX11_areDays 10 = .ok (.sipush 3600, 3) := getB' kX11_areDays 6 rfl
theorem dX11_areDays_13 : decode cX11_areDays 13 = .ok (.if_icmp .ge 7, 3) := getB' kX11_areDays 7 rfl
theorem dX11_areDays_16 : decode cX11_areDays 16 = .ok (.iconst 1, 1) := getB' kX11_areDays 8 rfl
theorem dX11_areDays_17 : decode cX11_areDays 17 = .ok (.goto 4, 3) := getB' kX11_areDays 9 rfl
theorem dX11_areDays_20 : decode cX11_areDays 20 = .ok (.iconst 0, 1) := getB' kX11_areDays 10 rfl
theorem dX11_areDays_21 : decode cX11_areDays 21 = .ok (.ireturn, 1) := getB' kX11_areDays 11 rfl
def LX11_areYearDays : List (Nat × Instr × Nat) := [(0, .iload_n 0, 1), (1, .ifCond .lt 19, 3), (4, .iload_n 0, 1), (5, .iload_n 1, 1), (6, .if_icmp .gt 14, 3), (9, .iload_n 1, 1), (10, .sipush 360, 3), (13, .if_icmp .ge 7, 3), (16, .iconst 1, 1), (17, .goto 4, 3), (20, .iconst 0, 1), (21, .ireturn, 1)]
theorem kX11_areYearDays : chkB cX11_areYearDays LX11_areYearDays = true := by decide +kernel
theorem dX11_areYearDays_0 : decode cX11_areYearDays 0 = .ok (.iload_n 0, 1) := getB' kX11_areYearDays 0 rfl
theorem dX11_areYearDays_1 : decode cX11_areYearDays 1 = .ok (.ifCond .lt 19, 3) := getB' kX11_areYearDays 1 rfl
theorem dX11_areYearDays_4 : decode cX11_areYearDays 4 = .ok (.iload_n 0, 1) := getB' kX11_areYearDays 2 rfl
theorem dX11_areYearDays_5 : decode cX11_areYearDays 5 = .ok (.iload_n 1, 1) := getB' kX11_areYearDays 3 rfl
theorem dX11_areYearDays_6 : decode cX11_areYearDays 6 = .ok (.if_icmp .gt 14, 3) := getB' kX11_areYearDays 4 rfl
theorem dX11_areYearDays_9 : decode cX11_areYearDays 9 = .ok (.iload_n 1, 1) := getB' kX11_areYearDays 5 rfl
theorem dX11_areYearDays_10 : decode cX11_areYearDays 10 = .ok (.sipush 360, 3) := getB' kX11_areYearDays 6 rfl
theorem dX11_areYearDays_13 : decode cX11_areYearDays 13 = .ok (.if_icmp .ge 7, 3) := getB' kX11_areYearDays 7 rfl
theorem dX11_areYearDays_16 : decode cX11_areYearDays 16 = .ok (.iconst 1, 1) := getB' kX11_areYearDays 8 rfl
theorem dX11_areYearDays_17 : decode cX11_areYearDays 17 = .ok (.goto 4, 3) := getB' kX11_areYearDays 9 rfl
theorem dX11_areYearDays_20 : decode cX11_areYearDays 20 = .ok (.iconst 0, 1) := getB' kX11_areYearDays 10 rfl
theorem dX11_areYearDays_21 : decode cX11_areYearDays 21 = .ok (.ireturn, 1) := getB' kX11_areYearDays 11 rfl
def LX11_isYear : List (Nat × Instr × Nat) := [(0, .iload_n 0, 1), (1, .iconst 0, 1), (2, .bipush 9, 2), (4, .invokestatic 112, 3), (7, .ireturn, 1)]
theorem kX11_isYear : chkB cX11_isYear LX11_isYear = true := by decide +kernel
theorem dX11_isYear_0 : decode cX11_isYear 0 = .ok (.iload_n 0, 1) := getB' kX11_isYear 0 rfl
theorem dX11_isYear_1 : decode cX11_isYear 1 = .ok (.iconst 0, 1) := getB' kX11_isYear 1 rfl
theorem dX11_isYear_2 : decode cX11_isYear 2 = .ok (.bipush 9, 2) := getB' kX11_isYear 2 rfl
theorem dX11_isYear_4 : decode cX11_isYear 4 = .ok (.invokestatic 112, 3) := getB' kX11_isYear 3 rfl
theorem dX11_isYear_7 : decode cX11_isYear 7 = .ok (.ireturn, 1) := getB' kX11_isYear 4 rfl
def LX11_isSea : List (Nat × Instr × Nat) := [(0, .iload_n 0, 1), (1, .iconst 0, 1), (2, .iconst 3, 1), (3, .invokestatic 112, 3), (6, .ireturn, 1)]
theorem kX11_isSea : chkB cX11_isSea LX11_isSea = true := by decide +kernel
theorem dX11_isSea_0 : decode cX11_isSea 0 = .ok (.iload_n 0, 1) := getB' kX11_isSea 0 rfl
theorem dX11_isSea_1 : decode cX11_isSea 1 = .ok (.iconst 0, 1) := getB' kX11_isSea 1 rfl
theorem dX11_isSea_2 : decode cX11_isSea 2 = .ok (.iconst 3, 1) := getB' kX11_isSea 2 rfl
theorem dX11_isSea_3 : decode cX11_isSea 3 = .ok (.invokestatic 112, 3) := getB' kX11_isSea 3 rfl
theorem dX11_isSea_6 : decode cX11_isSea 6 = .ok (.ireturn, 1) := getB' kX11_isSea 4 rfl
def LX12_in : List (Nat × Instr × Nat) := [(0, .iload_n 0, 1), (1, .iload_n 1, 1), (2, .if_icmp .lt 12, 3), (5, .iload_n 0, 1), (6, .iload_n 2, 1), (7, .if_icmp .gt 7, 3), (10, .iconst 1, 1), (11, .goto 4, 3), (14, .iconst 0, 1), (15, .ireturn, 1)]
theorem kX12_in : chkB cX12_in LX12_in = true := by decide +kernel
theorem dX12_in_0 : decode cX12_in 0 = .ok (.iload_n 0, 1) := getB' kX12_in 0 rfl
theorem dX12_in_1 : decode cX12_in 1 = .ok (.iload_n 1, 1) := getB' kX12_in 1 rfl
theorem dX12_in_2 : decode cX12_in 2 = .ok (.if_icmp .lt 12, 3) := getB' kX12_in 2 rfl
theorem dX12_in_5 : decode cX12_in 5 = .ok (.iload_n 0, 1) := getB' kX12_in 3 rfl
theorem dX12_in_6 : decode cX12_in 6 = .ok (.iload_n 2, 1) := getB' kX12_in 4 rfl
theorem dX12_in_7 : decode cX12_in 7 = .ok (.if_icmp .gt 7, 3) := getB' kX12_in 5 rfl
theorem dX12_in_10 : decode cX12_in 10 = .ok (.iconst 1, 1) := getB' kX12_in 6 rfl
theorem dX12_in_11 : decode cX12_in 11 = .ok (.goto 4, 3) := getB' kX12_in 7 rfl
theorem dX12_in_14 : decode cX12_in 14 = .ok (.iconst 0, 1) := getB' kX12_in 8 rfl
theorem dX12_in_15 : decode cX12_in 15 = .ok (.ireturn, 1) := getB' kX12_in 9 rfl
def LX12_size : List (Nat × Instr × Nat) := [(0, .iload_n 0, 1), (1, .ifCond .ge 8, 3), (4, .iload_n 0, 1), (5, .ineg, 1), (6, .goto 4, 3), (9, .iload_n 0, 1), (10, .ireturn, 1)]
theorem kX12_size : chkB cX12_size LX12_size = true := by decide +kernel
theorem dX12_size_0 : decode cX12_size 0 = .ok (.iload_n 0, 1) := getB' kX12_size 0 rfl
theorem dX12_size_1 : decode cX12_size 1 = .ok (.ifCond .ge 8, 3) := getB' kX12_size 1 rfl
theorem dX12_size_4 : decode cX12_size 4 = .ok (.iload_n 0, 1) := getB' kX12_size 2 rfl
theorem dX12_size_5 : decode cX12_size 5 = .ok (.ineg, 1) := getB' kX12_size 3 rfl
theorem dX12_size_6 : decode cX12_size 6 = .ok (.goto 4, 3) := getB' kX12_size 4 rfl
theorem dX12_size_9 : decode cX12_size 9 = .ok (.iload_n 0, 1) := getB' kX12_size 5 rfl
theorem dX12_size_10 : decode cX12_size 10 = .ok (.ireturn, 1) := getB' kX12_size 6 rfl
def LX12_begins : List (Nat × Instr × Nat) := [(0, .aload_n 0, 1), (1, .iload_n 1, 1), (2, .putfield 365, 3), (5, .aload_n 0, 1), (6, .iload_n 2, 1), (7, .putfield 368, 3), (10, .iconst 0, 1), (11, .istore_n 3, 1), (12, .iload_n 3, 1), (13, .sipush 144, 3), (16, .if_icmp .ge 37, 3), (19, .aload_n 0, 1), (20, .getfield 16, 3), (23, .iload_n 3, 1), (24, .iconst 0, 1), (25, .iastore, 1), (26, .aload_n 0, 1), (27, .getfield 20, 3), (30, .iload_n 3, 1), (31, .iconst 0, 1), (32, .iastore, 1), (33, .aload_n 0, 1), (34, .getfield 23, 3), (37, .iload_n 3, 1), (38, .iconst (-1), 1), (39, .iastore, 1), (40, .aload_n 0, 1), (41, .getfield 26, 3), (44, .iload_n 3, 1), (45, .iconst 0, 1), (46, .iastore, 1), (47, .iinc 3 1, 3), (50, .goto (-38), 3), (53, .return_, 1)]
theorem kX12_begins : chkB cX12_begins LX12_begins = true := by decide +kernel
theorem dX12_begins_0 : decode cX12_begins 0 = .ok (.aload_n 0, 1) := getB' kX12_begins 0 rfl
theorem dX12_begins_1 : decode cX12_begins 1 = .ok (.iload_n 1, 1) := getB' kX12_begins 1 rfl
theorem dX12_begins_2 : decode cX12_begins 2 = .ok (.putfield 365, 3) := getB' kX12_begins 2 rfl
theorem dX12_begins_5 : decode cX12_begins 5 = .ok (.aload_n 0, 1) := getB' kX12_begins 3 rfl
theorem dX12_begins_6 : decode cX12_begins 6 = .ok (.iload_n 2, 1) := getB' kX12_begins 4 rfl
theorem dX12_begins_7 : decode cX12_begins 7 = .ok (.putfield 368, 3) := getB' kX12_begins 5 rfl
theorem dX12_begins_10 : decode cX12_begins 10 = .ok (.iconst 0, 1) := getB' kX12_begins 6 rfl
theorem dX12_begins_11 : decode cX12_begins 11 = .ok (.istore_n 3, 1) := getB' kX12_begins 7 rfl
theorem dX12_begins_12 : decode cX12_begins 12 = .ok (.iload_n 3, 1) := getB' kX12_begins 8 rfl
theorem dX12_begins_13 : decode cX12_begins 13 = .ok (.sipush 144, 3) := getB' kX12_begins 9 rfl
theorem dX12_begins_16 : decode cX12_begins 16 = .ok (.if_icmp .ge 37, 3) := getB' kX12_begins 10 rfl
theorem dX12_begins_19 : decode cX12_begins 19 = .ok (.aload_n 0, 1) := getB' kX12_begins 11 rfl
theorem dX12_begins_20 : decode cX12_begins 20 = .ok (.getfield 16, 3) := getB' kX12_begins 12 rfl
theorem dX12_begins_23 : decode cX12_begins 23 = .ok (.iload_n 3, 1) := getB' kX12_begins 13 rfl
theorem dX12_begins_24 : decode cX12_begins 24 = .ok (.iconst 0, 1) := getB' kX12_begins 14 rfl
theorem dX12_begins_25 : decode cX12_begins 25 = .ok (.iastore, 1) := getB' kX12_begins 15 rfl
theorem dX12_begins_26 : decode cX12_begins 26 = .ok (.aload_n 0, 1) := getB' kX12_begins 16 rfl
theorem dX12_begins_27 : decode cX12_begins 27 = .ok (.getfield 20, 3) := getB' kX12_begins 17 rfl
theorem dX12_begins_30 : decode cX12_begins 30 = .ok (.iload_n 3, 1) := getB' kX12_begins 18 rfl
theorem dX12_begins_31 : decode cX12_begins 31 = .ok (.iconst 0, 1) := getB' kX12_begins 19 rfl
theorem dX12_begins_32 : decode cX12_begins 32 = .ok (.iastore, 1) := getB' kX12_begins 20 rfl
theorem dX12_begins_33 : decode cX12_begins 33 = .ok (.aload_n 0, 1) := getB' kX12_begins 21 rfl
theorem dX12_begins_34 : decode cX12_begins 34 = .ok (.getfield 23, 3) := getB' kX12_begins 22 rfl
theorem dX12_begins_37 : decode cX12_begins 37 = .ok (.iload_n 3, 1) := getB' kX12_begins 23 rfl
theorem dX12_begins_38 : decode cX12_begins 38 = .ok (.iconst (-1), 1) := getB' kX12_begins 24 rfl
theorem dX12_begins_39 : decode cX12_begins 39 = .ok (.iastore, 1) := getB' kX12_begins 25 rfl
theorem dX12_begins_40 : decode cX12_begins 40 = .ok (.aload_n 0, 1) := getB' kX12_begins 26 rfl
theorem dX12_begins_41 : decode cX12_begins 41 = .ok (.getfield 26, 3) := getB' kX12_begins 27 rfl
theorem dX12_begins_44 : decode cX12_begins 44 = .ok (.iload_n 3, 1) := getB' kX12_begins 28 rfl
theorem dX12_begins_45 : decode cX12_begins 45 = .ok (.iconst 0, 1) := getB' kX12_begins 29 rfl
theorem dX12_begins_46 : decode cX12_begins 46 = .ok (.iastore, 1) := getB' kX12_begins 30 rfl
theorem dX12_begins_47 : decode cX12_begins 47 = .ok (.iinc 3 1, 3) := getB' kX12_begins 31 rfl
theorem dX12_begins_50 : decode cX12_begins 50 = .ok (.goto (-38), 3) := getB' kX12_begins 32 rfl
theorem dX12_begins_53 : decode cX12_begins 53 = .ok (.return_, 1) := getB' kX12_begins 33 rfl
def LX12_isCell : List (Nat × Instr × Nat) := [(0, .iload_n 1, 1), (1, .ifCond .lt 20, 3), (4, .iload_n 1, 1), (5, .aload_n 0, 1), (6, .getfield 365, 3), (9, .aload_n 0, 1), (10, .getfield 368, 3), (13, .imul, 1), (14, .if_icmp .ge 7, 3), (17, .iconst 1, 1), (18, .goto 4, 3), (21, .iconst 0, 1), (22, .ireturn, 1)]
theorem kX12_isCell : chkB cX12_isCell LX12_isCell = true := by decide +kernel
theorem dX12_isCell_0 : decode cX12_isCell 0 = .ok (.iload_n 1, 1) := getB' kX12_isCell 0 rfl
theorem dX12_isCell_1 : decode cX12_isCell 1 = .ok (.ifCond .lt 20, 3) := getB' kX12_isCell 1 rfl
theorem dX12_isCell_4 : decode cX12_isCell 4 = .ok (.iload_n 1, 1) := getB' kX12_isCell 2 rfl
theorem dX12_isCell_5 : decode cX12_isCell 5 = .ok (.aload_n 0, 1) := getB' kX12_isCell 3 rfl
theorem dX12_isCell_6 : decode cX12_isCell 6 = .ok (.getfield 365, 3) := getB' kX12_isCell 4 rfl
theorem dX12_isCell_9 : decode cX12_isCell 9 = .ok (.aload_n 0, 1) := getB' kX12_isCell 5 rfl
theorem dX12_isCell_10 : decode cX12_isCell 10 = .ok (.getfield 368, 3) := getB' kX12_isCell 6 rfl
theorem dX12_isCell_13 : decode cX12_isCell 13 = .ok (.imul, 1) := getB' kX12_isCell 7 rfl
theorem dX12_isCell_14 : decode cX12_isCell 14 = .ok (.if_icmp .ge 7, 3) := getB' kX12_isCell 8 rfl
theorem dX12_isCell_17 : decode cX12_isCell 17 = .ok (.iconst 1, 1) := getB' kX12_isCell 9 rfl
theorem dX12_isCell_18 : decode cX12_isCell 18 = .ok (.goto 4, 3) := getB' kX12_isCell 10 rfl
theorem dX12_isCell_21 : decode cX12_isCell 21 = .ok (.iconst 0, 1) := getB' kX12_isCell 11 rfl
theorem dX12_isCell_22 : decode cX12_isCell 22 = .ok (.ireturn, 1) := getB' kX12_isCell 12 rfl
def LX12_isDay : List (Nat × Instr × Nat) := [(0, .iload_n 0, 1), (1, .ifCond .lt 14, 3), (4, .iload_n 0, 1), (5, .sipush 3599, 3), (8, .if_icmp .gt 7, 3), (11, .iconst 1, 1), (12, .goto 4, 3), (15, .iconst 0, 1), (16, .ireturn, 1)]
theorem kX12_isDay : chkB cX12_isDay LX12_isDay = true := by decide +kernel
theorem dX12_isDay_0 : decode cX12_isDay 0 = .ok (.iload_n 0, 1) := getB' kX12_isDay 0 rfl
theorem dX12_isDay_1 : decode cX12_isDay 1 = .ok (.ifCond .lt 14, 3) := getB' kX12_isDay 1 rfl
theorem dX12_isDay_4 : decode cX12_isDay 4 = .ok (.iload_n 0, 1) := getB' kX12_isDay 2 rfl
theorem dX12_isDay_5 : decode cX12_isDay 5 = .ok (.sipush 3599, 3) := getB' kX12_isDay 3 rfl
theorem dX12_isDay_8 : decode cX12_isDay 8 = .ok (.if_icmp .gt 7, 3) := getB' kX12_isDay 4 rfl
theorem dX12_isDay_11 : decode cX12_isDay 11 = .ok (.iconst 1, 1) := getB' kX12_isDay 5 rfl
theorem dX12_isDay_12 : decode cX12_isDay 12 = .ok (.goto 4, 3) := getB' kX12_isDay 6 rfl
theorem dX12_isDay_15 : decode cX12_isDay 15 = .ok (.iconst 0, 1) := getB' kX12_isDay 7 rfl
theorem dX12_isDay_16 : decode cX12_isDay 16 = .ok (.ireturn, 1) := getB' kX12_isDay 8 rfl
def LX12_ice : List (Nat × Instr × Nat) := [(0, .iload_n 1, 1), (1, .iconst 4, 1), (2, .bipush 12, 2), (4, .invokestatic 371, 3), (7, .ifCond .eq 27, 3), (10, .iload_n 2, 1), (11, .iconst 4, 1), (12, .bipush 12, 2), (14, .invokestatic 371, 3), (17, .ifCond .eq 17, 3), (20, .aload_n 0, 1), (21, .getfield 375, 3), (24, .ifCond .gt 10, 3), (27, .aload_n 0, 1), (28, .getfield 378, 3), (31, .ifCond .le 5, 3), (34, .iconst 0, 1), (35, .ireturn, 1), (36, .aload_n 0, 1), (37, .iload_n 1, 1), (38, .iload_n 2, 1), (39, .invokevirtual 361, 3), (42, .iconst 1, 1), (43, .ireturn, 1)]
theorem kX12_ice : chkB cX12_ice LX12_ice = true := by decide +kernel
theorem dX12_ice_0 : decode cX12_ice 0 = .ok (.iload_n 1, 1) := getB' kX12_ice 0 rfl
theorem dX12_ice_1 : decode cX12_ice 1 = .ok (.iconst 4, 1) := getB' kX12_ice 1 rfl
theorem dX12_ice_2 : decode cX12_ice 2 = .ok (.bipush 12, 2) := getB' kX12_ice 2 rfl
theorem dX12_ice_4 : decode cX12_ice 4 = .ok (.invokestatic 371, 3) := getB' kX12_ice 3 rfl
theorem dX12_ice_7 : decode cX12_ice 7 = .ok (.ifCond .eq 27, 3) := getB' kX12_ice 4 rfl
theorem dX12_ice_10 : decode cX12_ice 10 = .ok (.iload_n 2, 1) := getB' kX12_ice 5 rfl
theorem dX12_ice_11 : decode cX12_ice 11 = .ok (.iconst 4, 1) := getB' kX12_ice 6 rfl
theorem dX12_ice_12 : decode cX12_ice 12 = .ok (.bipush 12, 2) := getB' kX12_ice 7 rfl
theorem dX12_ice_14 : decode cX12_ice 14 = .ok (.invokestatic 371, 3) := getB' kX12_ice 8 rfl
theorem dX12_ice_17 : decode cX12_ice 17 = .ok (.ifCond .eq 17, 3) := getB' kX12_ice 9 rfl
theorem dX12_ice_20 : decode cX12_ice 20 = .ok (.aload_n 0, 1) := getB' kX12_ice 10 rfl
theorem dX12_ice_21 : decode cX12_ice 21 = .ok (.getfield 375, 3) := getB' kX12_ice 11 rfl
theorem dX12_ice_24 : decode cX12_ice 24 = .ok (.ifCond .gt 10, 3) := getB' kX12_ice 12 rfl
theorem dX12_ice_27 : decode cX12_ice 27 = .ok (.aload_n 0, 1) := getB' kX12_ice 13 rfl
theorem dX12_ice_28 : decode cX12_ice 28 = .ok (.getfield 378, 3) := getB' kX12_ice 14 rfl
theorem dX12_ice_31 : decode cX12_ice 31 = .ok (.ifCond .le 5, 3) := getB' kX12_ice 15 rfl
theorem dX12_ice_34 : decode cX12_ice 34 = .ok (.iconst 0, 1) := getB' kX12_ice 16 rfl
theorem dX12_ice_35 : decode cX12_ice 35 = .ok (.ireturn, 1) := getB' kX12_ice 17 rfl
theorem dX12_ice_36 : decode cX12_ice 36 = .ok (.aload_n 0, 1) := getB' kX12_ice 18 rfl
theorem dX12_ice_37 : decode cX12_ice 37 = .ok (.iload_n 1, 1) := getB' kX12_ice 19 rfl
theorem dX12_ice_38 : decode cX12_ice 38 = .ok (.iload_n 2, 1) := getB' kX12_ice 20 rfl
theorem dX12_ice_39 : decode cX12_ice 39 = .ok (.invokevirtual 361, 3) := getB' kX12_ice 21 rfl
theorem dX12_ice_42 : decode cX12_ice 42 = .ok (.iconst 1, 1) := getB' kX12_ice 22 rfl
theorem dX12_ice_43 : decode cX12_ice 43 = .ok (.ireturn, 1) := getB' kX12_ice 23 rfl
def LX12_cell : List (Nat × Instr × Nat) := [(0, .aload_n 0, 1), (1, .iload_n 1, 1), (2, .invokevirtual 381, 3), (5, .ifCond .eq 33, 3), (8, .iload_n 2, 1), (9, .iconst 0, 1), (10, .bipush 40, 2), (12, .invokestatic 371, 3), (15, .ifCond .eq 23, 3), (18, .iload_n 3, 1), (19, .iconst 0, 1), (20, .iconst 3, 1), (21, .invokestatic 371, 3), (24, .ifCond .eq 14, 3), (27, .iload 4, 2), (29, .iconst (-1), 1), (30, .bipush 7, 2), (32, .invokestatic 371, 3), (35, .ifCond .ne 5, 3), (38, .iconst 0, 1), (39, .ireturn, 1), (40, .iload 4, 2), (42, .iconst (-1), 1), (43, .if_icmp .ne 11, 3), (46, .iload 5, 2), (48, .ifCond .eq 21, 3), (51, .goto 16, 3), (54, .iload 5, 2), (56, .bipush 10, 2), (58, .sipush 3600, 3), (61, .invokestatic 371, 3), (64, .ifCond .ne 5, 3), (67, .iconst 0, 1), (68, .ireturn, 1), (69, .aload_n 0, 1), (70, .getfield 16, 3), (73, .iload_n 1, 1), (74, .iload_n 2, 1), (75, .iastore, 1), (76, .aload_n 0, 1), (77, .getfield 20, 3), (80, .iload_n 1, 1), (81, .iload_n 3, 1), (82, .iastore, 1), (83, .aload_n 0, 1), (84, .getfield 23, 3), (87, .iload_n 1, 1), (88, .iload 4, 2), (90, .iastore, 1), (91, .aload_n 0, 1), (92, .getfield 26, 3), (95, .iload_n 1, 1), (96, .iload 5, 2), (98, .iastore, 1), (99, .iconst 1, 1), (100, .ireturn, 1)]
theorem kX12_cell : chkB cX12_cell LX12_cell = true := by decide +kernel
theorem dX12_cell_0 : decode cX12_cell 0 = .ok (.aload_n 0, 1) := getB' kX12_cell 0 rfl
theorem dX12_cell_1 : decode cX12_cell 1 = .ok (.iload_n 1, 1) := getB' kX12_cell 1 rfl
theorem dX12_cell_2 : decode cX12_cell 2 = .ok (.invokevirtual 381, 3) := getB' kX12_cell 2 rfl
theorem dX12_cell_5 : decode cX12_cell 5 = .ok (.ifCond .eq 33, 3) := getB' kX12_cell 3 rfl
theorem dX12_cell_8 : decode cX12_cell 8 = .ok (.iload_n 2, 1) := getB' kX12_cell 4 rfl
theorem dX12_cell_9 : decode cX12_cell 9 = .ok (.iconst 0, 1) := getB' kX12_cell 5 rfl
theorem dX12_cell_10 : decode cX12_cell 10 = .ok (.bipush 40, 2) := getB' kX12_cell 6 rfl
theorem dX12_cell_12 : decode cX12_cell 12 = .ok (.invokestatic 371, 3) := getB' kX12_cell 7 rfl
theorem dX12_cell_15 : decode cX12_cell 15 = .ok (.ifCond .eq 23, 3) := getB' kX12_cell 8 rfl
theorem dX12_cell_18 : decode cX12_cell 18 = .ok (.iload_n 3, 1) := getB' kX12_cell 9 rfl
theorem dX12_cell_19 : decode cX12_cell 19 = .ok (.iconst 0, 1) := getB' kX12_cell 10 rfl
theorem dX12_cell_20 : decode cX12_cell 20 = .ok (.iconst 3, 1) := getB' kX12_cell 11 rfl
theorem dX12_cell_21 : decode cX12_cell 21 = .ok (.invokestatic 371, 3) := getB' kX12_cell 12 rfl
theorem dX12_cell_24 : decode cX12_cell 24 = .ok (.ifCond .eq 14, 3) := getB' kX12_cell 13 rfl
theorem dX12_cell_27 : decode cX12_cell 27 = .ok (.iload 4, 2) := getB' kX12_cell 14 rfl
theorem dX12_cell_29 : decode cX12_cell 29 = .ok (.iconst (-1), 1) := getB' kX12_cell 15 rfl
theorem dX12_cell_30 : decode cX12_cell 30 = .ok (.bipush 7, 2) := getB' kX12_cell 16 rfl
theorem dX12_cell_32 : decode cX12_cell 32 = .ok (.invokestatic 371, 3) := getB' kX12_cell 17 rfl
theorem dX12_cell_35 : decode cX12_cell 35 = .ok (.ifCond .ne 5, 3) := getB' kX12_cell 18 rfl
theorem dX12_cell_38 : decode cX12_cell 38 = .ok (.iconst 0, 1) := getB' kX12_cell 19 rfl
theorem dX12_cell_39 : decode cX12_cell 39 = .ok (.ireturn, 1) := getB' kX12_cell 20 rfl
theorem dX12_cell_40 : decode cX12_cell 40 = .ok (.iload 4, 2) := getB' kX12_cell 21 rfl
theorem dX12_cell_42 : decode cX12_cell 42 = .ok (.iconst (-1), 1) := getB' kX12_cell 22 rfl
theorem dX12_cell_43 : decode cX12_cell 43 = .ok (.if_icmp .ne 11, 3) := getB' kX12_cell 23 rfl
theorem dX12_cell_46 : decode cX12_cell 46 = .ok (.iload 5, 2) := getB' kX12_cell 24 rfl
theorem dX12_cell_48 : decode cX12_cell 48 = .ok (.ifCond .eq 21, 3) := getB' kX12_cell 25 rfl
theorem dX12_cell_51 : decode cX12_cell 51 = .ok (.goto 16, 3) := getB' kX12_cell 26 rfl
theorem dX12_cell_54 : decode cX12_cell 54 = .ok (.iload 5, 2) := getB' kX12_cell 27 rfl
theorem dX12_cell_56 : decode cX12_cell 56 = .ok (.bipush 10, 2) := getB' kX12_cell 28 rfl
theorem dX12_cell_58 : decode cX12_cell 58 = .ok (.sipush 3600, 3) := getB' kX12_cell 29 rfl
theorem dX12_cell_61 : decode cX12_cell 61 = .ok (.invokestatic 371, 3) := getB' kX12_cell 30 rfl
theorem dX12_cell_64 : decode cX12_cell 64 = .ok (.ifCond .ne 5, 3) := getB' kX12_cell 31 rfl
theorem dX12_cell_67 : decode cX12_cell 67 = .ok (.iconst 0, 1) := getB' kX12_cell 32 rfl
theorem dX12_cell_68 : decode cX12_cell 68 = .ok (.ireturn, 1) := getB' kX12_cell 33 rfl
theorem dX12_cell_69 : decode cX12_cell 69 = .ok (.aload_n 0, 1) := getB' kX12_cell 34 rfl
theorem dX12_cell_70 : decode cX12_cell 70 = .ok (.getfield 16, 3) := getB' kX12_cell 35 rfl
theorem dX12_cell_73 : decode cX12_cell 73 = .ok (.iload_n 1, 1) := getB' kX12_cell 36 rfl
theorem dX12_cell_74 : decode cX12_cell 74 = .ok (.iload_n 2, 1) := getB' kX12_cell 37 rfl
theorem dX12_cell_75 : decode cX12_cell 75 = .ok (.iastore, 1) := getB' kX12_cell 38 rfl
theorem dX12_cell_76 : decode cX12_cell 76 = .ok (.aload_n 0, 1) := getB' kX12_cell 39 rfl
theorem dX12_cell_77 : decode cX12_cell 77 = .ok (.getfield 20, 3) := getB' kX12_cell 40 rfl
theorem dX12_cell_80 : decode cX12_cell 80 = .ok (.iload_n 1, 1) := getB' kX12_cell 41 rfl
theorem dX12_cell_81 : decode cX12_cell 81 = .ok (.iload_n 3, 1) := getB' kX12_cell 42 rfl
theorem dX12_cell_82 : decode cX12_cell 82 = .ok (.iastore, 1) := getB' kX12_cell 43 rfl
theorem dX12_cell_83 : decode cX12_cell 83 = .ok (.aload_n 0, 1) := getB' kX12_cell 44 rfl
theorem dX12_cell_84 : decode cX12_cell 84 = .ok (.getfield 23, 3) := getB' kX12_cell 45 rfl
theorem dX12_cell_87 : decode cX12_cell 87 = .ok (.iload_n 1, 1) := getB' kX12_cell 46 rfl
theorem dX12_cell_88 : decode cX12_cell 88 = .ok (.iload 4, 2) := getB' kX12_cell 47 rfl
theorem dX12_cell_90 : decode cX12_cell 90 = .ok (.iastore, 1) := getB' kX12_cell 48 rfl
theorem dX12_cell_91 : decode cX12_cell 91 = .ok (.aload_n 0, 1) := getB' kX12_cell 49 rfl
theorem dX12_cell_92 : decode cX12_cell 92 = .ok (.getfield 26, 3) := getB' kX12_cell 50 rfl
theorem dX12_cell_95 : decode cX12_cell 95 = .ok (.iload_n 1, 1) := getB' kX12_cell 51 rfl
theorem dX12_cell_96 : decode cX12_cell 96 = .ok (.iload 5, 2) := getB' kX12_cell 52 rfl
theorem dX12_cell_98 : decode cX12_cell 98 = .ok (.iastore, 1) := getB' kX12_cell 53 rfl
theorem dX12_cell_99 : decode cX12_cell 99 = .ok (.iconst 1, 1) := getB' kX12_cell 54 rfl
theorem dX12_cell_100 : decode cX12_cell 100 = .ok (.ireturn, 1) := getB' kX12_cell 55 rfl
def LX12_dark : List (Nat × Instr × Nat) := [(0, .iload_n 1, 1), (1, .iconst 0, 1), (2, .sipush 359, 3), (5, .invokestatic 371, 3), (8, .ifCond .eq 14, 3), (11, .iload_n 2, 1), (12, .iload_n 1, 1), (13, .sipush 359, 3), (16, .invokestatic 371, 3), (19, .ifCond .ne 5, 3), (22, .iconst 0, 1), (23, .ireturn, 1), (24, .aload_n 0, 1), (25, .iload_n 1, 1), (26, .putfield 7, 3), (29, .aload_n 0, 1), (30, .iload_n 2, 1), (31, .putfield 13, 3), (34, .iconst 1, 1), (35, .ireturn, 1)]
theorem kX12_dark : chkB cX12_dark LX12_dark = true := by decide +kernel
theorem dX12_dark_0 : decode cX12_dark 0 = .ok (.iload_n 1, 1) := getB' kX12_dark 0 rfl
theorem dX12_dark_1 : decode cX12_dark 1 = .ok (.iconst 0, 1) := getB' kX12_dark 1 rfl
theorem dX12_dark_2 : decode cX12_dark 2 = .ok (.sipush 359, 3) := getB' kX12_dark 2 rfl
theorem dX12_dark_5 : decode cX12_dark 5 = .ok (.invokestatic 371, 3) := getB' kX12_dark 3 rfl
theorem dX12_dark_8 : decode cX12_dark 8 = .ok (.ifCond .eq 14, 3) := getB' kX12_dark 4 rfl
theorem dX12_dark_11 : decode cX12_dark 11 = .ok (.iload_n 2, 1) := getB' kX12_dark 5 rfl
theorem dX12_dark_12 : decode cX12_dark 12 = .ok (.iload_n 1, 1) := getB' kX12_dark 6 rfl
theorem dX12_dark_13 : decode cX12_dark 13 = .ok (.sipush 359, 3) := getB' kX12_dark 7 rfl
theorem dX12_dark_16 : decode cX12_dark 16 = .ok (.invokestatic 371, 3) := getB' kX12_dark 8 rfl
theorem dX12_dark_19 : decode cX12_dark 19 = .ok (.ifCond .ne 5, 3) := getB' kX12_dark 9 rfl
theorem dX12_dark_22 : decode cX12_dark 22 = .ok (.iconst 0, 1) := getB' kX12_dark 10 rfl
theorem dX12_dark_23 : decode cX12_dark 23 = .ok (.ireturn, 1) := getB' kX12_dark 11 rfl
theorem dX12_dark_24 : decode cX12_dark 24 = .ok (.aload_n 0, 1) := getB' kX12_dark 12 rfl
theorem dX12_dark_25 : decode cX12_dark 25 = .ok (.iload_n 1, 1) := getB' kX12_dark 13 rfl
theorem dX12_dark_26 : decode cX12_dark 26 = .ok (.putfield 7, 3) := getB' kX12_dark 14 rfl
theorem dX12_dark_29 : decode cX12_dark 29 = .ok (.aload_n 0, 1) := getB' kX12_dark 15 rfl
theorem dX12_dark_30 : decode cX12_dark 30 = .ok (.iload_n 2, 1) := getB' kX12_dark 16 rfl
theorem dX12_dark_31 : decode cX12_dark 31 = .ok (.putfield 13, 3) := getB' kX12_dark 17 rfl
theorem dX12_dark_34 : decode cX12_dark 34 = .ok (.iconst 1, 1) := getB' kX12_dark 18 rfl
theorem dX12_dark_35 : decode cX12_dark 35 = .ok (.ireturn, 1) := getB' kX12_dark 19 rfl
def LX12_isDark : List (Nat × Instr × Nat) := [(0, .iload_n 1, 1), (1, .sipush 360, 3), (4, .irem, 1), (5, .aload_n 0, 1), (6, .getfield 7, 3), (9, .aload_n 0, 1), (10, .getfield 13, 3), (13, .invokestatic 371, 3), (16, .ireturn, 1)]
theorem kX12_isDark : chkB cX12_isDark LX12_isDark = true := by decide +kernel
theorem dX12_isDark_0 : decode cX12_isDark 0 = .ok (.iload_n 1, 1) := getB' kX12_isDark 0 rfl
theorem dX12_isDark_1 : decode cX12_isDark 1 = .ok (.sipush 360, 3) := getB' kX12_isDark 1 rfl
theorem dX12_isDark_4 : decode cX12_isDark 4 = .ok (.irem, 1) := getB' kX12_isDark 2 rfl
theorem dX12_isDark_5 : decode cX12_isDark 5 = .ok (.aload_n 0, 1) := getB' kX12_isDark 3 rfl
theorem dX12_isDark_6 : decode cX12_isDark 6 = .ok (.getfield 7, 3) := getB' kX12_isDark 4 rfl
theorem dX12_isDark_9 : decode cX12_isDark 9 = .ok (.aload_n 0, 1) := getB' kX12_isDark 5 rfl
theorem dX12_isDark_10 : decode cX12_isDark 10 = .ok (.getfield 13, 3) := getB' kX12_isDark 6 rfl
theorem dX12_isDark_13 : decode cX12_isDark 13 = .ok (.invokestatic 371, 3) := getB' kX12_isDark 7 rfl
theorem dX12_isDark_16 : decode cX12_isDark 16 = .ok (.ireturn, 1) := getB' kX12_isDark 8 rfl
def LX12_far : List (Nat × Instr × Nat) := [(0, .iload_n 1, 1), (1, .aload_n 0, 1), (2, .getfield 365, 3), (5, .idiv, 1), (6, .iload_n 2, 1), (7, .aload_n 0, 1), (8, .getfield 365, 3), (11, .idiv, 1), (12, .isub, 1), (13, .invokestatic 385, 3), (16, .istore_n 3, 1), (17, .iload_n 1, 1), (18, .aload_n 0, 1), (19, .getfield 365, 3), (22, .irem, 1), (23, .iload_n 2, 1), (24, .aload_n 0, 1), (25, .getfield 365, 3), (28, .irem, 1), (29, .isub, 1), (30, .invokestatic 385, 3), (33, .istore 4, 2), (35, .iload_n 3, 1), (36, .iload 4, 2), (38, .if_icmp .le 7, 3), (41, .iload_n 3, 1), (42, .goto 5, 3), (45, .iload 4, 2), (47, .ireturn, 1)]
theorem kX12_far : chkB cX12_far LX12_far = true := by decide +kernel
theorem dX12_far_0 : decode cX12_far 0 = .ok (.iload_n 1, 1) := getB' kX12_far 0 rfl
theorem dX12_far_1 : decode cX12_far 1 = .ok (.aload_n 0, 1) := getB' kX12_far 1 rfl
theorem dX12_far_2 : decode cX12_far 2 = .ok (.getfield 365, 3) := getB' kX12_far 2 rfl
theorem dX12_far_5 : decode cX12_far 5 = .ok (.idiv, 1) := getB' kX12_far 3 rfl
theorem dX12_far_6 : decode cX12_far 6 = .ok (.iload_n 2, 1) := getB' kX12_far 4 rfl
theorem dX12_far_7 : decode cX12_far 7 = .ok (.aload_n 0, 1) := getB' kX12_far 5 rfl
theorem dX12_far_8 : decode cX12_far 8 = .ok (.getfield 365, 3) := getB' kX12_far 6 rfl
theorem dX12_far_11 : decode cX12_far 11 = .ok (.idiv, 1) := getB' kX12_far 7 rfl
theorem dX12_far_12 : decode cX12_far 12 = .ok (.isub, 1) := getB' kX12_far 8 rfl
theorem dX12_far_13 : decode cX12_far 13 = .ok (.invokestatic 385, 3) := getB' kX12_far 9 rfl
theorem dX12_far_16 : decode cX12_far 16 = .ok (.istore_n 3, 1) := getB' kX12_far 10 rfl
theorem dX12_far_17 : decode cX12_far 17 = .ok (.iload_n 1, 1) := getB' kX12_far 11 rfl
theorem dX12_far_18 : decode cX12_far 18 = .ok (.aload_n 0, 1) := getB' kX12_far 12 rfl
theorem dX12_far_19 : decode cX12_far 19 = .ok (.getfield 365, 3) := getB' kX12_far 13 rfl
theorem dX12_far_22 : decode cX12_far 22 = .ok (.irem, 1) := getB' kX12_far 14 rfl
theorem dX12_far_23 : decode cX12_far 23 = .ok (.iload_n 2, 1) := getB' kX12_far 15 rfl
theorem dX12_far_24 : decode cX12_far 24 = .ok (.aload_n 0, 1) := getB' kX12_far 16 rfl
theorem dX12_far_25 : decode cX12_far 25 = .ok (.getfield 365, 3) := getB' kX12_far 17 rfl
theorem dX12_far_28 : decode cX12_far 28 = .ok (.irem, 1) := getB' kX12_far 18 rfl
theorem dX12_far_29 : decode cX12_far 29 = .ok (.isub, 1) := getB' kX12_far 19 rfl
theorem dX12_far_30 : decode cX12_far 30 = .ok (.invokestatic 385, 3) := getB' kX12_far 20 rfl
theorem dX12_far_33 : decode cX12_far 33 = .ok (.istore 4, 2) := getB' kX12_far 21 rfl
theorem dX12_far_35 : decode cX12_far 35 = .ok (.iload_n 3, 1) := getB' kX12_far 22 rfl
theorem dX12_far_36 : decode cX12_far 36 = .ok (.iload 4, 2) := getB' kX12_far 23 rfl
theorem dX12_far_38 : decode cX12_far 38 = .ok (.if_icmp .le 7, 3) := getB' kX12_far 24 rfl
theorem dX12_far_41 : decode cX12_far 41 = .ok (.iload_n 3, 1) := getB' kX12_far 25 rfl
theorem dX12_far_42 : decode cX12_far 42 = .ok (.goto 5, 3) := getB' kX12_far 26 rfl
theorem dX12_far_45 : decode cX12_far 45 = .ok (.iload 4, 2) := getB' kX12_far 27 rfl
theorem dX12_far_47 : decode cX12_far 47 = .ok (.ireturn, 1) := getB' kX12_far 28 rfl
