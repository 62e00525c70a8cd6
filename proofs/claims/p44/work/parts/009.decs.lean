def LX11_site_0 : List (Nat × Instr × Nat) := [(0, .aload_n 0, 1), (1, .getfield 12, 3), (4, .iload_n 1, 1), (5, .invokevirtual 119, 3), (8, .ifCond .ne 5, 3), (11, .iconst (-1), 1), (12, .ireturn, 1), (13, .aload_n 0, 1), (14, .new 40, 3), (17, .dup, 1), (18, .iload_n 2, 1), (19, .ifCond .eq 7, 3)]
theorem kX11_site_0 : chkB cX11_site LX11_site_0 = true := by decide +kernel
theorem dX11_site_0 : decode cX11_site 0 = .ok (.aload_n 0, 1) := getB' kX11_site_0 0 rfl
theorem dX11_site_1 : decode cX11_site 1 = .ok (.getfield 12, 3) := getB' kX11_site_0 1 rfl
theorem dX11_site_4 : decode cX11_site 4 = .ok (.iload_n 1, 1) := getB' kX11_site_0 2 rfl
theorem dX11_site_5 : decode cX11_site 5 = .ok (.invokevirtual 119, 3) := getB' kX11_site_0 3 rfl
theorem dX11_site_8 : decode cX11_site 8 = .ok (.ifCond .ne 5, 3) := getB' kX11_site_0 4 rfl
theorem dX11_site_11 : decode cX11_site 11 = .ok (.iconst (-1), 1) := getB' kX11_site_0 5 rfl
theorem dX11_site_12 : decode cX11_site 12 = .ok (.ireturn, 1) := getB' kX11_site_0 6 rfl
theorem dX11_site_13 : decode cX11_site 13 = .ok (.aload_n 0, 1) := getB' kX11_site_0 7 rfl
theorem dX11_site_14 : decode cX11_site 14 = .ok (.new 40, 3) := getB' kX11_site_0 8 rfl
theorem dX11_site_17 : decode cX11_site 17 = .ok (.dup, 1) := getB' kX11_site_0 9 rfl
theorem dX11_site_18 : decode cX11_site 18 = .ok (.iload_n 2, 1) := getB' kX11_site_0 10 rfl
theorem dX11_site_19 : decode cX11_site 19 = .ok (.ifCond .eq 7, 3) := getB' kX11_site_0 11 rfl
def LX11_site_1 : List (Nat × Instr × Nat) := [(22, .iconst 5, 1), (23, .goto 4, 3), (26, .iconst 4, 1), (27, .iconst (-1), 1), (28, .iload_n 1, 1), (29, .iconst (-1), 1), (30, .iconst (-1), 1), (31, .invokespecial 162, 3), (34, .invokevirtual 165, 3), (37, .ireturn, 1)]
theorem kX11_site_1 : chkB cX11_site LX11_site_1 = true := by decide +kernel
theorem dX11_site_22 : decode cX11_site 22 = .ok (.iconst 5, 1) := getB' kX11_site_1 0 rfl
theorem dX11_site_23 : decode cX11_site 23 = .ok (.goto 4, 3) := getB' kX11_site_1 1 rfl
theorem dX11_site_26 : decode cX11_site 26 = .ok (.iconst 4, 1) := getB' kX11_site_1 2 rfl
theorem dX11_site_27 : decode cX11_site 27 = .ok (.iconst (-1), 1) := getB' kX11_site_1 3 rfl
theorem dX11_site_28 : decode cX11_site 28 = .ok (.iload_n 1, 1) := getB' kX11_site_1 4 rfl
theorem dX11_site_29 : decode cX11_site 29 = .ok (.iconst (-1), 1) := getB' kX11_site_1 5 rfl
theorem dX11_site_30 : decode cX11_site 30 = .ok (.iconst (-1), 1) := getB' kX11_site_1 6 rfl
theorem dX11_site_31 : decode cX11_site 31 = .ok (.invokespecial 162, 3) := getB' kX11_site_1 7 rfl
theorem dX11_site_34 : decode cX11_site 34 = .ok (.invokevirtual 165, 3) := getB' kX11_site_1 8 rfl
theorem dX11_site_37 : decode cX11_site 37 = .ok (.ireturn, 1) := getB' kX11_site_1 9 rfl
def LX11_settle_0 : List (Nat × Instr × Nat) := [(0, .aload_n 0, 1), (1, .getfield 46, 3), (4, .aload_n 0, 1), (5, .getfield 42, 3), (8, .arraylength, 1), (9, .if_icmp .lt 5, 3), (12, .iconst (-1), 1), (13, .ireturn, 1), (14, .aload_n 0, 1), (15, .getfield 42, 3), (18, .aload_n 0, 1), (19, .getfield 46, 3)]
theorem kX11_settle_0 : chkB cX11_settle LX11_settle_0 = true := by decide +kernel
theorem dX11_settle_0 : decode cX11_settle 0 = .ok (.aload_n 0, 1) := getB' kX11_settle_0 0 rfl
theorem dX11_settle_1 : decode cX11_settle 1 = .ok (.getfield 46, 3) := getB' kX11_settle_0 1 rfl
theorem dX11_settle_4 : decode cX11_settle 4 = .ok (.aload_n 0, 1) := getB' kX11_settle_0 2 rfl
theorem dX11_settle_5 : decode cX11_settle 5 = .ok (.getfield 42, 3) := getB' kX11_settle_0 3 rfl
theorem dX11_settle_8 : decode cX11_settle 8 = .ok (.arraylength, 1) := getB' kX11_settle_0 4 rfl
theorem dX11_settle_9 : decode cX11_settle 9 = .ok (.if_icmp .lt 5, 3) := getB' kX11_settle_0 5 rfl
theorem dX11_settle_12 : decode cX11_settle 12 = .ok (.iconst (-1), 1) := getB' kX11_settle_0 6 rfl
theorem dX11_settle_13 : decode cX11_settle 13 = .ok (.ireturn, 1) := getB' kX11_settle_0 7 rfl
theorem dX11_settle_14 : decode cX11_settle 14 = .ok (.aload_n 0, 1) := getB' kX11_settle_0 8 rfl
theorem dX11_settle_15 : decode cX11_settle 15 = .ok (.getfield 42, 3) := getB' kX11_settle_0 9 rfl
theorem dX11_settle_18 : decode cX11_settle 18 = .ok (.aload_n 0, 1) := getB' kX11_settle_0 10 rfl
theorem dX11_settle_19 : decode cX11_settle 19 = .ok (.getfield 46, 3) := getB' kX11_settle_0 11 rfl
def LX11_settle_1 : List (Nat × Instr × Nat) := [(22, .aload_n 1, 1), (23, .aastore, 1), (24, .aload_n 0, 1), (25, .dup, 1), (26, .getfield 46, 3), (29, .dup_x1, 1), (30, .iconst 1, 1), (31, .iadd, 1), (32, .putfield 46, 3), (35, .ireturn, 1)]
theorem kX11_settle_1 : chkB cX11_settle LX11_settle_1 = true := by decide +kernel
theorem dX11_settle_22 : decode cX11_settle 22 = .ok (.aload_n 1, 1) := getB' kX11_settle_1 0 rfl
theorem dX11_settle_23 : decode cX11_settle 23 = .ok (.aastore, 1) := getB' kX11_settle_1 1 rfl
theorem dX11_settle_24 : decode cX11_settle 24 = .ok (.aload_n 0, 1) := getB' kX11_settle_1 2 rfl
theorem dX11_settle_25 : decode cX11_settle 25 = .ok (.dup, 1) := getB' kX11_settle_1 3 rfl
theorem dX11_settle_26 : decode cX11_settle 26 = .ok (.getfield 46, 3) := getB' kX11_settle_1 4 rfl
theorem dX11_settle_29 : decode cX11_settle 29 = .ok (.dup_x1, 1) := getB' kX11_settle_1 5 rfl
theorem dX11_settle_30 : decode cX11_settle 30 = .ok (.iconst 1, 1) := getB' kX11_settle_1 6 rfl
theorem dX11_settle_31 : decode cX11_settle 31 = .ok (.iadd, 1) := getB' kX11_settle_1 7 rfl
theorem dX11_settle_32 : decode cX11_settle 32 = .ok (.putfield 46, 3) := getB' kX11_settle_1 8 rfl
theorem dX11_settle_35 : decode cX11_settle 35 = .ok (.ireturn, 1) := getB' kX11_settle_1 9 rfl
def LX11_feed_0 : List (Nat × Instr × Nat) := [(0, .aload_n 0, 1), (1, .getfield 91, 3), (4, .getfield 199, 3), (7, .bipush 20, 2), (9, .iadd, 1), (10, .sipush 400, 3), (13, .if_icmp .le 5, 3), (16, .iconst (-1), 1), (17, .ireturn, 1), (18, .aload_n 0, 1), (19, .iload_n 1, 1), (20, .invokevirtual 202, 3)]
theorem kX11_feed_0 : chkB cX11_feed LX11_feed_0 = true := by decide +kernel
theorem dX11_feed_0 : decode cX11_feed 0 = .ok (.aload_n 0, 1) := getB' kX11_feed_0 0 rfl
theorem dX11_feed_1 : decode cX11_feed 1 = .ok (.getfield 91, 3) := getB' kX11_feed_0 1 rfl
theorem dX11_feed_4 : decode cX11_feed 4 = .ok (.getfield 199, 3) := getB' kX11_feed_0 2 rfl
theorem dX11_feed_7 : decode cX11_feed 7 = .ok (.bipush 20, 2) := getB' kX11_feed_0 3 rfl
theorem dX11_feed_9 : decode cX11_feed 9 = .ok (.iadd, 1) := getB' kX11_feed_0 4 rfl
theorem dX11_feed_10 : decode cX11_feed 10 = .ok (.sipush 400, 3) := getB' kX11_feed_0 5 rfl
theorem dX11_feed_13 : decode cX11_feed 13 = .ok (.if_icmp .le 5, 3) := getB' kX11_feed_0 6 rfl
theorem dX11_feed_16 : decode cX11_feed 16 = .ok (.iconst (-1), 1) := getB' kX11_feed_0 7 rfl
theorem dX11_feed_17 : decode cX11_feed 17 = .ok (.ireturn, 1) := getB' kX11_feed_0 8 rfl
theorem dX11_feed_18 : decode cX11_feed 18 = .ok (.aload_n 0, 1) := getB' kX11_feed_0 9 rfl
theorem dX11_feed_19 : decode cX11_feed 19 = .ok (.iload_n 1, 1) := getB' kX11_feed_0 10 rfl
theorem dX11_feed_20 : decode cX11_feed 20 = .ok (.invokevirtual 202, 3) := getB' kX11_feed_0 11 rfl
def LX11_feed_1 : List (Nat × Instr × Nat) := [(23, .aload_n 0, 1), (24, .iload_n 2, 1), (25, .invokevirtual 202, 3), (28, .aload_n 0, 1), (29, .iload_n 3, 1), (30, .invokevirtual 202, 3), (33, .aload_n 0, 1), (34, .iload 4, 2), (36, .invokevirtual 202, 3), (39, .aload_n 0, 1), (40, .iload 5, 2), (42, .invokevirtual 202, 3)]
theorem kX11_feed_1 : chkB cX11_feed LX11_feed_1 = true := by decide +kernel
theorem dX11_feed_23 : decode cX11_feed 23 = .ok (.aload_n 0, 1) := getB' kX11_feed_1 0 rfl
theorem dX11_feed_24 : decode cX11_feed 24 = .ok (.iload_n 2, 1) := getB' kX11_feed_1 1 rfl
theorem dX11_feed_25 : decode cX11_feed 25 = .ok (.invokevirtual 202, 3) := getB' kX11_feed_1 2 rfl
theorem dX11_feed_28 : decode cX11_feed 28 = .ok (.aload_n 0, 1) := getB' kX11_feed_1 3 rfl
theorem dX11_feed_29 : decode cX11_feed 29 = .ok (.iload_n 3, 1) := getB' kX11_feed_1 4 rfl
theorem dX11_feed_30 : decode cX11_feed 30 = .ok (.invokevirtual 202, 3) := getB' kX11_feed_1 5 rfl
theorem dX11_feed_33 : decode cX11_feed 33 = .ok (.aload_n 0, 1) := getB' kX11_feed_1 6 rfl
theorem dX11_feed_34 : decode cX11_feed 34 = .ok (.iload 4, 2) := getB' kX11_feed_1 7 rfl
theorem dX11_feed_36 : decode cX11_feed 36 = .ok (.invokevirtual 202, 3) := getB' kX11_feed_1 8 rfl
theorem dX11_feed_39 : decode cX11_feed 39 = .ok (.aload_n 0, 1) := getB' kX11_feed_1 9 rfl
theorem dX11_feed_40 : decode cX11_feed 40 = .ok (.iload 5, 2) := getB' kX11_feed_1 10 rfl
theorem dX11_feed_42 : decode cX11_feed 42 = .ok (.invokevirtual 202, 3) := getB' kX11_feed_1 11 rfl
def LX11_feed_2 : List (Nat × Instr × Nat) := [(45, .aload_n 0, 1), (46, .getfield 91, 3), (49, .getfield 199, 3), (52, .ireturn, 1)]
theorem kX11_feed_2 : chkB cX11_feed LX11_feed_2 = true := by decide +kernel
theorem dX11_feed_45 : decode cX11_feed 45 = .ok (.aload_n 0, 1) := getB' kX11_feed_2 0 rfl
theorem dX11_feed_46 : decode cX11_feed 46 = .ok (.getfield 91, 3) := getB' kX11_feed_2 1 rfl
theorem dX11_feed_49 : decode cX11_feed 49 = .ok (.getfield 199, 3) := getB' kX11_feed_2 2 rfl
theorem dX11_feed_52 : decode cX11_feed 52 = .ok (.ireturn, 1) := getB' kX11_feed_2 3 rfl
def LX11_feedNumber_0 : List (Nat × Instr × Nat) := [(0, .bipush 24, 2), (2, .istore_n 2, 1), (3, .iload_n 2, 1), (4, .ifCond .lt 28, 3), (7, .aload_n 0, 1), (8, .getfield 91, 3), (11, .iload_n 1, 1), (12, .iload_n 2, 1), (13, .ishr, 1), (14, .sipush 255, 3), (17, .iand, 1), (18, .iconst 0, 1)]
theorem kX11_feedNumber_0 : chkB cX11_feedNumber LX11_feedNumber_0 = true := by decide +kernel
theorem dX11_feedNumber_0 : decode cX11_feedNumber 0 = .ok (.bipush 24, 2) := getB' kX11_feedNumber_0 0 rfl
theorem dX11_feedNumber_2 : decode cX11_feedNumber 2 = .ok (.istore_n 2, 1) := getB' kX11_feedNumber_0 1 rfl
theorem dX11_feedNumber_3 : decode cX11_feedNumber 3 = .ok (.iload_n 2, 1) := getB' kX11_feedNumber_0 2 rfl
theorem dX11_feedNumber_4 : decode cX11_feedNumber 4 = .ok (.ifCond .lt 28, 3) := getB' kX11_feedNumber_0 3 rfl
theorem dX11_feedNumber_7 : decode cX11_feedNumber 7 = .ok (.aload_n 0, 1) := getB' kX11_feedNumber_0 4 rfl
theorem dX11_feedNumber_8 : decode cX11_feedNumber 8 = .ok (.getfield 91, 3) := getB' kX11_feedNumber_0 5 rfl
theorem dX11_feedNumber_11 : decode cX11_feedNumber 11 = .ok (.iload_n 1, 1) := getB' kX11_feedNumber_0 6 rfl
theorem dX11_feedNumber_12 : decode cX11_feedNumber 12 = .ok (.iload_n 2, 1) := getB' kX11_feedNumber_0 7 rfl
theorem dX11_feedNumber_13 : decode cX11_feedNumber 13 = .ok (.ishr, 1) := getB' kX11_feedNumber_0 8 rfl
theorem dX11_feedNumber_14 : decode cX11_feedNumber 14 = .ok (.sipush 255, 3) := getB' kX11_feedNumber_0 9 rfl
theorem dX11_feedNumber_17 : decode cX11_feedNumber 17 = .ok (.iand, 1) := getB' kX11_feedNumber_0 10 rfl
theorem dX11_feedNumber_18 : decode cX11_feedNumber 18 = .ok (.iconst 0, 1) := getB' kX11_feedNumber_0 11 rfl
def LX11_feedNumber_1 : List (Nat × Instr × Nat) := [(19, .iconst 0, 1), (20, .iconst 0, 1), (21, .iconst 0, 1), (22, .invokevirtual 205, 3), (25, .pop, 1), (26, .iinc 2 (-8), 3), (29, .goto (-26), 3), (32, .return_, 1)]
theorem kX11_feedNumber_1 : chkB cX11_feedNumber LX11_feedNumber_1 = true := by decide +kernel
theorem dX11_feedNumber_19 : decode cX11_feedNumber 19 = .ok (.iconst 0, 1) := getB' kX11_feedNumber_1 0 rfl
theorem dX11_feedNumber_20 : decode cX11_feedNumber 20 = .ok (.iconst 0, 1) := getB' kX11_feedNumber_1 1 rfl
theorem dX11_feedNumber_21 : decode cX11_feedNumber 21 = .ok (.iconst 0, 1) := getB' kX11_feedNumber_1 2 rfl
theorem dX11_feedNumber_22 : decode cX11_feedNumber 22 = .ok (.invokevirtual 205, 3) := getB' kX11_feedNumber_1 3 rfl
theorem dX11_feedNumber_25 : decode cX11_feedNumber 25 = .ok (.pop, 1) := getB' kX11_feedNumber_1 4 rfl
theorem dX11_feedNumber_26 : decode cX11_feedNumber 26 = .ok (.iinc 2 (-8), 3) := getB' kX11_feedNumber_1 5 rfl
theorem dX11_feedNumber_29 : decode cX11_feedNumber 29 = .ok (.goto (-26), 3) := getB' kX11_feedNumber_1 6 rfl
theorem dX11_feedNumber_32 : decode cX11_feedNumber 32 = .ok (.return_, 1) := getB' kX11_feedNumber_1 7 rfl
def LX11_fedNumber_0 : List (Nat × Instr × Nat) := [(0, .iconst 0, 1), (1, .istore_n 2, 1), (2, .iconst 0, 1), (3, .istore_n 3, 1), (4, .iload_n 3, 1), (5, .iconst 4, 1), (6, .if_icmp .ge 28, 3), (9, .iload_n 2, 1), (10, .bipush 8, 2), (12, .ishl, 1), (13, .aload_n 0, 1), (14, .getfield 91, 3)]
theorem kX11_fedNumber_0 : chkB cX11_fedNumber LX11_fedNumber_0 = true := by decide +kernel
theorem dX11_fedNumber_0 : decode cX11_fedNumber 0 = .ok (.iconst 0, 1) := getB' kX11_fedNumber_0 0 rfl
theorem dX11_fedNumber_1 : decode cX11_fedNumber 1 = .ok (.istore_n 2, 1) := getB' kX11_fedNumber_0 1 rfl
theorem dX11_fedNumber_2 : decode cX11_fedNumber 2 = .ok (.iconst 0, 1) := getB' kX11_fedNumber_0 2 rfl
theorem dX11_fedNumber_3 : decode cX11_fedNumber 3 = .ok (.istore_n 3, 1) := getB' kX11_fedNumber_0 3 rfl
theorem dX11_fedNumber_4 : decode cX11_fedNumber 4 = .ok (.iload_n 3, 1) := getB' kX11_fedNumber_0 4 rfl
theorem dX11_fedNumber_5 : decode cX11_fedNumber 5 = .ok (.iconst 4, 1) := getB' kX11_fedNumber_0 5 rfl
theorem dX11_fedNumber_6 : decode cX11_fedNumber 6 = .ok (.if_icmp .ge 28, 3) := getB' kX11_fedNumber_0 6 rfl
theorem dX11_fedNumber_9 : decode cX11_fedNumber 9 = .ok (.iload_n 2, 1) := getB' kX11_fedNumber_0 7 rfl
theorem dX11_fedNumber_10 : decode cX11_fedNumber 10 = .ok (.bipush 8, 2) := getB' kX11_fedNumber_0 8 rfl
theorem dX11_fedNumber_12 : decode cX11_fedNumber 12 = .ok (.ishl, 1) := getB' kX11_fedNumber_0 9 rfl
theorem dX11_fedNumber_13 : decode cX11_fedNumber 13 = .ok (.aload_n 0, 1) := getB' kX11_fedNumber_0 10 rfl
theorem dX11_fedNumber_14 : decode cX11_fedNumber 14 = .ok (.getfield 91, 3) := getB' kX11_fedNumber_0 11 rfl
def LX11_fedNumber_1 : List (Nat × Instr × Nat) := [(17, .iconst 4, 1), (18, .iload_n 1, 1), (19, .imul, 1), (20, .iload_n 3, 1), (21, .iadd, 1), (22, .iconst 0, 1), (23, .invokevirtual 209, 3), (26, .ior, 1), (27, .istore_n 2, 1), (28, .iinc 3 1, 3), (31, .goto (-27), 3), (34, .iload_n 2, 1)]
theorem kX11_fedNumber_1 : chkB cX11_fedNumber LX11_fedNumber_1 = true := by decide +kernel
theorem dX11_fedNumber_17 : decode cX11_fedNumber 17 = .ok (.iconst 4, 1) := getB' kX11_fedNumber_1 0 rfl
theorem dX11_fedNumber_18 : decode cX11_fedNumber 18 = .ok (.iload_n 1, 1) := getB' kX11_fedNumber_1 1 rfl
theorem dX11_fedNumber_19 : decode cX11_fedNumber 19 = .ok (.imul, 1) := getB' kX11_fedNumber_1 2 rfl
theorem dX11_fedNumber_20 : decode cX11_fedNumber 20 = .ok (.iload_n 3, 1) := getB' kX11_fedNumber_1 3 rfl
theorem dX11_fedNumber_21 : decode cX11_fedNumber 21 = .ok (.iadd, 1) := getB' kX11_fedNumber_1 4 rfl
theorem dX11_fedNumber_22 : decode cX11_fedNumber 22 = .ok (.iconst 0, 1) := getB' kX11_fedNumber_1 5 rfl
theorem dX11_fedNumber_23 : decode cX11_fedNumber 23 = .ok (.invokevirtual 209, 3) := getB' kX11_fedNumber_1 6 rfl
theorem dX11_fedNumber_26 : decode cX11_fedNumber 26 = .ok (.ior, 1) := getB' kX11_fedNumber_1 7 rfl
theorem dX11_fedNumber_27 : decode cX11_fedNumber 27 = .ok (.istore_n 2, 1) := getB' kX11_fedNumber_1 8 rfl
theorem dX11_fedNumber_28 : decode cX11_fedNumber 28 = .ok (.iinc 3 1, 3) := getB' kX11_fedNumber_1 9 rfl
theorem dX11_fedNumber_31 : decode cX11_fedNumber 31 = .ok (.goto (-27), 3) := getB' kX11_fedNumber_1 10 rfl
theorem dX11_fedNumber_34 : decode cX11_fedNumber 34 = .ok (.iload_n 2, 1) := getB' kX11_fedNumber_1 11 rfl
def LX11_fedNumber_2 : List (Nat × Instr × Nat) := [(35, .ireturn, 1)]
theorem kX11_fedNumber_2 : chkB cX11_fedNumber LX11_fedNumber_2 = true := by decide +kernel
theorem dX11_fedNumber_35 : decode cX11_fedNumber 35 = .ok (.ireturn, 1) := getB' kX11_fedNumber_2 0 rfl
def LX11_text_0 : List (Nat × Instr × Nat) := [(0, .iload_n 1, 1), (1, .iload_n 2, 1), (2, .invokestatic 213, 3), (5, .ifCond .eq 37, 3), (8, .iload_n 3, 1), (9, .iconst 1, 1), (10, .sipush 200, 3), (13, .invokestatic 112, 3), (16, .ifCond .eq 26, 3), (19, .aload_n 0, 1), (20, .getfield 19, 3), (23, .getfield 216, 3)]
theorem kX11_text_0 : chkB cX11_text LX11_text_0 = true := by decide +kernel
theorem dX11_text_0 : decode cX11_text 0 = .ok (.iload_n 1, 1) := getB' kX11_text_0 0 rfl
theorem dX11_text_1 : decode cX11_text 1 = .ok (.iload_n 2, 1) := getB' kX11_text_0 1 rfl
theorem dX11_text_2 : decode cX11_text 2 = .ok (.invokestatic 213, 3) := getB' kX11_text_0 2 rfl
theorem dX11_text_5 : decode cX11_text 5 = .ok (.ifCond .eq 37, 3) := getB' kX11_text_0 3 rfl
theorem dX11_text_8 : decode cX11_text 8 = .ok (.iload_n 3, 1) := getB' kX11_text_0 4 rfl
theorem dX11_text_9 : decode cX11_text 9 = .ok (.iconst 1, 1) := getB' kX11_text_0 5 rfl
theorem dX11_text_10 : decode cX11_text 10 = .ok (.sipush 200, 3) := getB' kX11_text_0 6 rfl
theorem dX11_text_13 : decode cX11_text 13 = .ok (.invokestatic 112, 3) := getB' kX11_text_0 7 rfl
theorem dX11_text_16 : decode cX11_text 16 = .ok (.ifCond .eq 26, 3) := getB' kX11_text_0 8 rfl
theorem dX11_text_19 : decode cX11_text 19 = .ok (.aload_n 0, 1) := getB' kX11_text_0 9 rfl
theorem dX11_text_20 : decode cX11_text 20 = .ok (.getfield 19, 3) := getB' kX11_text_0 10 rfl
theorem dX11_text_23 : decode cX11_text 23 = .ok (.getfield 216, 3) := getB' kX11_text_0 11 rfl
def LX11_text_1 : List (Nat × Instr × Nat) := [(26, .bipush 20, 2), (28, .if_icmp .ge 14, 3), (31, .iload_n 3, 1), (32, .aload_n 0, 1), (33, .getfield 91, 3), (36, .getfield 199, 3), (39, .if_icmp .le 5, 3), (42, .iconst (-1), 1), (43, .ireturn, 1), (44, .new 219, 3), (47, .dup, 1), (48, .iload_n 1, 1)]
theorem kX11_text_1 : chkB cX11_text LX11_text_1 = true := by decide +kernel
theorem dX11_text_26 : decode cX11_text 26 = .ok (.bipush 20, 2) := getB' kX11_text_1 0 rfl
theorem dX11_text_28 : decode cX11_text 28 = .ok (.if_icmp .ge 14, 3) := getB' kX11_text_1 1 rfl
theorem dX11_text_31 : decode cX11_text 31 = .ok (.iload_n 3, 1) := getB' kX11_text_1 2 rfl
theorem dX11_text_32 : decode cX11_text 32 = .ok (.aload_n 0, 1) := getB' kX11_text_1 3 rfl
theorem dX11_text_33 : decode cX11_text 33 = .ok (.getfield 91, 3) := getB' kX11_text_1 4 rfl
theorem dX11_text_36 : decode cX11_text 36 = .ok (.getfield 199, 3) := getB' kX11_text_1 5 rfl
theorem dX11_text_39 : decode cX11_text 39 = .ok (.if_icmp .le 5, 3) := getB' kX11_text_1 6 rfl
theorem dX11_text_42 : decode cX11_text 42 = .ok (.iconst (-1), 1) := getB' kX11_text_1 7 rfl
theorem dX11_text_43 : decode cX11_text 43 = .ok (.ireturn, 1) := getB' kX11_text_1 8 rfl
theorem dX11_text_44 : decode cX11_text 44 = .ok (.new 219, 3) := getB' kX11_text_1 9 rfl
theorem dX11_text_47 : decode cX11_text 47 = .ok (.dup, 1) := getB' kX11_text_1 10 rfl
theorem dX11_text_48 : decode cX11_text 48 = .ok (.iload_n 1, 1) := getB' kX11_text_1 11 rfl
def LX11_text_2 : List (Nat × Instr × Nat) := [(49, .iload_n 2, 1), (50, .iload_n 3, 1), (51, .bipush 12, 2), (53, .invokespecial 221, 3), (56, .astore 4, 2), (58, .new 224, 3), (61, .dup, 1), (62, .aload_n 0, 1), (63, .getfield 91, 3), (66, .getfield 226, 3), (69, .iload_n 3, 1), (70, .aload 4, 2)]
theorem kX11_text_2 : chkB cX11_text LX11_text_2 = true := by decide +kernel
theorem dX11_text_49 : decode cX11_text 49 = .ok (.iload_n 2, 1) := getB' kX11_text_2 0 rfl
theorem dX11_text_50 : decode cX11_text 50 = .ok (.iload_n 3, 1) := getB' kX11_text_2 1 rfl
theorem dX11_text_51 : decode cX11_text 51 = .ok (.bipush 12, 2) := getB' kX11_text_2 2 rfl
theorem dX11_text_53 : decode cX11_text 53 = .ok (.invokespecial 221, 3) := getB' kX11_text_2 3 rfl
theorem dX11_text_56 : decode cX11_text 56 = .ok (.astore 4, 2) := getB' kX11_text_2 4 rfl
theorem dX11_text_58 : decode cX11_text 58 = .ok (.new 224, 3) := getB' kX11_text_2 5 rfl
theorem dX11_text_61 : decode cX11_text 61 = .ok (.dup, 1) := getB' kX11_text_2 6 rfl
theorem dX11_text_62 : decode cX11_text 62 = .ok (.aload_n 0, 1) := getB' kX11_text_2 7 rfl
theorem dX11_text_63 : decode cX11_text 63 = .ok (.getfield 91, 3) := getB' kX11_text_2 8 rfl
theorem dX11_text_66 : decode cX11_text 66 = .ok (.getfield 226, 3) := getB' kX11_text_2 9 rfl
theorem dX11_text_69 : decode cX11_text 69 = .ok (.iload_n 3, 1) := getB' kX11_text_2 10 rfl
theorem dX11_text_70 : decode cX11_text 70 = .ok (.aload 4, 2) := getB' kX11_text_2 11 rfl
def LX11_text_3 : List (Nat × Instr × Nat) := [(72, .invokespecial 229, 3), (75, .astore 5, 2), (77, .aload 5, 2), (79, .invokevirtual 232, 3), (82, .aload_n 0, 1), (83, .getfield 91, 3), (86, .iconst 0, 1), (87, .putfield 199, 3), (90, .aload 5, 2), (92, .getfield 235, 3), (95, .ifCond .eq 11, 3), (98, .aload 5, 2)]
theorem kX11_text_3 : chkB cX11_text LX11_text_3 = true := by decide +kernel
theorem dX11_text_72 : decode cX11_text 72 = .ok (.invokespecial 229, 3) := getB' kX11_text_3 0 rfl
theorem dX11_text_75 : decode cX11_text 75 = .ok (.astore 5, 2) := getB' kX11_text_3 1 rfl
theorem dX11_text_77 : decode cX11_text 77 = .ok (.aload 5, 2) := getB' kX11_text_3 2 rfl
theorem dX11_text_79 : decode cX11_text 79 = .ok (.invokevirtual 232, 3) := getB' kX11_text_3 3 rfl
theorem dX11_text_82 : decode cX11_text 82 = .ok (.aload_n 0, 1) := getB' kX11_text_3 4 rfl
theorem dX11_text_83 : decode cX11_text 83 = .ok (.getfield 91, 3) := getB' kX11_text_3 5 rfl
theorem dX11_text_86 : decode cX11_text 86 = .ok (.iconst 0, 1) := getB' kX11_text_3 6 rfl
theorem dX11_text_87 : decode cX11_text 87 = .ok (.putfield 199, 3) := getB' kX11_text_3 7 rfl
theorem dX11_text_90 : decode cX11_text 90 = .ok (.aload 5, 2) := getB' kX11_text_3 8 rfl
theorem dX11_text_92 : decode cX11_text 92 = .ok (.getfield 235, 3) := getB' kX11_text_3 9 rfl
theorem dX11_text_95 : decode cX11_text 95 = .ok (.ifCond .eq 11, 3) := getB' kX11_text_3 10 rfl
theorem dX11_text_98 : decode cX11_text 98 = .ok (.aload 5, 2) := getB' kX11_text_3 11 rfl
def LX11_text_4 : List (Nat × Instr × Nat) := [(100, .invokevirtual 238, 3), (103, .goto 12, 3), (106, .aload_n 0, 1), (107, .getfield 19, 3), (110, .aload 4, 2), (112, .invokevirtual 242, 3), (115, .ireturn, 1)]
theorem kX11_text_4 : chkB cX11_text LX11_text_4 = true := by decide +kernel
theorem dX11_text_100 : decode cX11_text 100 = .ok (.invokevirtual 238, 3) := getB' kX11_text_4 0 rfl
theorem dX11_text_103 : decode cX11_text 103 = .ok (.goto 12, 3) := getB' kX11_text_4 1 rfl
theorem dX11_text_106 : decode cX11_text 106 = .ok (.aload_n 0, 1) := getB' kX11_text_4 2 rfl
theorem dX11_text_107 : decode cX11_text 107 = .ok (.getfield 19, 3) := getB' kX11_text_4 3 rfl
theorem dX11_text_110 : decode cX11_text 110 = .ok (.aload 4, 2) := getB' kX11_text_4 4 rfl
theorem dX11_text_112 : decode cX11_text 112 = .ok (.invokevirtual 242, 3) := getB' kX11_text_4 5 rfl
theorem dX11_text_115 : decode cX11_text 115 = .ok (.ireturn, 1) := getB' kX11_text_4 6 rfl
def LX11_yes_0 : List (Nat × Instr × Nat) := [(0, .aload_n 0, 1), (1, .iload_n 1, 1), (2, .invokevirtual 151, 3), (5, .astore_n 3, 1), (6, .aload_n 3, 1), (7, .ifnull 30, 3), (10, .iload_n 2, 1), (11, .ifCond .eq 26, 3), (14, .aload_n 0, 1), (15, .getfield 19, 3), (18, .iload_n 2, 1), (19, .invokevirtual 246, 3)]
theorem kX11_yes_0 : chkB cX11_yes LX11_yes_0 = true := by decide +kernel
theorem dX11_yes_0 : decode cX11_yes 0 = .ok (.aload_n 0, 1) := getB' kX11_yes_0 0 rfl
theorem dX11_yes_1 : decode cX11_yes 1 = .ok (.iload_n 1, 1) := getB' kX11_yes_0 1 rfl
theorem dX11_yes_2 : decode cX11_yes 2 = .ok (.invokevirtual 151, 3) := getB' kX11_yes_0 2 rfl
theorem dX11_yes_5 : decode cX11_yes 5 = .ok (.astore_n 3, 1) := getB' kX11_yes_0 3 rfl
theorem dX11_yes_6 : decode cX11_yes 6 = .ok (.aload_n 3, 1) := getB' kX11_yes_0 4 rfl
theorem dX11_yes_7 : decode cX11_yes 7 = .ok (.ifnull 30, 3) := getB' kX11_yes_0 5 rfl
theorem dX11_yes_10 : decode cX11_yes 10 = .ok (.iload_n 2, 1) := getB' kX11_yes_0 6 rfl
theorem dX11_yes_11 : decode cX11_yes 11 = .ok (.ifCond .eq 26, 3) := getB' kX11_yes_0 7 rfl
theorem dX11_yes_14 : decode cX11_yes 14 = .ok (.aload_n 0, 1) := getB' kX11_yes_0 8 rfl
theorem dX11_yes_15 : decode cX11_yes 15 = .ok (.getfield 19, 3) := getB' kX11_yes_0 9 rfl
theorem dX11_yes_18 : decode cX11_yes 18 = .ok (.iload_n 2, 1) := getB' kX11_yes_0 10 rfl
theorem dX11_yes_19 : decode cX11_yes 19 = .ok (.invokevirtual 246, 3) := getB' kX11_yes_0 11 rfl
def LX11_yes_1 : List (Nat × Instr × Nat) := [(22, .ifnull 15, 3), (25, .aload_n 3, 1), (26, .getfield 250, 3), (29, .iload_n 2, 1), (30, .invokestatic 253, 3), (33, .iconst (-1), 1), (34, .if_icmp .eq 5, 3), (37, .iconst 0, 1), (38, .ireturn, 1), (39, .aload_n 3, 1), (40, .getfield 250, 3), (43, .iload_n 2, 1)]
theorem kX11_yes_1 : chkB cX11_yes LX11_yes_1 = true := by decide +kernel
theorem dX11_yes_22 : decode cX11_yes 22 = .ok (.ifnull 15, 3) := getB' kX11_yes_1 0 rfl
theorem dX11_yes_25 : decode cX11_yes 25 = .ok (.aload_n 3, 1) := getB' kX11_yes_1 1 rfl
theorem dX11_yes_26 : decode cX11_yes 26 = .ok (.getfield 250, 3) := getB' kX11_yes_1 2 rfl
theorem dX11_yes_29 : decode cX11_yes 29 = .ok (.iload_n 2, 1) := getB' kX11_yes_1 3 rfl
theorem dX11_yes_30 : decode cX11_yes 30 = .ok (.invokestatic 253, 3) := getB' kX11_yes_1 4 rfl
theorem dX11_yes_33 : decode cX11_yes 33 = .ok (.iconst (-1), 1) := getB' kX11_yes_1 5 rfl
theorem dX11_yes_34 : decode cX11_yes 34 = .ok (.if_icmp .eq 5, 3) := getB' kX11_yes_1 6 rfl
theorem dX11_yes_37 : decode cX11_yes 37 = .ok (.iconst 0, 1) := getB' kX11_yes_1 7 rfl
theorem dX11_yes_38 : decode cX11_yes 38 = .ok (.ireturn, 1) := getB' kX11_yes_1 8 rfl
theorem dX11_yes_39 : decode cX11_yes 39 = .ok (.aload_n 3, 1) := getB' kX11_yes_1 9 rfl
theorem dX11_yes_40 : decode cX11_yes 40 = .ok (.getfield 250, 3) := getB' kX11_yes_1 10 rfl
theorem dX11_yes_43 : decode cX11_yes 43 = .ok (.iload_n 2, 1) := getB' kX11_yes_1 11 rfl
def LX11_yes_2 : List (Nat × Instr × Nat) := [(44, .aload_n 0, 1), (45, .getfield 12, 3), (48, .getfield 145, 3), (51, .invokestatic 108, 3), (54, .aload_n 0, 1), (55, .getfield 19, 3), (58, .invokevirtual 256, 3), (61, .iconst 1, 1), (62, .ireturn, 1)]
theorem kX11_yes_2 : chkB cX11_yes LX11_yes_2 = true := by decide +kernel
theorem dX11_yes_44 : decode cX11_yes 44 = .ok (.aload_n 0, 1) := getB' kX11_yes_2 0 rfl
theorem dX11_yes_45 : decode cX11_yes 45 = .ok (.getfield 12, 3) := getB' kX11_yes_2 1 rfl
theorem dX11_yes_48 : decode cX11_yes 48 = .ok (.getfield 145, 3) := getB' kX11_yes_2 2 rfl
theorem dX11_yes_51 : decode cX11_yes 51 = .ok (.invokestatic 108, 3) := getB' kX11_yes_2 3 rfl
theorem dX11_yes_54 : decode cX11_yes 54 = .ok (.aload_n 0, 1) := getB' kX11_yes_2 4 rfl
theorem dX11_yes_55 : decode cX11_yes 55 = .ok (.getfield 19, 3) := getB' kX11_yes_2 5 rfl
theorem dX11_yes_58 : decode cX11_yes 58 = .ok (.invokevirtual 256, 3) := getB' kX11_yes_2 6 rfl
theorem dX11_yes_61 : decode cX11_yes 61 = .ok (.iconst 1, 1) := getB' kX11_yes_2 7 rfl
theorem dX11_yes_62 : decode cX11_yes 62 = .ok (.ireturn, 1) := getB' kX11_yes_2 8 rfl
def LX11_reading_0 : List (Nat × Instr × Nat) := [(0, .aload_n 0, 1), (1, .getfield 19, 3), (4, .iload_n 2, 1), (5, .invokevirtual 246, 3), (8, .astore 5, 2), (10, .aload_n 0, 1), (11, .iload_n 1, 1), (12, .invokevirtual 151, 3), (15, .ifnull 17, 3), (18, .aload 5, 2), (20, .ifnull 12, 3), (23, .aload 5, 2)]
theorem kX11_reading_0 : chkB cX11_reading LX11_reading_0 = true := by decide +kernel
theorem dX11_reading_0 : decode cX11_reading 0 = .ok (.aload_n 0, 1) := getB' kX11_reading_0 0 rfl
theorem dX11_reading_1 : decode cX11_reading 1 = .ok (.getfield 19, 3) := getB' kX11_reading_0 1 rfl
theorem dX11_reading_4 : decode cX11_reading 4 = .ok (.iload_n 2, 1) := getB' kX11_reading_0 2 rfl
theorem dX11_reading_5 : decode cX11_reading 5 = .ok (.invokevirtual 246, 3) := getB' kX11_reading_0 3 rfl
theorem dX11_reading_8 : decode cX11_reading 8 = .ok (.astore 5, 2) := getB' kX11_reading_0 4 rfl
theorem dX11_reading_10 : decode cX11_reading 10 = .ok (.aload_n 0, 1) := getB' kX11_reading_0 5 rfl
theorem dX11_reading_11 : decode cX11_reading 11 = .ok (.iload_n 1, 1) := getB' kX11_reading_0 6 rfl
theorem dX11_reading_12 : decode cX11_reading 12 = .ok (.invokevirtual 151, 3) := getB' kX11_reading_0 7 rfl
theorem dX11_reading_15 : decode cX11_reading 15 = .ok (.ifnull 17, 3) := getB' kX11_reading_0 8 rfl
theorem dX11_reading_18 : decode cX11_reading 18 = .ok (.aload 5, 2) := getB' kX11_reading_0 9 rfl
theorem dX11_reading_20 : decode cX11_reading 20 = .ok (.ifnull 12, 3) := getB' kX11_reading_0 10 rfl
theorem dX11_reading_23 : decode cX11_reading 23 = .ok (.aload 5, 2) := getB' kX11_reading_0 11 rfl
def LX11_reading_1 : List (Nat × Instr × Nat) := [(25, .iload_n 3, 1), (26, .invokevirtual 259, 3), (29, .ifCond .ne 5, 3), (32, .iconst (-1), 1), (33, .ireturn, 1), (34, .iload 4, 2), (36, .iconst 1, 1), (37, .bipush 100, 2), (39, .invokestatic 112, 3), (42, .ifCond .eq 28, 3), (45, .aload_n 0, 1), (46, .getfield 19, 3)]
theorem kX11_reading_1 : chkB cX11_reading LX11_reading_1 = true := by decide +kernel
theorem dX11_reading_25 : decode cX11_reading 25 = .ok (.iload_n 3, 1) := getB' kX11_reading_1 0 rfl
theorem dX11_reading_26 : decode cX11_reading 26 = .ok (.invokevirtual 259, 3) := getB' kX11_reading_1 1 rfl
theorem dX11_reading_29 : decode cX11_reading 29 = .ok (.ifCond .ne 5, 3) := getB' kX11_reading_1 2 rfl
theorem dX11_reading_32 : decode cX11_reading 32 = .ok (.iconst (-1), 1) := getB' kX11_reading_1 3 rfl
theorem dX11_reading_33 : decode cX11_reading 33 = .ok (.ireturn, 1) := getB' kX11_reading_1 4 rfl
theorem dX11_reading_34 : decode cX11_reading 34 = .ok (.iload 4, 2) := getB' kX11_reading_1 5 rfl
theorem dX11_reading_36 : decode cX11_reading 36 = .ok (.iconst 1, 1) := getB' kX11_reading_1 6 rfl
theorem dX11_reading_37 : decode cX11_reading 37 = .ok (.bipush 100, 2) := getB' kX11_reading_1 7 rfl
theorem dX11_reading_39 : decode cX11_reading 39 = .ok (.invokestatic 112, 3) := getB' kX11_reading_1 8 rfl
theorem dX11_reading_42 : decode cX11_reading 42 = .ok (.ifCond .eq 28, 3) := getB' kX11_reading_1 9 rfl
theorem dX11_reading_45 : decode cX11_reading 45 = .ok (.aload_n 0, 1) := getB' kX11_reading_1 10 rfl
theorem dX11_reading_46 : decode cX11_reading 46 = .ok (.getfield 19, 3) := getB' kX11_reading_1 11 rfl
def LX11_reading_2 : List (Nat × Instr × Nat) := [(49, .getfield 262, 3), (52, .invokevirtual 265, 3), (55, .ifCond .ne 15, 3), (58, .iload 4, 2), (60, .aload_n 0, 1), (61, .getfield 91, 3), (64, .getfield 199, 3), (67, .if_icmp .le 5, 3), (70, .iconst (-1), 1), (71, .ireturn, 1), (72, .new 219, 3), (75, .dup, 1)]
theorem kX11_reading_2 : chkB cX11_reading LX11_reading_2 = true := by decide +kernel
theorem dX11_reading_49 : decode cX11_reading 49 = .ok (.getfield 262, 3) := getB' kX11_reading_2 0 rfl
theorem dX11_reading_52 : decode cX11_reading 52 = .ok (.invokevirtual 265, 3) := getB' kX11_reading_2 1 rfl
theorem dX11_reading_55 : decode cX11_reading 55 = .ok (.ifCond .ne 15, 3) := getB' kX11_reading_2 2 rfl
theorem dX11_reading_58 : decode cX11_reading 58 = .ok (.iload 4, 2) := getB' kX11_reading_2 3 rfl
theorem dX11_reading_60 : decode cX11_reading 60 = .ok (.aload_n 0, 1) := getB' kX11_reading_2 4 rfl
theorem dX11_reading_61 : decode cX11_reading 61 = .ok (.getfield 91, 3) := getB' kX11_reading_2 5 rfl
theorem dX11_reading_64 : decode cX11_reading 64 = .ok (.getfield 199, 3) := getB' kX11_reading_2 6 rfl
theorem dX11_reading_67 : decode cX11_reading 67 = .ok (.if_icmp .le 5, 3) := getB' kX11_reading_2 7 rfl
theorem dX11_reading_70 : decode cX11_reading 70 = .ok (.iconst (-1), 1) := getB' kX11_reading_2 8 rfl
theorem dX11_reading_71 : decode cX11_reading 71 = .ok (.ireturn, 1) := getB' kX11_reading_2 9 rfl
theorem dX11_reading_72 : decode cX11_reading 72 = .ok (.new 219, 3) := getB' kX11_reading_2 10 rfl
theorem dX11_reading_75 : decode cX11_reading 75 = .ok (.dup, 1) := getB' kX11_reading_2 11 rfl
def LX11_reading_3 : List (Nat × Instr × Nat) := [(76, .iconst 0, 1), (77, .iconst 0, 1), (78, .iload 4, 2), (80, .iconst 1, 1), (81, .invokespecial 221, 3), (84, .astore 6, 2), (86, .new 224, 3), (89, .dup, 1), (90, .aload_n 0, 1), (91, .getfield 91, 3), (94, .getfield 226, 3), (97, .iload 4, 2)]
theorem kX11_reading_3 : chkB cX11_reading LX11_reading_3 = true := by decide +kernel
theorem dX11_reading_76 : decode cX11_reading 76 = .ok (.iconst 0, 1) := getB' kX11_reading_3 0 rfl
theorem dX11_reading_77 : decode cX11_reading 77 = .ok (.iconst 0, 1) := getB' kX11_reading_3 1 rfl
theorem dX11_reading_78 : decode cX11_reading 78 = .ok (.iload 4, 2) := getB' kX11_reading_3 2 rfl
theorem dX11_reading_80 : decode cX11_reading 80 = .ok (.iconst 1, 1) := getB' kX11_reading_3 3 rfl
theorem dX11_reading_81 : decode cX11_reading 81 = .ok (.invokespecial 221, 3) := getB' kX11_reading_3 4 rfl
theorem dX11_reading_84 : decode cX11_reading 84 = .ok (.astore 6, 2) := getB' kX11_reading_3 5 rfl
theorem dX11_reading_86 : decode cX11_reading 86 = .ok (.new 224, 3) := getB' kX11_reading_3 6 rfl
theorem dX11_reading_89 : decode cX11_reading 89 = .ok (.dup, 1) := getB' kX11_reading_3 7 rfl
theorem dX11_reading_90 : decode cX11_reading 90 = .ok (.aload_n 0, 1) := getB' kX11_reading_3 8 rfl
theorem dX11_reading_91 : decode cX11_reading 91 = .ok (.getfield 91, 3) := getB' kX11_reading_3 9 rfl
theorem dX11_reading_94 : decode cX11_reading 94 = .ok (.getfield 226, 3) := getB' kX11_reading_3 10 rfl
theorem dX11_reading_97 : decode cX11_reading 97 = .ok (.iload 4, 2) := getB' kX11_reading_3 11 rfl
def LX11_reading_4 : List (Nat × Instr × Nat) := [(99, .aload 6, 2), (101, .invokespecial 229, 3), (104, .astore 7, 2), (106, .aload 7, 2), (108, .invokevirtual 269, 3), (111, .aload_n 0, 1), (112, .getfield 91, 3), (115, .iconst 0, 1), (116, .putfield 199, 3), (119, .aload 7, 2), (121, .getfield 235, 3), (124, .ifCond .eq 9, 3)]
theorem kX11_reading_4 : chkB cX11_reading LX11_reading_4 = true := by decide +kernel
theorem dX11_reading_99 : decode cX11_reading 99 = .ok (.aload 6, 2) := getB' kX11_reading_4 0 rfl
theorem dX11_reading_101 : decode cX11_reading 101 = .ok (.invokespecial 229, 3) := getB' kX11_reading_4 1 rfl
theorem dX11_reading_104 : decode cX11_reading 104 = .ok (.astore 7, 2) := getB' kX11_reading_4 2 rfl
theorem dX11_reading_106 : decode cX11_reading 106 = .ok (.aload 7, 2) := getB' kX11_reading_4 3 rfl
theorem dX11_reading_108 : decode cX11_reading 108 = .ok (.invokevirtual 269, 3) := getB' kX11_reading_4 4 rfl
theorem dX11_reading_111 : decode cX11_reading 111 = .ok (.aload_n 0, 1) := getB' kX11_reading_4 5 rfl
theorem dX11_reading_112 : decode cX11_reading 112 = .ok (.getfield 91, 3) := getB' kX11_reading_4 6 rfl
theorem dX11_reading_115 : decode cX11_reading 115 = .ok (.iconst 0, 1) := getB' kX11_reading_4 7 rfl
theorem dX11_reading_116 : decode cX11_reading 116 = .ok (.putfield 199, 3) := getB' kX11_reading_4 8 rfl
theorem dX11_reading_119 : decode cX11_reading 119 = .ok (.aload 7, 2) := getB' kX11_reading_4 9 rfl
theorem dX11_reading_121 : decode cX11_reading 121 = .ok (.getfield 235, 3) := getB' kX11_reading_4 10 rfl
theorem dX11_reading_124 : decode cX11_reading 124 = .ok (.ifCond .eq 9, 3) := getB' kX11_reading_4 11 rfl
def LX11_reading_5 : List (Nat × Instr × Nat) := [(127, .aload 7, 2), (129, .invokevirtual 238, 3), (132, .ireturn, 1), (133, .aload_n 0, 1), (134, .getfield 19, 3), (137, .iload_n 1, 1), (138, .iload_n 2, 1), (139, .iload_n 3, 1), (140, .aload 6, 2), (142, .invokevirtual 272, 3), (145, .iconst 0, 1), (146, .ireturn, 1)]
theorem kX11_reading_5 : chkB cX11_reading LX11_reading_5 = true := by decide +kernel
theorem dX11_reading_127 : decode cX11_reading 127 = .ok (.aload 7, 2) := getB' kX11_reading_5 0 rfl
theorem dX11_reading_129 : decode cX11_reading 129 = .ok (.invokevirtual 238, 3) := getB' kX11_reading_5 1 rfl
theorem dX11_reading_132 : decode cX11_reading 132 = .ok (.ireturn, 1) := getB' kX11_reading_5 2 rfl
theorem dX11_reading_133 : decode cX11_reading 133 = .ok (.aload_n 0, 1) := getB' kX11_reading_5 3 rfl
theorem dX11_reading_134 : decode cX11_reading 134 = .ok (.getfield 19, 3) := getB' kX11_reading_5 4 rfl
theorem dX11_reading_137 : decode cX11_reading 137 = .ok (.iload_n 1, 1) := getB' kX11_reading_5 5 rfl
theorem dX11_reading_138 : decode cX11_reading 138 = .ok (.iload_n 2, 1) := getB' kX11_reading_5 6 rfl
theorem dX11_reading_139 : decode cX11_reading 139 = .ok (.iload_n 3, 1) := getB' kX11_reading_5 7 rfl
theorem dX11_reading_140 : decode cX11_reading 140 = .ok (.aload 6, 2) := getB' kX11_reading_5 8 rfl
theorem dX11_reading_142 : decode cX11_reading 142 = .ok (.invokevirtual 272, 3) := getB' kX11_reading_5 9 rfl
theorem dX11_reading_145 : decode cX11_reading 145 = .ok (.iconst 0, 1) := getB' kX11_reading_5 10 rfl
theorem dX11_reading_146 : decode cX11_reading 146 = .ok (.ireturn, 1) := getB' kX11_reading_5 11 rfl
def LX11_counts_0 : List (Nat × Instr × Nat) := [(0, .aload_n 0, 1), (1, .iload_n 2, 1), (2, .invokevirtual 151, 3), (5, .astore 4, 2), (7, .aload 4, 2), (9, .ifnull 21, 3), (12, .aload_n 0, 1), (13, .getfield 19, 3), (16, .iload_n 1, 1), (17, .invokevirtual 246, 3), (20, .ifnull 10, 3), (23, .iload_n 3, 1)]
theorem kX11_counts_0 : chkB cX11_counts LX11_counts_0 = true := by decide +kernel
theorem dX11_counts_0 : decode cX11_counts 0 = .ok (.aload_n 0, 1) := getB' kX11_counts_0 0 rfl
theorem dX11_counts_1 : decode cX11_counts 1 = .ok (.iload_n 2, 1) := getB' kX11_counts_0 1 rfl
theorem dX11_counts_2 : decode cX11_counts 2 = .ok (.invokevirtual 151, 3) := getB' kX11_counts_0 2 rfl
theorem dX11_counts_5 : decode cX11_counts 5 = .ok (.astore 4, 2) := getB' kX11_counts_0 3 rfl
theorem dX11_counts_7 : decode cX11_counts 7 = .ok (.aload 4, 2) := getB' kX11_counts_0 4 rfl
theorem dX11_counts_9 : decode cX11_counts 9 = .ok (.ifnull 21, 3) := getB' kX11_counts_0 5 rfl
theorem dX11_counts_12 : decode cX11_counts 12 = .ok (.aload_n 0, 1) := getB' kX11_counts_0 6 rfl
theorem dX11_counts_13 : decode cX11_counts 13 = .ok (.getfield 19, 3) := getB' kX11_counts_0 7 rfl
theorem dX11_counts_16 : decode cX11_counts 16 = .ok (.iload_n 1, 1) := getB' kX11_counts_0 8 rfl
theorem dX11_counts_17 : decode cX11_counts 17 = .ok (.invokevirtual 246, 3) := getB' kX11_counts_0 9 rfl
theorem dX11_counts_20 : decode cX11_counts 20 = .ok (.ifnull 10, 3) := getB' kX11_counts_0 10 rfl
theorem dX11_counts_23 : decode cX11_counts 23 = .ok (.iload_n 3, 1) := getB' kX11_counts_0 11 rfl
def LX11_counts_1 : List (Nat × Instr × Nat) := [(24, .invokestatic 276, 3), (27, .ifCond .ne 5, 3), (30, .iconst (-1), 1), (31, .ireturn, 1), (32, .aload_n 0, 1), (33, .getfield 19, 3), (36, .iload_n 2, 1), (37, .aload 4, 2), (39, .iload_n 3, 1), (40, .invokevirtual 279, 3), (43, .aload_n 0, 1), (44, .getfield 19, 3)]
theorem kX11_counts_1 : chkB cX11_counts LX11_counts_1 = true := by decide +kernel
theorem dX11_counts_24 : decode cX11_counts 24 = .ok (.invokestatic 276, 3) := getB' kX11_counts_1 0 rfl
theorem dX11_counts_27 : decode cX11_counts 27 = .ok (.ifCond .ne 5, 3) := getB' kX11_counts_1 1 rfl
theorem dX11_counts_30 : decode cX11_counts 30 = .ok (.iconst (-1), 1) := getB' kX11_counts_1 2 rfl
theorem dX11_counts_31 : decode cX11_counts 31 = .ok (.ireturn, 1) := getB' kX11_counts_1 3 rfl
theorem dX11_counts_32 : decode cX11_counts 32 = .ok (.aload_n 0, 1) := getB' kX11_counts_1 4 rfl
theorem dX11_counts_33 : decode cX11_counts 33 = .ok (.getfield 19, 3) := getB' kX11_counts_1 5 rfl
theorem dX11_counts_36 : decode cX11_counts 36 = .ok (.iload_n 2, 1) := getB' kX11_counts_1 6 rfl
theorem dX11_counts_37 : decode cX11_counts 37 = .ok (.aload 4, 2) := getB' kX11_counts_1 7 rfl
theorem dX11_counts_39 : decode cX11_counts 39 = .ok (.iload_n 3, 1) := getB' kX11_counts_1 8 rfl
theorem dX11_counts_40 : decode cX11_counts 40 = .ok (.invokevirtual 279, 3) := getB' kX11_counts_1 9 rfl
theorem dX11_counts_43 : decode cX11_counts 43 = .ok (.aload_n 0, 1) := getB' kX11_counts_1 10 rfl
theorem dX11_counts_44 : decode cX11_counts 44 = .ok (.getfield 19, 3) := getB' kX11_counts_1 11 rfl
def LX11_counts_2 : List (Nat × Instr × Nat) := [(47, .getfield 283, 3), (50, .iload_n 1, 1), (51, .invokestatic 253, 3), (54, .invokestatic 286, 3), (57, .ireturn, 1)]
theorem kX11_counts_2 : chkB cX11_counts LX11_counts_2 = true := by decide +kernel
theorem dX11_counts_47 : decode cX11_counts 47 = .ok (.getfield 283, 3) := getB' kX11_counts_2 0 rfl
theorem dX11_counts_50 : decode cX11_counts 50 = .ok (.iload_n 1, 1) := getB' kX11_counts_2 1 rfl
theorem dX11_counts_51 : decode cX11_counts 51 = .ok (.invokestatic 253, 3) := getB' kX11_counts_2 2 rfl
theorem dX11_counts_54 : decode cX11_counts 54 = .ok (.invokestatic 286, 3) := getB' kX11_counts_2 3 rfl
theorem dX11_counts_57 : decode cX11_counts 57 = .ok (.ireturn, 1) := getB' kX11_counts_2 4 rfl
def LX11_number_0 : List (Nat × Instr × Nat) := [(0, .aload_n 0, 1), (1, .iload_n 2, 1), (2, .invokevirtual 151, 3), (5, .astore 4, 2), (7, .iload_n 1, 1), (8, .bipush 10, 2), (10, .bipush 25, 2), (12, .invokestatic 112, 3), (15, .istore 5, 2), (17, .aload 4, 2), (19, .ifnull 24, 3), (22, .iload_n 3, 1)]
theorem kX11_number_0 : chkB cX11_number LX11_number_0 = true := by decide +kernel
theorem dX11_number_0 : decode cX11_number 0 = .ok (.aload_n 0, 1) := getB' kX11_number_0 0 rfl
theorem dX11_number_1 : decode cX11_number 1 = .ok (.iload_n 2, 1) := getB' kX11_number_0 1 rfl
theorem dX11_number_2 : decode cX11_number 2 = .ok (.invokevirtual 151, 3) := getB' kX11_number_0 2 rfl
theorem dX11_number_5 : decode cX11_number 5 = .ok (.astore 4, 2) := getB' kX11_number_0 3 rfl
theorem dX11_number_7 : decode cX11_number 7 = .ok (.iload_n 1, 1) := getB' kX11_number_0 4 rfl
theorem dX11_number_8 : decode cX11_number 8 = .ok (.bipush 10, 2) := getB' kX11_number_0 5 rfl
theorem dX11_number_10 : decode cX11_number 10 = .ok (.bipush 25, 2) := getB' kX11_number_0 6 rfl
theorem dX11_number_12 : decode cX11_number 12 = .ok (.invokestatic 112, 3) := getB' kX11_number_0 7 rfl
theorem dX11_number_15 : decode cX11_number 15 = .ok (.istore 5, 2) := getB' kX11_number_0 8 rfl
theorem dX11_number_17 : decode cX11_number 17 = .ok (.aload 4, 2) := getB' kX11_number_0 9 rfl
theorem dX11_number_19 : decode cX11_number 19 = .ok (.ifnull 24, 3) := getB' kX11_number_0 10 rfl
theorem dX11_number_22 : decode cX11_number 22 = .ok (.iload_n 3, 1) := getB' kX11_number_0 11 rfl
def LX11_number_1 : List (Nat × Instr × Nat) := [(23, .invokestatic 276, 3), (26, .ifCond .eq 17, 3), (29, .iload_n 1, 1), (30, .iconst 0, 1), (31, .iconst 3, 1), (32, .invokestatic 112, 3), (35, .ifCond .ne 10, 3), (38, .iload 5, 2), (40, .ifCond .ne 5, 3), (43, .iconst (-1), 1), (44, .ireturn, 1), (45, .aload_n 0, 1)]
theorem kX11_number_1 : chkB cX11_number LX11_number_1 = true := by decide +kernel
theorem dX11_number_23 : decode cX11_number 23 = .ok (.invokestatic 276, 3) := getB' kX11_number_1 0 rfl
theorem dX11_number_26 : decode cX11_number 26 = .ok (.ifCond .eq 17, 3) := getB' kX11_number_1 1 rfl
theorem dX11_number_29 : decode cX11_number 29 = .ok (.iload_n 1, 1) := getB' kX11_number_1 2 rfl
theorem dX11_number_30 : decode cX11_number 30 = .ok (.iconst 0, 1) := getB' kX11_number_1 3 rfl
theorem dX11_number_31 : decode cX11_number 31 = .ok (.iconst 3, 1) := getB' kX11_number_1 4 rfl
theorem dX11_number_32 : decode cX11_number 32 = .ok (.invokestatic 112, 3) := getB' kX11_number_1 5 rfl
theorem dX11_number_35 : decode cX11_number 35 = .ok (.ifCond .ne 10, 3) := getB' kX11_number_1 6 rfl
theorem dX11_number_38 : decode cX11_number 38 = .ok (.iload 5, 2) := getB' kX11_number_1 7 rfl
theorem dX11_number_40 : decode cX11_number 40 = .ok (.ifCond .ne 5, 3) := getB' kX11_number_1 8 rfl
theorem dX11_number_43 : decode cX11_number 43 = .ok (.iconst (-1), 1) := getB' kX11_number_1 9 rfl
theorem dX11_number_44 : decode cX11_number 44 = .ok (.ireturn, 1) := getB' kX11_number_1 10 rfl
theorem dX11_number_45 : decode cX11_number 45 = .ok (.aload_n 0, 1) := getB' kX11_number_1 11 rfl
def LX11_number_2 : List (Nat × Instr × Nat) := [(46, .getfield 19, 3), (49, .iload_n 2, 1), (50, .aload 4, 2), (52, .iload_n 3, 1), (53, .invokevirtual 279, 3), (56, .iload 5, 2), (58, .ifCond .eq 25, 3), (61, .aload_n 0, 1), (62, .getfield 19, 3), (65, .bipush 107, 2), (67, .iload_n 1, 1), (68, .bipush 10, 2)]
theorem kX11_number_2 : chkB cX11_number LX11_number_2 = true := by decide +kernel
theorem dX11_number_46 : decode cX11_number 46 = .ok (.getfield 19, 3) := getB' kX11_number_2 0 rfl
theorem dX11_number_49 : decode cX11_number 49 = .ok (.iload_n 2, 1) := getB' kX11_number_2 1 rfl
theorem dX11_number_50 : decode cX11_number 50 = .ok (.aload 4, 2) := getB' kX11_number_2 2 rfl
theorem dX11_number_52 : decode cX11_number 52 = .ok (.iload_n 3, 1) := getB' kX11_number_2 3 rfl
theorem dX11_number_53 : decode cX11_number 53 = .ok (.invokevirtual 279, 3) := getB' kX11_number_2 4 rfl
theorem dX11_number_56 : decode cX11_number 56 = .ok (.iload 5, 2) := getB' kX11_number_2 5 rfl
theorem dX11_number_58 : decode cX11_number 58 = .ok (.ifCond .eq 25, 3) := getB' kX11_number_2 6 rfl
theorem dX11_number_61 : decode cX11_number 61 = .ok (.aload_n 0, 1) := getB' kX11_number_2 7 rfl
theorem dX11_number_62 : decode cX11_number 62 = .ok (.getfield 19, 3) := getB' kX11_number_2 8 rfl
theorem dX11_number_65 : decode cX11_number 65 = .ok (.bipush 107, 2) := getB' kX11_number_2 9 rfl
theorem dX11_number_67 : decode cX11_number 67 = .ok (.iload_n 1, 1) := getB' kX11_number_2 10 rfl
theorem dX11_number_68 : decode cX11_number 68 = .ok (.bipush 10, 2) := getB' kX11_number_2 11 rfl
def LX11_number_3 : List (Nat × Instr × Nat) := [(70, .isub, 1), (71, .iconst 4, 1), (72, .idiv, 1), (73, .iload_n 1, 1), (74, .bipush 10, 2), (76, .isub, 1), (77, .iconst 4, 1), (78, .irem, 1), (79, .invokevirtual 292, 3), (82, .ireturn, 1), (83, .iload_n 1, 1), (84, .tableswitch 72 0 2 #[28, 44, 56], 28)]
theorem kX11_number_3 : chkB cX11_number LX11_number_3 = true := by decide +kernel
theorem dX11_number_70 : decode cX11_number 70 = .ok (.isub, 1) := getB' kX11_number_3 0 rfl
theorem dX11_number_71 : decode cX11_number 71 = .ok (.iconst 4, 1) := getB' kX11_number_3 1 rfl
theorem dX11_number_72 : decode cX11_number 72 = .ok (.idiv, 1) := getB' kX11_number_3 2 rfl
theorem dX11_number_73 : decode cX11_number 73 = .ok (.iload_n 1, 1) := getB' kX11_number_3 3 rfl
theorem dX11_number_74 : decode cX11_number 74 = .ok (.bipush 10, 2) := getB' kX11_number_3 4 rfl
theorem dX11_number_76 : decode cX11_number 76 = .ok (.isub, 1) := getB' kX11_number_3 5 rfl
theorem dX11_number_77 : decode cX11_number 77 = .ok (.iconst 4, 1) := getB' kX11_number_3 6 rfl
theorem dX11_number_78 : decode cX11_number 78 = .ok (.irem, 1) := getB' kX11_number_3 7 rfl
theorem dX11_number_79 : decode cX11_number 79 = .ok (.invokevirtual 292, 3) := getB' kX11_number_3 8 rfl
theorem dX11_number_82 : decode cX11_number 82 = .ok (.ireturn, 1) := getB' kX11_number_3 9 rfl
theorem dX11_number_83 : decode cX11_number 83 = .ok (.iload_n 1, 1) := getB' kX11_number_3 10 rfl
theorem dX11_number_84 : decode cX11_number 84 = .ok (.tableswitch 72 0 2 #[28, 44, 56], 28) := getB' kX11_number_3 11 rfl
def LX11_number_4 : List (Nat × Instr × Nat) := [(112, .iconst 0, 1), (113, .aload_n 0, 1), (114, .getfield 19, 3), (117, .bipush 97, 2), (119, .iconst 0, 1), (120, .iconst 0, 1), (121, .invokevirtual 292, 3), (124, .invokestatic 296, 3), (127, .ireturn, 1), (128, .aload_n 0, 1), (129, .getfield 19, 3), (132, .bipush 113, 2)]
theorem kX11_number_4 : chkB cX11_number LX11_number_4 = true := by decide +kernel
theorem dX11_number_112 : decode cX11_number 112 = .ok (.iconst 0, 1) := getB' kX11_number_4 0 rfl
theorem dX11_number_113 : decode cX11_number 113 = .ok (.aload_n 0, 1) := getB' kX11_number_4 1 rfl
theorem dX11_number_114 : decode cX11_number 114 = .ok (.getfield 19, 3) := getB' kX11_number_4 2 rfl
theorem dX11_number_117 : decode cX11_number 117 = .ok (.bipush 97, 2) := getB' kX11_number_4 3 rfl
theorem dX11_number_119 : decode cX11_number 119 = .ok (.iconst 0, 1) := getB' kX11_number_4 4 rfl
theorem dX11_number_120 : decode cX11_number 120 = .ok (.iconst 0, 1) := getB' kX11_number_4 5 rfl
theorem dX11_number_121 : decode cX11_number 121 = .ok (.invokevirtual 292, 3) := getB' kX11_number_4 6 rfl
theorem dX11_number_124 : decode cX11_number 124 = .ok (.invokestatic 296, 3) := getB' kX11_number_4 7 rfl
theorem dX11_number_127 : decode cX11_number 127 = .ok (.ireturn, 1) := getB' kX11_number_4 8 rfl
theorem dX11_number_128 : decode cX11_number 128 = .ok (.aload_n 0, 1) := getB' kX11_number_4 9 rfl
theorem dX11_number_129 : decode cX11_number 129 = .ok (.getfield 19, 3) := getB' kX11_number_4 10 rfl
theorem dX11_number_132 : decode cX11_number 132 = .ok (.bipush 113, 2) := getB' kX11_number_4 11 rfl
def LX11_number_5 : List (Nat × Instr × Nat) := [(134, .iconst 0, 1), (135, .iconst 0, 1), (136, .invokevirtual 292, 3), (139, .ireturn, 1), (140, .iconst 0, 1), (141, .aload_n 0, 1), (142, .getfield 19, 3), (145, .bipush 103, 2), (147, .iconst 0, 1), (148, .iconst 0, 1), (149, .invokevirtual 292, 3), (152, .invokestatic 296, 3)]
theorem kX11_number_5 : chkB cX11_number LX11_number_5 = true := by decide +kernel
theorem dX11_number_134 : decode cX11_number 134 = .ok (.iconst 0, 1) := getB' kX11_number_5 0 rfl
theorem dX11_number_135 : decode cX11_number 135 = .ok (.iconst 0, 1) := getB' kX11_number_5 1 rfl
theorem dX11_number_136 : decode cX11_number 136 = .ok (.invokevirtual 292, 3) := getB' kX11_number_5 2 rfl
theorem dX11_number_139 : decode cX11_number 139 = .ok (.ireturn, 1) := getB' kX11_number_5 3 rfl
theorem dX11_number_140 : decode cX11_number 140 = .ok (.iconst 0, 1) := getB' kX11_number_5 4 rfl
theorem dX11_number_141 : decode cX11_number 141 = .ok (.aload_n 0, 1) := getB' kX11_number_5 5 rfl
theorem dX11_number_142 : decode cX11_number 142 = .ok (.getfield 19, 3) := getB' kX11_number_5 6 rfl
theorem dX11_number_145 : decode cX11_number 145 = .ok (.bipush 103, 2) := getB' kX11_number_5 7 rfl
theorem dX11_number_147 : decode cX11_number 147 = .ok (.iconst 0, 1) := getB' kX11_number_5 8 rfl
theorem dX11_number_148 : decode cX11_number 148 = .ok (.iconst 0, 1) := getB' kX11_number_5 9 rfl
theorem dX11_number_149 : decode cX11_number 149 = .ok (.invokevirtual 292, 3) := getB' kX11_number_5 10 rfl
theorem dX11_number_152 : decode cX11_number 152 = .ok (.invokestatic 296, 3) := getB' kX11_number_5 11 rfl
def LX11_number_6 : List (Nat × Instr × Nat) := [(155, .ireturn, 1), (156, .aload_n 0, 1), (157, .getfield 19, 3), (160, .bipush 122, 2), (162, .iconst 0, 1), (163, .iconst 0, 1), (164, .invokevirtual 292, 3), (167, .iconst (-1), 1), (168, .if_icmp .ne 7, 3), (171, .iconst 0, 1), (172, .goto 4, 3), (175, .iconst 1, 1)]
theorem kX11_number_6 : chkB cX11_number LX11_number_6 = true := by decide +kernel
theorem dX11_number_155 : decode cX11_number 155 = .ok (.ireturn, 1) := getB' kX11_number_6 0 rfl
theorem dX11_number_156 : decode cX11_number 156 = .ok (.aload_n 0, 1) := getB' kX11_number_6 1 rfl
theorem dX11_number_157 : decode cX11_number 157 = .ok (.getfield 19, 3) := getB' kX11_number_6 2 rfl
theorem dX11_number_160 : decode cX11_number 160 = .ok (.bipush 122, 2) := getB' kX11_number_6 3 rfl
theorem dX11_number_162 : decode cX11_number 162 = .ok (.iconst 0, 1) := getB' kX11_number_6 4 rfl
theorem dX11_number_163 : decode cX11_number 163 = .ok (.iconst 0, 1) := getB' kX11_number_6 5 rfl
theorem dX11_number_164 : decode cX11_number 164 = .ok (.invokevirtual 292, 3) := getB' kX11_number_6 6 rfl
theorem dX11_number_167 : decode cX11_number 167 = .ok (.iconst (-1), 1) := getB' kX11_number_6 7 rfl
theorem dX11_number_168 : decode cX11_number 168 = .ok (.if_icmp .ne 7, 3) := getB' kX11_number_6 8 rfl
theorem dX11_number_171 : decode cX11_number 171 = .ok (.iconst 0, 1) := getB' kX11_number_6 9 rfl
theorem dX11_number_172 : decode cX11_number 172 = .ok (.goto 4, 3) := getB' kX11_number_6 10 rfl
theorem dX11_number_175 : decode cX11_number 175 = .ok (.iconst 1, 1) := getB' kX11_number_6 11 rfl
def LX11_number_7 : List (Nat × Instr × Nat) := [(176, .ireturn, 1)]
theorem kX11_number_7 : chkB cX11_number LX11_number_7 = true := by decide +kernel
theorem dX11_number_176 : decode cX11_number 176 = .ok (.ireturn, 1) := getB' kX11_number_7 0 rfl
def LX11_decides_0 : List (Nat × Instr × Nat) := [(0, .aload_n 0, 1), (1, .iload_n 1, 1), (2, .invokevirtual 151, 3), (5, .astore_n 3, 1), (6, .aload_n 3, 1), (7, .ifnull 10, 3), (10, .iload_n 2, 1), (11, .invokestatic 276, 3), (14, .ifCond .ne 5, 3), (17, .iconst (-1), 1), (18, .ireturn, 1), (19, .aload_n 3, 1)]
theorem kX11_decides_0 : chkB cX11_decides LX11_decides_0 = true := by decide +kernel
theorem dX11_decides_0 : decode cX11_decides 0 = .ok (.aload_n 0, 1) := getB' kX11_decides_0 0 rfl
theorem dX11_decides_1 : decode cX11_decides 1 = .ok (.iload_n 1, 1) := getB' kX11_decides_0 1 rfl
theorem dX11_decides_2 : decode cX11_decides 2 = .ok (.invokevirtual 151, 3) := getB' kX11_decides_0 2 rfl
theorem dX11_decides_5 : decode cX11_decides 5 = .ok (.astore_n 3, 1) := getB' kX11_decides_0 3 rfl
theorem dX11_decides_6 : decode cX11_decides 6 = .ok (.aload_n 3, 1) := getB' kX11_decides_0 4 rfl
theorem dX11_decides_7 : decode cX11_decides 7 = .ok (.ifnull 10, 3) := getB' kX11_decides_0 5 rfl
theorem dX11_decides_10 : decode cX11_decides 10 = .ok (.iload_n 2, 1) := getB' kX11_decides_0 6 rfl
theorem dX11_decides_11 : decode cX11_decides 11 = .ok (.invokestatic 276, 3) := getB' kX11_decides_0 7 rfl
theorem dX11_decides_14 : decode cX11_decides 14 = .ok (.ifCond .ne 5, 3) := getB' kX11_decides_0 8 rfl
theorem dX11_decides_17 : decode cX11_decides 17 = .ok (.iconst (-1), 1) := getB' kX11_decides_0 9 rfl
theorem dX11_decides_18 : decode cX11_decides 18 = .ok (.ireturn, 1) := getB' kX11_decides_0 10 rfl
theorem dX11_decides_19 : decode cX11_decides 19 = .ok (.aload_n 3, 1) := getB' kX11_decides_0 11 rfl
def LX11_decides_1 : List (Nat × Instr × Nat) := [(20, .iload_n 2, 1), (21, .invokevirtual 301, 3), (24, .ifCond .eq 7, 3), (27, .iconst 1, 1), (28, .goto 4, 3), (31, .iconst 0, 1), (32, .ireturn, 1)]
theorem kX11_decides_1 : chkB cX11_decides LX11_decides_1 = true := by decide +kernel
theorem dX11_decides_20 : decode cX11_decides 20 = .ok (.iload_n 2, 1) := getB' kX11_decides_1 0 rfl
theorem dX11_decides_21 : decode cX11_decides 21 = .ok (.invokevirtual 301, 3) := getB' kX11_decides_1 1 rfl
theorem dX11_decides_24 : decode cX11_decides 24 = .ok (.ifCond .eq 7, 3) := getB' kX11_decides_1 2 rfl
theorem dX11_decides_27 : decode cX11_decides 27 = .ok (.iconst 1, 1) := getB' kX11_decides_1 3 rfl
theorem dX11_decides_28 : decode cX11_decides 28 = .ok (.goto 4, 3) := getB' kX11_decides_1 4 rfl
theorem dX11_decides_31 : decode cX11_decides 31 = .ok (.iconst 0, 1) := getB' kX11_decides_1 5 rfl
theorem dX11_decides_32 : decode cX11_decides 32 = .ok (.ireturn, 1) := getB' kX11_decides_1 6 rfl
def LX11_claimsAreAsleep_0 : List (Nat × Instr × Nat) := [(0, .aload_n 0, 1), (1, .getfield 19, 3), (4, .iload_n 1, 1), (5, .aload_n 2, 1), (6, .aload_n 0, 1), (7, .getfield 12, 3), (10, .getfield 145, 3), (13, .invokevirtual 279, 3), (16, .aload_n 0, 1), (17, .getfield 19, 3), (20, .bipush 122, 2), (22, .iconst 0, 1)]
theorem kX11_claimsAreAsleep_0 : chkB cX11_claimsAreAsleep LX11_claimsAreAsleep_0 = true := by decide +kernel
theorem dX11_claimsAreAsleep_0 : decode cX11_claimsAreAsleep 0 = .ok (.aload_n 0, 1) := getB' kX11_claimsAreAsleep_0 0 rfl
theorem dX11_claimsAreAsleep_1 : decode cX11_claimsAreAsleep 1 = .ok (.getfield 19, 3) := getB' kX11_claimsAreAsleep_0 1 rfl
theorem dX11_claimsAreAsleep_4 : decode cX11_claimsAreAsleep 4 = .ok (.iload_n 1, 1) := getB' kX11_claimsAreAsleep_0 2 rfl
theorem dX11_claimsAreAsleep_5 : decode cX11_claimsAreAsleep 5 = .ok (.aload_n 2, 1) := getB' kX11_claimsAreAsleep_0 3 rfl
theorem dX11_claimsAreAsleep_6 : decode cX11_claimsAreAsleep 6 = .ok (.aload_n 0, 1) := getB' kX11_claimsAreAsleep_0 4 rfl
theorem dX11_claimsAreAsleep_7 : decode cX11_claimsAreAsleep 7 = .ok (.getfield 12, 3) := getB' kX11_claimsAreAsleep_0 5 rfl
theorem dX11_claimsAreAsleep_10 : decode cX11_claimsAreAsleep 10 = .ok (.getfield 145, 3) := getB' kX11_claimsAreAsleep_0 6 rfl
theorem dX11_claimsAreAsleep_13 : decode cX11_claimsAreAsleep 13 = .ok (.invokevirtual 279, 3) := getB' kX11_claimsAreAsleep_0 7 rfl
theorem dX11_claimsAreAsleep_16 : decode cX11_claimsAreAsleep 16 = .ok (.aload_n 0, 1) := getB' kX11_claimsAreAsleep_0 8 rfl
theorem dX11_claimsAreAsleep_17 : decode cX11_claimsAreAsleep 17 = .ok (.getfield 19, 3) := getB' kX11_claimsAreAsleep_0 9 rfl
theorem dX11_claimsAreAsleep_20 : decode cX11_claimsAreAsleep 20 = .ok (.bipush 122, 2) := getB' kX11_claimsAreAsleep_0 10 rfl
theorem dX11_claimsAreAsleep_22 : decode cX11_claimsAreAsleep 22 = .ok (.iconst 0, 1) := getB' kX11_claimsAreAsleep_0 11 rfl
def LX11_claimsAreAsleep_1 : List (Nat × Instr × Nat) := [(23, .iconst 0, 1), (24, .invokevirtual 292, 3), (27, .iconst (-1), 1), (28, .if_icmp .eq 7, 3), (31, .iconst 1, 1), (32, .goto 4, 3), (35, .iconst 0, 1), (36, .ireturn, 1)]
theorem kX11_claimsAreAsleep_1 : chkB cX11_claimsAreAsleep LX11_claimsAreAsleep_1 = true := by decide +kernel
theorem dX11_claimsAreAsleep_23 : decode cX11_claimsAreAsleep 23 = .ok (.iconst 0, 1) := getB' kX11_claimsAreAsleep_1 0 rfl
theorem dX11_claimsAreAsleep_24 : decode cX11_claimsAreAsleep 24 = .ok (.invokevirtual 292, 3) := getB' kX11_claimsAreAsleep_1 1 rfl
theorem dX11_claimsAreAsleep_27 : decode cX11_claimsAreAsleep 27 = .ok (.iconst (-1), 1) := getB' kX11_claimsAreAsleep_1 2 rfl
theorem dX11_claimsAreAsleep_28 : decode cX11_claimsAreAsleep 28 = .ok (.if_icmp .eq 7, 3) := getB' kX11_claimsAreAsleep_1 3 rfl
theorem dX11_claimsAreAsleep_31 : decode cX11_claimsAreAsleep 31 = .ok (.iconst 1, 1) := getB' kX11_claimsAreAsleep_1 4 rfl
theorem dX11_claimsAreAsleep_32 : decode cX11_claimsAreAsleep 32 = .ok (.goto 4, 3) := getB' kX11_claimsAreAsleep_1 5 rfl
theorem dX11_claimsAreAsleep_35 : decode cX11_claimsAreAsleep 35 = .ok (.iconst 0, 1) := getB' kX11_claimsAreAsleep_1 6 rfl
theorem dX11_claimsAreAsleep_36 : decode cX11_claimsAreAsleep 36 = .ok (.ireturn, 1) := getB' kX11_claimsAreAsleep_1 7 rfl
def LX11_work_0 : List (Nat × Instr × Nat) := [(0, .iload_n 1, 1), (1, .iconst 0, 1), (2, .bipush 9, 2), (4, .invokestatic 112, 3), (7, .ifCond .eq 34, 3), (10, .aload_n 0, 1), (11, .iload_n 2, 1), (12, .invokevirtual 151, 3), (15, .ifnull 26, 3), (18, .aload_n 0, 1), (19, .getfield 12, 3), (22, .iload_n 3, 1)]
theorem kX11_work_0 : chkB cX11_work LX11_work_0 = true := by decide +kernel
theorem dX11_work_0 : decode cX11_work 0 = .ok (.iload_n 1, 1) := getB' kX11_work_0 0 rfl
theorem dX11_work_1 : decode cX11_work 1 = .ok (.iconst 0, 1) := getB' kX11_work_0 1 rfl
theorem dX11_work_2 : decode cX11_work 2 = .ok (.bipush 9, 2) := getB' kX11_work_0 2 rfl
theorem dX11_work_4 : decode cX11_work 4 = .ok (.invokestatic 112, 3) := getB' kX11_work_0 3 rfl
theorem dX11_work_7 : decode cX11_work 7 = .ok (.ifCond .eq 34, 3) := getB' kX11_work_0 4 rfl
theorem dX11_work_10 : decode cX11_work 10 = .ok (.aload_n 0, 1) := getB' kX11_work_0 5 rfl
theorem dX11_work_11 : decode cX11_work 11 = .ok (.iload_n 2, 1) := getB' kX11_work_0 6 rfl
theorem dX11_work_12 : decode cX11_work 12 = .ok (.invokevirtual 151, 3) := getB' kX11_work_0 7 rfl
theorem dX11_work_15 : decode cX11_work 15 = .ok (.ifnull 26, 3) := getB' kX11_work_0 8 rfl
theorem dX11_work_18 : decode cX11_work 18 = .ok (.aload_n 0, 1) := getB' kX11_work_0 9 rfl
theorem dX11_work_19 : decode cX11_work 19 = .ok (.getfield 12, 3) := getB' kX11_work_0 10 rfl
theorem dX11_work_22 : decode cX11_work 22 = .ok (.iload_n 3, 1) := getB' kX11_work_0 11 rfl
def LX11_work_1 : List (Nat × Instr × Nat) := [(23, .invokevirtual 119, 3), (26, .ifCond .eq 15, 3), (29, .aload_n 0, 1), (30, .getfield 55, 3), (33, .aload_n 0, 1), (34, .getfield 51, 3), (37, .arraylength, 1), (38, .if_icmp .lt 5, 3), (41, .iconst (-1), 1), (42, .ireturn, 1), (43, .iload 4, 2), (45, .iload 5, 2)]
theorem kX11_work_1 : chkB cX11_work LX11_work_1 = true := by decide +kernel
theorem dX11_work_23 : decode cX11_work 23 = .ok (.invokevirtual 119, 3) := getB' kX11_work_1 0 rfl
theorem dX11_work_26 : decode cX11_work 26 = .ok (.ifCond .eq 15, 3) := getB' kX11_work_1 1 rfl
theorem dX11_work_29 : decode cX11_work 29 = .ok (.aload_n 0, 1) := getB' kX11_work_1 2 rfl
theorem dX11_work_30 : decode cX11_work 30 = .ok (.getfield 55, 3) := getB' kX11_work_1 3 rfl
theorem dX11_work_33 : decode cX11_work 33 = .ok (.aload_n 0, 1) := getB' kX11_work_1 4 rfl
theorem dX11_work_34 : decode cX11_work 34 = .ok (.getfield 51, 3) := getB' kX11_work_1 5 rfl
theorem dX11_work_37 : decode cX11_work 37 = .ok (.arraylength, 1) := getB' kX11_work_1 6 rfl
theorem dX11_work_38 : decode cX11_work 38 = .ok (.if_icmp .lt 5, 3) := getB' kX11_work_1 7 rfl
theorem dX11_work_41 : decode cX11_work 41 = .ok (.iconst (-1), 1) := getB' kX11_work_1 8 rfl
theorem dX11_work_42 : decode cX11_work 42 = .ok (.ireturn, 1) := getB' kX11_work_1 9 rfl
theorem dX11_work_43 : decode cX11_work 43 = .ok (.iload 4, 2) := getB' kX11_work_1 10 rfl
theorem dX11_work_45 : decode cX11_work 45 = .ok (.iload 5, 2) := getB' kX11_work_1 11 rfl
def LX11_work_2 : List (Nat × Instr × Nat) := [(47, .invokestatic 213, 3), (50, .ifCond .eq 38, 3), (53, .iload 4, 2), (55, .aload_n 0, 1), (56, .getfield 12, 3), (59, .getfield 145, 3), (62, .if_icmp .lt 26, 3), (65, .iload 6, 2), (67, .iconst 0, 1), (68, .sipush 500, 3), (71, .invokestatic 112, 3), (74, .ifCond .eq 14, 3)]
theorem kX11_work_2 : chkB cX11_work LX11_work_2 = true := by decide +kernel
theorem dX11_work_47 : decode cX11_work 47 = .ok (.invokestatic 213, 3) := getB' kX11_work_2 0 rfl
theorem dX11_work_50 : decode cX11_work 50 = .ok (.ifCond .eq 38, 3) := getB' kX11_work_2 1 rfl
theorem dX11_work_53 : decode cX11_work 53 = .ok (.iload 4, 2) := getB' kX11_work_2 2 rfl
theorem dX11_work_55 : decode cX11_work 55 = .ok (.aload_n 0, 1) := getB' kX11_work_2 3 rfl
theorem dX11_work_56 : decode cX11_work 56 = .ok (.getfield 12, 3) := getB' kX11_work_2 4 rfl
theorem dX11_work_59 : decode cX11_work 59 = .ok (.getfield 145, 3) := getB' kX11_work_2 5 rfl
theorem dX11_work_62 : decode cX11_work 62 = .ok (.if_icmp .lt 26, 3) := getB' kX11_work_2 6 rfl
theorem dX11_work_65 : decode cX11_work 65 = .ok (.iload 6, 2) := getB' kX11_work_2 7 rfl
theorem dX11_work_67 : decode cX11_work 67 = .ok (.iconst 0, 1) := getB' kX11_work_2 8 rfl
theorem dX11_work_68 : decode cX11_work 68 = .ok (.sipush 500, 3) := getB' kX11_work_2 9 rfl
theorem dX11_work_71 : decode cX11_work 71 = .ok (.invokestatic 112, 3) := getB' kX11_work_2 10 rfl
theorem dX11_work_74 : decode cX11_work 74 = .ok (.ifCond .eq 14, 3) := getB' kX11_work_2 11 rfl
def LX11_work_3 : List (Nat × Instr × Nat) := [(77, .iload 7, 2), (79, .iconst 0, 1), (80, .bipush 99, 2), (82, .invokestatic 112, 3), (85, .ifCond .ne 5, 3), (88, .iconst (-1), 1), (89, .ireturn, 1), (90, .new 49, 3), (93, .dup, 1), (94, .iload_n 1, 1), (95, .iload_n 2, 1), (96, .iload_n 3, 1)]
theorem kX11_work_3 : chkB cX11_work LX11_work_3 = true := by decide +kernel
theorem dX11_work_77 : decode cX11_work 77 = .ok (.iload 7, 2) := getB' kX11_work_3 0 rfl
theorem dX11_work_79 : decode cX11_work 79 = .ok (.iconst 0, 1) := getB' kX11_work_3 1 rfl
theorem dX11_work_80 : decode cX11_work 80 = .ok (.bipush 99, 2) := getB' kX11_work_3 2 rfl
theorem dX11_work_82 : decode cX11_work 82 = .ok (.invokestatic 112, 3) := getB' kX11_work_3 3 rfl
theorem dX11_work_85 : decode cX11_work 85 = .ok (.ifCond .ne 5, 3) := getB' kX11_work_3 4 rfl
theorem dX11_work_88 : decode cX11_work 88 = .ok (.iconst (-1), 1) := getB' kX11_work_3 5 rfl
theorem dX11_work_89 : decode cX11_work 89 = .ok (.ireturn, 1) := getB' kX11_work_3 6 rfl
theorem dX11_work_90 : decode cX11_work 90 = .ok (.new 49, 3) := getB' kX11_work_3 7 rfl
theorem dX11_work_93 : decode cX11_work 93 = .ok (.dup, 1) := getB' kX11_work_3 8 rfl
theorem dX11_work_94 : decode cX11_work 94 = .ok (.iload_n 1, 1) := getB' kX11_work_3 9 rfl
theorem dX11_work_95 : decode cX11_work 95 = .ok (.iload_n 2, 1) := getB' kX11_work_3 10 rfl
theorem dX11_work_96 : decode cX11_work 96 = .ok (.iload_n 3, 1) := getB' kX11_work_3 11 rfl
def LX11_work_4 : List (Nat × Instr × Nat) := [(97, .iload 4, 2), (99, .iload 5, 2), (101, .invokespecial 304, 3), (104, .astore 8, 2), (106, .aload 8, 2), (108, .iload 6, 2), (110, .putfield 305, 3), (113, .aload 8, 2), (115, .iload 7, 2), (117, .putfield 306, 3), (120, .aload_n 0, 1), (121, .getfield 51, 3)]
theorem kX11_work_4 : chkB cX11_work LX11_work_4 = true := by decide +kernel
theorem dX11_work_97 : decode cX11_work 97 = .ok (.iload 4, 2) := getB' kX11_work_4 0 rfl
theorem dX11_work_99 : decode cX11_work 99 = .ok (.iload 5, 2) := getB' kX11_work_4 1 rfl
theorem dX11_work_101 : decode cX11_work 101 = .ok (.invokespecial 304, 3) := getB' kX11_work_4 2 rfl
theorem dX11_work_104 : decode cX11_work 104 = .ok (.astore 8, 2) := getB' kX11_work_4 3 rfl
theorem dX11_work_106 : decode cX11_work 106 = .ok (.aload 8, 2) := getB' kX11_work_4 4 rfl
theorem dX11_work_108 : decode cX11_work 108 = .ok (.iload 6, 2) := getB' kX11_work_4 5 rfl
theorem dX11_work_110 : decode cX11_work 110 = .ok (.putfield 305, 3) := getB' kX11_work_4 6 rfl
theorem dX11_work_113 : decode cX11_work 113 = .ok (.aload 8, 2) := getB' kX11_work_4 7 rfl
theorem dX11_work_115 : decode cX11_work 115 = .ok (.iload 7, 2) := getB' kX11_work_4 8 rfl
theorem dX11_work_117 : decode cX11_work 117 = .ok (.putfield 306, 3) := getB' kX11_work_4 9 rfl
theorem dX11_work_120 : decode cX11_work 120 = .ok (.aload_n 0, 1) := getB' kX11_work_4 10 rfl
theorem dX11_work_121 : decode cX11_work 121 = .ok (.getfield 51, 3) := getB' kX11_work_4 11 rfl
def LX11_work_5 : List (Nat × Instr × Nat) := [(124, .aload_n 0, 1), (125, .getfield 55, 3), (128, .aload 8, 2), (130, .aastore, 1), (131, .aload_n 0, 1), (132, .dup, 1), (133, .getfield 55, 3), (136, .dup_x1, 1), (137, .iconst 1, 1), (138, .iadd, 1), (139, .putfield 55, 3), (142, .ireturn, 1)]
theorem kX11_work_5 : chkB cX11_work LX11_work_5 = true := by decide +kernel
theorem dX11_work_124 : decode cX11_work 124 = .ok (.aload_n 0, 1) := getB' kX11_work_5 0 rfl
theorem dX11_work_125 : decode cX11_work 125 = .ok (.getfield 55, 3) := getB' kX11_work_5 1 rfl
theorem dX11_work_128 : decode cX11_work 128 = .ok (.aload 8, 2) := getB' kX11_work_5 2 rfl
theorem dX11_work_130 : decode cX11_work 130 = .ok (.aastore, 1) := getB' kX11_work_5 3 rfl
theorem dX11_work_131 : decode cX11_work 131 = .ok (.aload_n 0, 1) := getB' kX11_work_5 4 rfl
theorem dX11_work_132 : decode cX11_work 132 = .ok (.dup, 1) := getB' kX11_work_5 5 rfl
theorem dX11_work_133 : decode cX11_work 133 = .ok (.getfield 55, 3) := getB' kX11_work_5 6 rfl
theorem dX11_work_136 : decode cX11_work 136 = .ok (.dup_x1, 1) := getB' kX11_work_5 7 rfl
theorem dX11_work_137 : decode cX11_work 137 = .ok (.iconst 1, 1) := getB' kX11_work_5 8 rfl
theorem dX11_work_138 : decode cX11_work 138 = .ok (.iadd, 1) := getB' kX11_work_5 9 rfl
theorem dX11_work_139 : decode cX11_work 139 = .ok (.putfield 55, 3) := getB' kX11_work_5 10 rfl
theorem dX11_work_142 : decode cX11_work 142 = .ok (.ireturn, 1) := getB' kX11_work_5 11 rfl
def LX11_tell_0 : List (Nat × Instr × Nat) := [(0, .aload_n 0, 1), (1, .iload_n 1, 1), (2, .invokevirtual 309, 3), (5, .astore_n 3, 1), (6, .aload_n 3, 1), (7, .ifnonnull 5, 3), (10, .iconst 0, 1), (11, .ireturn, 1), (12, .iload_n 2, 1), (13, .ifCond .ne 24, 3), (16, .aload_n 3, 1), (17, .getfield 313, 3)]
theorem kX11_tell_0 : chkB cX11_tell LX11_tell_0 = true := by decide +kernel
theorem dX11_tell_0 : decode cX11_tell 0 = .ok (.aload_n 0, 1) := getB' kX11_tell_0 0 rfl
theorem dX11_tell_1 : decode cX11_tell 1 = .ok (.iload_n 1, 1) := getB' kX11_tell_0 1 rfl
theorem dX11_tell_2 : decode cX11_tell 2 = .ok (.invokevirtual 309, 3) := getB' kX11_tell_0 2 rfl
theorem dX11_tell_5 : decode cX11_tell 5 = .ok (.astore_n 3, 1) := getB' kX11_tell_0 3 rfl
theorem dX11_tell_6 : decode cX11_tell 6 = .ok (.aload_n 3, 1) := getB' kX11_tell_0 4 rfl
theorem dX11_tell_7 : decode cX11_tell 7 = .ok (.ifnonnull 5, 3) := getB' kX11_tell_0 5 rfl
theorem dX11_tell_10 : decode cX11_tell 10 = .ok (.iconst 0, 1) := getB' kX11_tell_0 6 rfl
theorem dX11_tell_11 : decode cX11_tell 11 = .ok (.ireturn, 1) := getB' kX11_tell_0 7 rfl
theorem dX11_tell_12 : decode cX11_tell 12 = .ok (.iload_n 2, 1) := getB' kX11_tell_0 8 rfl
theorem dX11_tell_13 : decode cX11_tell 13 = .ok (.ifCond .ne 24, 3) := getB' kX11_tell_0 9 rfl
theorem dX11_tell_16 : decode cX11_tell 16 = .ok (.aload_n 3, 1) := getB' kX11_tell_0 10 rfl
theorem dX11_tell_17 : decode cX11_tell 17 = .ok (.getfield 313, 3) := getB' kX11_tell_0 11 rfl
def LX11_tell_1 : List (Nat × Instr × Nat) := [(20, .iconst (-1), 1), (21, .if_icmp .ne 16, 3), (24, .aload_n 3, 1), (25, .aload_n 0, 1), (26, .getfield 12, 3), (29, .getfield 145, 3), (32, .putfield 313, 3), (35, .iconst 1, 1), (36, .ireturn, 1), (37, .iload_n 2, 1), (38, .iconst 1, 1), (39, .if_icmp .ne 24, 3)]
theorem kX11_tell_1 : chkB cX11_tell LX11_tell_1 = true := by decide +kernel
theorem dX11_tell_20 : decode cX11_tell 20 = .ok (.iconst (-1), 1) := getB' kX11_tell_1 0 rfl
theorem dX11_tell_21 : decode cX11_tell 21 = .ok (.if_icmp .ne 16, 3) := getB' kX11_tell_1 1 rfl
theorem dX11_tell_24 : decode cX11_tell 24 = .ok (.aload_n 3, 1) := getB' kX11_tell_1 2 rfl
theorem dX11_tell_25 : decode cX11_tell 25 = .ok (.aload_n 0, 1) := getB' kX11_tell_1 3 rfl
theorem dX11_tell_26 : decode cX11_tell 26 = .ok (.getfield 12, 3) := getB' kX11_tell_1 4 rfl
theorem dX11_tell_29 : decode cX11_tell 29 = .ok (.getfield 145, 3) := getB' kX11_tell_1 5 rfl
theorem dX11_tell_32 : decode cX11_tell 32 = .ok (.putfield 313, 3) := getB' kX11_tell_1 6 rfl
theorem dX11_tell_35 : decode cX11_tell 35 = .ok (.iconst 1, 1) := getB' kX11_tell_1 7 rfl
theorem dX11_tell_36 : decode cX11_tell 36 = .ok (.ireturn, 1) := getB' kX11_tell_1 8 rfl
theorem dX11_tell_37 : decode cX11_tell 37 = .ok (.iload_n 2, 1) := getB' kX11_tell_1 9 rfl
theorem dX11_tell_38 : decode cX11_tell 38 = .ok (.iconst 1, 1) := getB' kX11_tell_1 10 rfl
theorem dX11_tell_39 : decode cX11_tell 39 = .ok (.if_icmp .ne 24, 3) := getB' kX11_tell_1 11 rfl
def LX11_tell_2 : List (Nat × Instr × Nat) := [(42, .aload_n 3, 1), (43, .getfield 316, 3), (46, .iconst (-1), 1), (47, .if_icmp .ne 16, 3), (50, .aload_n 3, 1), (51, .aload_n 0, 1), (52, .getfield 12, 3), (55, .getfield 145, 3), (58, .putfield 316, 3), (61, .iconst 1, 1), (62, .ireturn, 1), (63, .iconst 0, 1)]
theorem kX11_tell_2 : chkB cX11_tell LX11_tell_2 = true := by decide +kernel
theorem dX11_tell_42 : decode cX11_tell 42 = .ok (.aload_n 3, 1) := getB' kX11_tell_2 0 rfl
theorem dX11_tell_43 : decode cX11_tell 43 = .ok (.getfield 316, 3) := getB' kX11_tell_2 1 rfl
theorem dX11_tell_46 : decode cX11_tell 46 = .ok (.iconst (-1), 1) := getB' kX11_tell_2 2 rfl
theorem dX11_tell_47 : decode cX11_tell 47 = .ok (.if_icmp .ne 16, 3) := getB' kX11_tell_2 3 rfl
theorem dX11_tell_50 : decode cX11_tell 50 = .ok (.aload_n 3, 1) := getB' kX11_tell_2 4 rfl
theorem dX11_tell_51 : decode cX11_tell 51 = .ok (.aload_n 0, 1) := getB' kX11_tell_2 5 rfl
theorem dX11_tell_52 : decode cX11_tell 52 = .ok (.getfield 12, 3) := getB' kX11_tell_2 6 rfl
theorem dX11_tell_55 : decode cX11_tell 55 = .ok (.getfield 145, 3) := getB' kX11_tell_2 7 rfl
theorem dX11_tell_58 : decode cX11_tell 58 = .ok (.putfield 316, 3) := getB' kX11_tell_2 8 rfl
theorem dX11_tell_61 : decode cX11_tell 61 = .ok (.iconst 1, 1) := getB' kX11_tell_2 9 rfl
theorem dX11_tell_62 : decode cX11_tell 62 = .ok (.ireturn, 1) := getB' kX11_tell_2 10 rfl
theorem dX11_tell_63 : decode cX11_tell 63 = .ok (.iconst 0, 1) := getB' kX11_tell_2 11 rfl
def LX11_tell_3 : List (Nat × Instr × Nat) := [(64, .ireturn, 1)]
theorem kX11_tell_3 : chkB cX11_tell LX11_tell_3 = true := by decide +kernel
theorem dX11_tell_64 : decode cX11_tell 64 = .ok (.ireturn, 1) := getB' kX11_tell_3 0 rfl
def LX11_study_0 : List (Nat × Instr × Nat) := [(0, .aload_n 0, 1), (1, .iload_n 1, 1), (2, .invokevirtual 309, 3), (5, .astore_n 3, 1), (6, .aload_n 3, 1), (7, .ifnull 22, 3), (10, .iload_n 2, 1), (11, .iconst 0, 1), (12, .sipush 1000, 3), (15, .invokestatic 112, 3), (18, .ifCond .eq 11, 3), (21, .aload_n 3, 1)]
theorem kX11_study_0 : chkB cX11_study LX11_study_0 = true := by decide +kernel
theorem dX11_study_0 : decode cX11_study 0 = .ok (.aload_n 0, 1) := getB' kX11_study_0 0 rfl
theorem dX11_study_1 : decode cX11_study 1 = .ok (.iload_n 1, 1) := getB' kX11_study_0 1 rfl
theorem dX11_study_2 : decode cX11_study 2 = .ok (.invokevirtual 309, 3) := getB' kX11_study_0 2 rfl
theorem dX11_study_5 : decode cX11_study 5 = .ok (.astore_n 3, 1) := getB' kX11_study_0 3 rfl
theorem dX11_study_6 : decode cX11_study 6 = .ok (.aload_n 3, 1) := getB' kX11_study_0 4 rfl
theorem dX11_study_7 : decode cX11_study 7 = .ok (.ifnull 22, 3) := getB' kX11_study_0 5 rfl
theorem dX11_study_10 : decode cX11_study 10 = .ok (.iload_n 2, 1) := getB' kX11_study_0 6 rfl
theorem dX11_study_11 : decode cX11_study 11 = .ok (.iconst 0, 1) := getB' kX11_study_0 7 rfl
theorem dX11_study_12 : decode cX11_study 12 = .ok (.sipush 1000, 3) := getB' kX11_study_0 8 rfl
theorem dX11_study_15 : decode cX11_study 15 = .ok (.invokestatic 112, 3) := getB' kX11_study_0 9 rfl
theorem dX11_study_18 : decode cX11_study 18 = .ok (.ifCond .eq 11, 3) := getB' kX11_study_0 10 rfl
theorem dX11_study_21 : decode cX11_study 21 = .ok (.aload_n 3, 1) := getB' kX11_study_0 11 rfl
def LX11_study_1 : List (Nat × Instr × Nat) := [(22, .getfield 319, 3), (25, .iconst (-1), 1), (26, .if_icmp .eq 5, 3), (29, .iconst 0, 1), (30, .ireturn, 1), (31, .aload_n 3, 1), (32, .aload_n 0, 1), (33, .getfield 12, 3), (36, .getfield 145, 3), (39, .putfield 319, 3), (42, .aload_n 3, 1), (43, .iload_n 2, 1)]
theorem kX11_study_1 : chkB cX11_study LX11_study_1 = true := by decide +kernel
theorem dX11_study_22 : decode cX11_study 22 = .ok (.getfield 319, 3) := getB' kX11_study_1 0 rfl
theorem dX11_study_25 : decode cX11_study 25 = .ok (.iconst (-1), 1) := getB' kX11_study_1 1 rfl
theorem dX11_study_26 : decode cX11_study 26 = .ok (.if_icmp .eq 5, 3) := getB' kX11_study_1 2 rfl
theorem dX11_study_29 : decode cX11_study 29 = .ok (.iconst 0, 1) := getB' kX11_study_1 3 rfl
theorem dX11_study_30 : decode cX11_study 30 = .ok (.ireturn, 1) := getB' kX11_study_1 4 rfl
theorem dX11_study_31 : decode cX11_study 31 = .ok (.aload_n 3, 1) := getB' kX11_study_1 5 rfl
theorem dX11_study_32 : decode cX11_study 32 = .ok (.aload_n 0, 1) := getB' kX11_study_1 6 rfl
theorem dX11_study_33 : decode cX11_study 33 = .ok (.getfield 12, 3) := getB' kX11_study_1 7 rfl
theorem dX11_study_36 : decode cX11_study 36 = .ok (.getfield 145, 3) := getB' kX11_study_1 8 rfl
theorem dX11_study_39 : decode cX11_study 39 = .ok (.putfield 319, 3) := getB' kX11_study_1 9 rfl
theorem dX11_study_42 : decode cX11_study 42 = .ok (.aload_n 3, 1) := getB' kX11_study_1 10 rfl
theorem dX11_study_43 : decode cX11_study 43 = .ok (.iload_n 2, 1) := getB' kX11_study_1 11 rfl
def LX11_study_2 : List (Nat × Instr × Nat) := [(44, .putfield 322, 3), (47, .iconst 1, 1), (48, .ireturn, 1)]
theorem kX11_study_2 : chkB cX11_study LX11_study_2 = true := by decide +kernel
theorem dX11_study_44 : decode cX11_study 44 = .ok (.putfield 322, 3) := getB' kX11_study_2 0 rfl
theorem dX11_study_47 : decode cX11_study 47 = .ok (.iconst 1, 1) := getB' kX11_study_2 1 rfl
theorem dX11_study_48 : decode cX11_study 48 = .ok (.ireturn, 1) := getB' kX11_study_2 2 rfl
def LX11_say_0 : List (Nat × Instr × Nat) := [(0, .aload_n 0, 1), (1, .iload_n 2, 1), (2, .invokevirtual 309, 3), (5, .astore 4, 2), (7, .aload_n 0, 1), (8, .iload_n 1, 1), (9, .invokevirtual 151, 3), (12, .ifnull 8, 3), (15, .aload 4, 2), (17, .ifnonnull 5, 3), (20, .iconst 0, 1), (21, .ireturn, 1)]
theorem kX11_say_0 : chkB cX11_say LX11_say_0 = true := by decide +kernel
theorem dX11_say_0 : decode cX11_say 0 = .ok (.aload_n 0, 1) := getB' kX11_say_0 0 rfl
theorem dX11_say_1 : decode cX11_say 1 = .ok (.iload_n 2, 1) := getB' kX11_say_0 1 rfl
theorem dX11_say_2 : decode cX11_say 2 = .ok (.invokevirtual 309, 3) := getB' kX11_say_0 2 rfl
theorem dX11_say_5 : decode cX11_say 5 = .ok (.astore 4, 2) := getB' kX11_say_0 3 rfl
theorem dX11_say_7 : decode cX11_say 7 = .ok (.aload_n 0, 1) := getB' kX11_say_0 4 rfl
theorem dX11_say_8 : decode cX11_say 8 = .ok (.iload_n 1, 1) := getB' kX11_say_0 5 rfl
theorem dX11_say_9 : decode cX11_say 9 = .ok (.invokevirtual 151, 3) := getB' kX11_say_0 6 rfl
theorem dX11_say_12 : decode cX11_say 12 = .ok (.ifnull 8, 3) := getB' kX11_say_0 7 rfl
theorem dX11_say_15 : decode cX11_say 15 = .ok (.aload 4, 2) := getB' kX11_say_0 8 rfl
theorem dX11_say_17 : decode cX11_say 17 = .ok (.ifnonnull 5, 3) := getB' kX11_say_0 9 rfl
theorem dX11_say_20 : decode cX11_say 20 = .ok (.iconst 0, 1) := getB' kX11_say_0 10 rfl
theorem dX11_say_21 : decode cX11_say 21 = .ok (.ireturn, 1) := getB' kX11_say_0 11 rfl
def LX11_say_1 : List (Nat × Instr × Nat) := [(22, .iconst 1, 1), (23, .iload_n 1, 1), (24, .ishl, 1), (25, .istore 5, 2), (27, .aload 4, 2), (29, .iload_n 3, 1), (30, .ifCond .eq 14, 3), (33, .aload 4, 2), (35, .getfield 325, 3), (38, .iload 5, 2), (40, .ior, 1), (41, .goto 13, 3)]
theorem kX11_say_1 : chkB cX11_say LX11_say_1 = true := by decide +kernel
theorem dX11_say_22 : decode cX11_say 22 = .ok (.iconst 1, 1) := getB' kX11_say_1 0 rfl
theorem dX11_say_23 : decode cX11_say 23 = .ok (.iload_n 1, 1) := getB' kX11_say_1 1 rfl
theorem dX11_say_24 : decode cX11_say 24 = .ok (.ishl, 1) := getB' kX11_say_1 2 rfl
theorem dX11_say_25 : decode cX11_say 25 = .ok (.istore 5, 2) := getB' kX11_say_1 3 rfl
theorem dX11_say_27 : decode cX11_say 27 = .ok (.aload 4, 2) := getB' kX11_say_1 4 rfl
theorem dX11_say_29 : decode cX11_say 29 = .ok (.iload_n 3, 1) := getB' kX11_say_1 5 rfl
theorem dX11_say_30 : decode cX11_say 30 = .ok (.ifCond .eq 14, 3) := getB' kX11_say_1 6 rfl
theorem dX11_say_33 : decode cX11_say 33 = .ok (.aload 4, 2) := getB' kX11_say_1 7 rfl
theorem dX11_say_35 : decode cX11_say 35 = .ok (.getfield 325, 3) := getB' kX11_say_1 8 rfl
theorem dX11_say_38 : decode cX11_say 38 = .ok (.iload 5, 2) := getB' kX11_say_1 9 rfl
theorem dX11_say_40 : decode cX11_say 40 = .ok (.ior, 1) := getB' kX11_say_1 10 rfl
theorem dX11_say_41 : decode cX11_say 41 = .ok (.goto 13, 3) := getB' kX11_say_1 11 rfl
def LX11_say_2 : List (Nat × Instr × Nat) := [(44, .aload 4, 2), (46, .getfield 325, 3), (49, .iload 5, 2), (51, .iconst (-1), 1), (52, .ixor, 1), (53, .iand, 1), (54, .putfield 325, 3), (57, .aload 4, 2), (59, .iload_n 3, 1), (60, .ifCond .eq 16, 3), (63, .aload 4, 2), (65, .getfield 328, 3)]
theorem kX11_say_2 : chkB cX11_say LX11_say_2 = true := by decide +kernel
theorem dX11_say_44 : decode cX11_say 44 = .ok (.aload 4, 2) := getB' kX11_say_2 0 rfl
theorem dX11_say_46 : decode cX11_say 46 = .ok (.getfield 325, 3) := getB' kX11_say_2 1 rfl
theorem dX11_say_49 : decode cX11_say 49 = .ok (.iload 5, 2) := getB' kX11_say_2 2 rfl
theorem dX11_say_51 : decode cX11_say 51 = .ok (.iconst (-1), 1) := getB' kX11_say_2 3 rfl
theorem dX11_say_52 : decode cX11_say 52 = .ok (.ixor, 1) := getB' kX11_say_2 4 rfl
theorem dX11_say_53 : decode cX11_say 53 = .ok (.iand, 1) := getB' kX11_say_2 5 rfl
theorem dX11_say_54 : decode cX11_say 54 = .ok (.putfield 325, 3) := getB' kX11_say_2 6 rfl
theorem dX11_say_57 : decode cX11_say 57 = .ok (.aload 4, 2) := getB' kX11_say_2 7 rfl
theorem dX11_say_59 : decode cX11_say 59 = .ok (.iload_n 3, 1) := getB' kX11_say_2 8 rfl
theorem dX11_say_60 : decode cX11_say 60 = .ok (.ifCond .eq 16, 3) := getB' kX11_say_2 9 rfl
theorem dX11_say_63 : decode cX11_say 63 = .ok (.aload 4, 2) := getB' kX11_say_2 10 rfl
theorem dX11_say_65 : decode cX11_say 65 = .ok (.getfield 328, 3) := getB' kX11_say_2 11 rfl
def LX11_say_3 : List (Nat × Instr × Nat) := [(68, .iload 5, 2), (70, .iconst (-1), 1), (71, .ixor, 1), (72, .iand, 1), (73, .goto 11, 3), (76, .aload 4, 2), (78, .getfield 328, 3), (81, .iload 5, 2), (83, .ior, 1), (84, .putfield 328, 3), (87, .iconst 1, 1), (88, .ireturn, 1)]
theorem kX11_say_3 : chkB cX11_say LX11_say_3 = true := by decide +kernel
theorem dX11_say_68 : decode cX11_say 68 = .ok (.iload 5, 2) := getB' kX11_say_3 0 rfl
theorem dX11_say_70 : decode cX11_say 70 = .ok (.iconst (-1), 1) := getB' kX11_say_3 1 rfl
theorem dX11_say_71 : decode cX11_say 71 = .ok (.ixor, 1) := getB' kX11_say_3 2 rfl
theorem dX11_say_72 : decode cX11_say 72 = .ok (.iand, 1) := getB' kX11_say_3 3 rfl
theorem dX11_say_73 : decode cX11_say 73 = .ok (.goto 11, 3) := getB' kX11_say_3 4 rfl
theorem dX11_say_76 : decode cX11_say 76 = .ok (.aload 4, 2) := getB' kX11_say_3 5 rfl
theorem dX11_say_78 : decode cX11_say 78 = .ok (.getfield 328, 3) := getB' kX11_say_3 6 rfl
theorem dX11_say_81 : decode cX11_say 81 = .ok (.iload 5, 2) := getB' kX11_say_3 7 rfl
theorem dX11_say_83 : decode cX11_say 83 = .ok (.ior, 1) := getB' kX11_say_3 8 rfl
theorem dX11_say_84 : decode cX11_say 84 = .ok (.putfield 328, 3) := getB' kX11_say_3 9 rfl
theorem dX11_say_87 : decode cX11_say 87 = .ok (.iconst 1, 1) := getB' kX11_say_3 10 rfl
theorem dX11_say_88 : decode cX11_say 88 = .ok (.ireturn, 1) := getB' kX11_say_3 11 rfl
def LX11_may_0 : List (Nat × Instr × Nat) := [(0, .aload_n 0, 1), (1, .iload_n 1, 1), (2, .invokevirtual 309, 3), (5, .astore 4, 2), (7, .aload 4, 2), (9, .ifnull 10, 3), (12, .iload_n 2, 1), (13, .invokestatic 276, 3), (16, .ifCond .ne 5, 3), (19, .iconst (-1), 1), (20, .ireturn, 1), (21, .aload_n 0, 1)]
theorem kX11_may_0 : chkB cX11_may LX11_may_0 = true := by decide +kernel
theorem dX11_may_0 : decode cX11_may 0 = .ok (.aload_n 0, 1) := getB' kX11_may_0 0 rfl
theorem dX11_may_1 : decode cX11_may 1 = .ok (.iload_n 1, 1) := getB' kX11_may_0 1 rfl
theorem dX11_may_2 : decode cX11_may 2 = .ok (.invokevirtual 309, 3) := getB' kX11_may_0 2 rfl
theorem dX11_may_5 : decode cX11_may 5 = .ok (.astore 4, 2) := getB' kX11_may_0 3 rfl
theorem dX11_may_7 : decode cX11_may 7 = .ok (.aload 4, 2) := getB' kX11_may_0 4 rfl
theorem dX11_may_9 : decode cX11_may 9 = .ok (.ifnull 10, 3) := getB' kX11_may_0 5 rfl
theorem dX11_may_12 : decode cX11_may 12 = .ok (.iload_n 2, 1) := getB' kX11_may_0 6 rfl
theorem dX11_may_13 : decode cX11_may 13 = .ok (.invokestatic 276, 3) := getB' kX11_may_0 7 rfl
theorem dX11_may_16 : decode cX11_may 16 = .ok (.ifCond .ne 5, 3) := getB' kX11_may_0 8 rfl
theorem dX11_may_19 : decode cX11_may 19 = .ok (.iconst (-1), 1) := getB' kX11_may_0 9 rfl
theorem dX11_may_20 : decode cX11_may 20 = .ok (.ireturn, 1) := getB' kX11_may_0 10 rfl
theorem dX11_may_21 : decode cX11_may 21 = .ok (.aload_n 0, 1) := getB' kX11_may_0 11 rfl
def LX11_may_1 : List (Nat × Instr × Nat) := [(22, .aload 4, 2), (24, .iload_n 2, 1), (25, .iload_n 3, 1), (26, .invokevirtual 331, 3), (29, .ireturn, 1)]
theorem kX11_may_1 : chkB cX11_may LX11_may_1 = true := by decide +kernel
theorem dX11_may_22 : decode cX11_may 22 = .ok (.aload 4, 2) := getB' kX11_may_1 0 rfl
theorem dX11_may_24 : decode cX11_may 24 = .ok (.iload_n 2, 1) := getB' kX11_may_1 1 rfl
theorem dX11_may_25 : decode cX11_may 25 = .ok (.iload_n 3, 1) := getB' kX11_may_1 2 rfl
theorem dX11_may_26 : decode cX11_may 26 = .ok (.invokevirtual 331, 3) := getB' kX11_may_1 3 rfl
theorem dX11_may_29 : decode cX11_may 29 = .ok (.ireturn, 1) := getB' kX11_may_1 4 rfl
def LX11_why_0 : List (Nat × Instr × Nat) := [(0, .aload_n 0, 1), (1, .iload_n 1, 1), (2, .invokevirtual 309, 3), (5, .astore 5, 2), (7, .aload 5, 2), (9, .ifnull 20, 3), (12, .iload_n 2, 1), (13, .invokestatic 276, 3), (16, .ifCond .eq 13, 3), (19, .iload 4, 2), (21, .iconst 0, 1), (22, .iconst 1, 1)]
theorem kX11_why_0 : chkB cX11_why LX11_why_0 = true := by decide +kernel
theorem dX11_why_0 : decode cX11_why 0 = .ok (.aload_n 0, 1) := getB' kX11_why_0 0 rfl
theorem dX11_why_1 : decode cX11_why 1 = .ok (.iload_n 1, 1) := getB' kX11_why_0 1 rfl
theorem dX11_why_2 : decode cX11_why 2 = .ok (.invokevirtual 309, 3) := getB' kX11_why_0 2 rfl
theorem dX11_why_5 : decode cX11_why 5 = .ok (.astore 5, 2) := getB' kX11_why_0 3 rfl
theorem dX11_why_7 : decode cX11_why 7 = .ok (.aload 5, 2) := getB' kX11_why_0 4 rfl
theorem dX11_why_9 : decode cX11_why 9 = .ok (.ifnull 20, 3) := getB' kX11_why_0 5 rfl
theorem dX11_why_12 : decode cX11_why 12 = .ok (.iload_n 2, 1) := getB' kX11_why_0 6 rfl
theorem dX11_why_13 : decode cX11_why 13 = .ok (.invokestatic 276, 3) := getB' kX11_why_0 7 rfl
theorem dX11_why_16 : decode cX11_why 16 = .ok (.ifCond .eq 13, 3) := getB' kX11_why_0 8 rfl
theorem dX11_why_19 : decode cX11_why 19 = .ok (.iload 4, 2) := getB' kX11_why_0 9 rfl
theorem dX11_why_21 : decode cX11_why 21 = .ok (.iconst 0, 1) := getB' kX11_why_0 10 rfl
theorem dX11_why_22 : decode cX11_why 22 = .ok (.iconst 1, 1) := getB' kX11_why_0 11 rfl
def LX11_why_1 : List (Nat × Instr × Nat) := [(23, .invokestatic 112, 3), (26, .ifCond .ne 5, 3), (29, .iconst (-1), 1), (30, .ireturn, 1), (31, .aload_n 0, 1), (32, .aload 5, 2), (34, .iload_n 2, 1), (35, .iload_n 3, 1), (36, .invokevirtual 331, 3), (39, .pop, 1), (40, .iload 4, 2), (42, .ifCond .ne 13, 3)]
theorem kX11_why_1 : chkB cX11_why LX11_why_1 = true := by decide +kernel
theorem dX11_why_23 : decode cX11_why 23 = .ok (.invokestatic 112, 3) := getB' kX11_why_1 0 rfl
theorem dX11_why_26 : decode cX11_why 26 = .ok (.ifCond .ne 5, 3) := getB' kX11_why_1 1 rfl
theorem dX11_why_29 : decode cX11_why 29 = .ok (.iconst (-1), 1) := getB' kX11_why_1 2 rfl
theorem dX11_why_30 : decode cX11_why 30 = .ok (.ireturn, 1) := getB' kX11_why_1 3 rfl
theorem dX11_why_31 : decode cX11_why 31 = .ok (.aload_n 0, 1) := getB' kX11_why_1 4 rfl
theorem dX11_why_32 : decode cX11_why 32 = .ok (.aload 5, 2) := getB' kX11_why_1 5 rfl
theorem dX11_why_34 : decode cX11_why 34 = .ok (.iload_n 2, 1) := getB' kX11_why_1 6 rfl
theorem dX11_why_35 : decode cX11_why 35 = .ok (.iload_n 3, 1) := getB' kX11_why_1 7 rfl
theorem dX11_why_36 : decode cX11_why 36 = .ok (.invokevirtual 331, 3) := getB' kX11_why_1 8 rfl
theorem dX11_why_39 : decode cX11_why 39 = .ok (.pop, 1) := getB' kX11_why_1 9 rfl
theorem dX11_why_40 : decode cX11_why 40 = .ok (.iload 4, 2) := getB' kX11_why_1 10 rfl
theorem dX11_why_42 : decode cX11_why 42 = .ok (.ifCond .ne 13, 3) := getB' kX11_why_1 11 rfl
def LX11_why_2 : List (Nat × Instr × Nat) := [(45, .aload_n 0, 1), (46, .getfield 19, 3), (49, .getfield 335, 3), (52, .goto 10, 3), (55, .aload_n 0, 1), (56, .getfield 19, 3), (59, .getfield 338, 3), (62, .ireturn, 1)]
theorem kX11_why_2 : chkB cX11_why LX11_why_2 = true := by decide +kernel
theorem dX11_why_45 : decode cX11_why 45 = .ok (.aload_n 0, 1) := getB' kX11_why_2 0 rfl
theorem dX11_why_46 : decode cX11_why 46 = .ok (.getfield 19, 3) := getB' kX11_why_2 1 rfl
theorem dX11_why_49 : decode cX11_why 49 = .ok (.getfield 335, 3) := getB' kX11_why_2 2 rfl
theorem dX11_why_52 : decode cX11_why 52 = .ok (.goto 10, 3) := getB' kX11_why_2 3 rfl
theorem dX11_why_55 : decode cX11_why 55 = .ok (.aload_n 0, 1) := getB' kX11_why_2 4 rfl
theorem dX11_why_56 : decode cX11_why 56 = .ok (.getfield 19, 3) := getB' kX11_why_2 5 rfl
theorem dX11_why_59 : decode cX11_why 59 = .ok (.getfield 338, 3) := getB' kX11_why_2 6 rfl
theorem dX11_why_62 : decode cX11_why 62 = .ok (.ireturn, 1) := getB' kX11_why_2 7 rfl
def LX11_whose_0 : List (Nat × Instr × Nat) := [(0, .aload_n 0, 1), (1, .iload_n 1, 1), (2, .invokevirtual 151, 3), (5, .astore_n 3, 1), (6, .aload_n 3, 1), (7, .ifnull 14, 3), (10, .aload_n 0, 1), (11, .getfield 12, 3), (14, .iload_n 2, 1), (15, .invokevirtual 119, 3), (18, .ifCond .ne 5, 3), (21, .iconst (-1), 1)]
theorem kX11_whose_0 : chkB cX11_whose LX11_whose_0 = true := by decide +kernel
theorem dX11_whose_0 : decode cX11_whose 0 = .ok (.aload_n 0, 1) := getB' kX11_whose_0 0 rfl
theorem dX11_whose_1 : decode cX11_whose 1 = .ok (.iload_n 1, 1) := getB' kX11_whose_0 1 rfl
theorem dX11_whose_2 : decode cX11_whose 2 = .ok (.invokevirtual 151, 3) := getB' kX11_whose_0 2 rfl
theorem dX11_whose_5 : decode cX11_whose 5 = .ok (.astore_n 3, 1) := getB' kX11_whose_0 3 rfl
theorem dX11_whose_6 : decode cX11_whose 6 = .ok (.aload_n 3, 1) := getB' kX11_whose_0 4 rfl
theorem dX11_whose_7 : decode cX11_whose 7 = .ok (.ifnull 14, 3) := getB' kX11_whose_0 5 rfl
theorem dX11_whose_10 : decode cX11_whose 10 = .ok (.aload_n 0, 1) := getB' kX11_whose_0 6 rfl
theorem dX11_whose_11 : decode cX11_whose 11 = .ok (.getfield 12, 3) := getB' kX11_whose_0 7 rfl
theorem dX11_whose_14 : decode cX11_whose 14 = .ok (.iload_n 2, 1) := getB' kX11_whose_0 8 rfl
theorem dX11_whose_15 : decode cX11_whose 15 = .ok (.invokevirtual 119, 3) := getB' kX11_whose_0 9 rfl
theorem dX11_whose_18 : decode cX11_whose 18 = .ok (.ifCond .ne 5, 3) := getB' kX11_whose_0 10 rfl
theorem dX11_whose_21 : decode cX11_whose 21 = .ok (.iconst (-1), 1) := getB' kX11_whose_0 11 rfl
def LX11_whose_1 : List (Nat × Instr × Nat) := [(22, .ireturn, 1), (23, .aload_n 0, 1), (24, .getfield 19, 3), (27, .iload_n 1, 1), (28, .aload_n 3, 1), (29, .aload_n 0, 1), (30, .getfield 12, 3), (33, .getfield 145, 3), (36, .invokevirtual 279, 3), (39, .iconst 0, 1), (40, .aload_n 0, 1), (41, .getfield 19, 3)]
theorem kX11_whose_1 : chkB cX11_whose LX11_whose_1 = true := by decide +kernel
theorem dX11_whose_22 : decode cX11_whose 22 = .ok (.ireturn, 1) := getB' kX11_whose_1 0 rfl
theorem dX11_whose_23 : decode cX11_whose 23 = .ok (.aload_n 0, 1) := getB' kX11_whose_1 1 rfl
theorem dX11_whose_24 : decode cX11_whose 24 = .ok (.getfield 19, 3) := getB' kX11_whose_1 2 rfl
theorem dX11_whose_27 : decode cX11_whose 27 = .ok (.iload_n 1, 1) := getB' kX11_whose_1 3 rfl
theorem dX11_whose_28 : decode cX11_whose 28 = .ok (.aload_n 3, 1) := getB' kX11_whose_1 4 rfl
theorem dX11_whose_29 : decode cX11_whose 29 = .ok (.aload_n 0, 1) := getB' kX11_whose_1 5 rfl
theorem dX11_whose_30 : decode cX11_whose 30 = .ok (.getfield 12, 3) := getB' kX11_whose_1 6 rfl
theorem dX11_whose_33 : decode cX11_whose 33 = .ok (.getfield 145, 3) := getB' kX11_whose_1 7 rfl
theorem dX11_whose_36 : decode cX11_whose 36 = .ok (.invokevirtual 279, 3) := getB' kX11_whose_1 8 rfl
theorem dX11_whose_39 : decode cX11_whose 39 = .ok (.iconst 0, 1) := getB' kX11_whose_1 9 rfl
theorem dX11_whose_40 : decode cX11_whose 40 = .ok (.aload_n 0, 1) := getB' kX11_whose_1 10 rfl
theorem dX11_whose_41 : decode cX11_whose 41 = .ok (.getfield 19, 3) := getB' kX11_whose_1 11 rfl
def LX11_whose_2 : List (Nat × Instr × Nat) := [(44, .bipush 97, 2), (46, .iconst 0, 1), (47, .iconst 0, 1), (48, .invokevirtual 292, 3), (51, .invokestatic 296, 3), (54, .istore 4, 2), (56, .aload_n 3, 1), (57, .aload_n 0, 1), (58, .getfield 12, 3), (61, .getfield 145, 3), (64, .invokevirtual 301, 3), (67, .ifCond .eq 20, 3)]
theorem kX11_whose_2 : chkB cX11_whose LX11_whose_2 = true := by decide +kernel
theorem dX11_whose_44 : decode cX11_whose 44 = .ok (.bipush 97, 2) := getB' kX11_whose_2 0 rfl
theorem dX11_whose_46 : decode cX11_whose 46 = .ok (.iconst 0, 1) := getB' kX11_whose_2 1 rfl
theorem dX11_whose_47 : decode cX11_whose 47 = .ok (.iconst 0, 1) := getB' kX11_whose_2 2 rfl
theorem dX11_whose_48 : decode cX11_whose 48 = .ok (.invokevirtual 292, 3) := getB' kX11_whose_2 3 rfl
theorem dX11_whose_51 : decode cX11_whose 51 = .ok (.invokestatic 296, 3) := getB' kX11_whose_2 4 rfl
theorem dX11_whose_54 : decode cX11_whose 54 = .ok (.istore 4, 2) := getB' kX11_whose_2 5 rfl
theorem dX11_whose_56 : decode cX11_whose 56 = .ok (.aload_n 3, 1) := getB' kX11_whose_2 6 rfl
theorem dX11_whose_57 : decode cX11_whose 57 = .ok (.aload_n 0, 1) := getB' kX11_whose_2 7 rfl
theorem dX11_whose_58 : decode cX11_whose 58 = .ok (.getfield 12, 3) := getB' kX11_whose_2 8 rfl
theorem dX11_whose_61 : decode cX11_whose 61 = .ok (.getfield 145, 3) := getB' kX11_whose_2 9 rfl
theorem dX11_whose_64 : decode cX11_whose 64 = .ok (.invokevirtual 301, 3) := getB' kX11_whose_2 10 rfl
theorem dX11_whose_67 : decode cX11_whose 67 = .ok (.ifCond .eq 20, 3) := getB' kX11_whose_2 11 rfl
def LX11_whose_3 : List (Nat × Instr × Nat) := [(70, .aload_n 0, 1), (71, .getfield 12, 3), (74, .getfield 145, 3), (77, .aload_n 3, 1), (78, .getfield 341, 3), (81, .isub, 1), (82, .iload 4, 2), (84, .if_icmp .ge 6, 3), (87, .bipush (-2), 2), (89, .ireturn, 1), (90, .iconst (-1), 1), (91, .istore 5, 2)]
theorem kX11_whose_3 : chkB cX11_whose LX11_whose_3 = true := by decide +kernel
theorem dX11_whose_70 : decode cX11_whose 70 = .ok (.aload_n 0, 1) := getB' kX11_whose_3 0 rfl
theorem dX11_whose_71 : decode cX11_whose 71 = .ok (.getfield 12, 3) := getB' kX11_whose_3 1 rfl
theorem dX11_whose_74 : decode cX11_whose 74 = .ok (.getfield 145, 3) := getB' kX11_whose_3 2 rfl
theorem dX11_whose_77 : decode cX11_whose 77 = .ok (.aload_n 3, 1) := getB' kX11_whose_3 3 rfl
theorem dX11_whose_78 : decode cX11_whose 78 = .ok (.getfield 341, 3) := getB' kX11_whose_3 4 rfl
theorem dX11_whose_81 : decode cX11_whose 81 = .ok (.isub, 1) := getB' kX11_whose_3 5 rfl
theorem dX11_whose_82 : decode cX11_whose 82 = .ok (.iload 4, 2) := getB' kX11_whose_3 6 rfl
theorem dX11_whose_84 : decode cX11_whose 84 = .ok (.if_icmp .ge 6, 3) := getB' kX11_whose_3 7 rfl
theorem dX11_whose_87 : decode cX11_whose 87 = .ok (.bipush (-2), 2) := getB' kX11_whose_3 8 rfl
theorem dX11_whose_89 : decode cX11_whose 89 = .ok (.ireturn, 1) := getB' kX11_whose_3 9 rfl
theorem dX11_whose_90 : decode cX11_whose 90 = .ok (.iconst (-1), 1) := getB' kX11_whose_3 10 rfl
theorem dX11_whose_91 : decode cX11_whose 91 = .ok (.istore 5, 2) := getB' kX11_whose_3 11 rfl
def LX11_whose_4 : List (Nat × Instr × Nat) := [(93, .iconst (-1), 1), (94, .istore 6, 2), (96, .iconst 0, 1), (97, .istore 7, 2), (99, .iload 7, 2), (101, .aload_n 0, 1), (102, .getfield 46, 3), (105, .if_icmp .ge 65, 3), (108, .aload_n 0, 1), (109, .iload 7, 2), (111, .iconst 0, 1), (112, .invokevirtual 169, 3)]
theorem kX11_whose_4 : chkB cX11_whose LX11_whose_4 = true := by decide +kernel
theorem dX11_whose_93 : decode cX11_whose 93 = .ok (.iconst (-1), 1) := getB' kX11_whose_4 0 rfl
theorem dX11_whose_94 : decode cX11_whose 94 = .ok (.istore 6, 2) := getB' kX11_whose_4 1 rfl
theorem dX11_whose_96 : decode cX11_whose 96 = .ok (.iconst 0, 1) := getB' kX11_whose_4 2 rfl
theorem dX11_whose_97 : decode cX11_whose 97 = .ok (.istore 7, 2) := getB' kX11_whose_4 3 rfl
theorem dX11_whose_99 : decode cX11_whose 99 = .ok (.iload 7, 2) := getB' kX11_whose_4 4 rfl
theorem dX11_whose_101 : decode cX11_whose 101 = .ok (.aload_n 0, 1) := getB' kX11_whose_4 5 rfl
theorem dX11_whose_102 : decode cX11_whose 102 = .ok (.getfield 46, 3) := getB' kX11_whose_4 6 rfl
theorem dX11_whose_105 : decode cX11_whose 105 = .ok (.if_icmp .ge 65, 3) := getB' kX11_whose_4 7 rfl
theorem dX11_whose_108 : decode cX11_whose 108 = .ok (.aload_n 0, 1) := getB' kX11_whose_4 8 rfl
theorem dX11_whose_109 : decode cX11_whose 109 = .ok (.iload 7, 2) := getB' kX11_whose_4 9 rfl
theorem dX11_whose_111 : decode cX11_whose 111 = .ok (.iconst 0, 1) := getB' kX11_whose_4 10 rfl
theorem dX11_whose_112 : decode cX11_whose 112 = .ok (.invokevirtual 169, 3) := getB' kX11_whose_4 11 rfl
def LX11_whose_5 : List (Nat × Instr × Nat) := [(115, .astore 8, 2), (117, .aload 8, 2), (119, .ifnull 45, 3), (122, .aload 8, 2), (124, .getfield 176, 3), (127, .iload 6, 2), (129, .if_icmp .le 35, 3), (132, .aload_n 0, 1), (133, .getfield 12, 3), (136, .iload_n 2, 1), (137, .aload 8, 2), (139, .getfield 344, 3)]
theorem kX11_whose_5 : chkB cX11_whose LX11_whose_5 = true := by decide +kernel
theorem dX11_whose_115 : decode cX11_whose 115 = .ok (.astore 8, 2) := getB' kX11_whose_5 0 rfl
theorem dX11_whose_117 : decode cX11_whose 117 = .ok (.aload 8, 2) := getB' kX11_whose_5 1 rfl
theorem dX11_whose_119 : decode cX11_whose 119 = .ok (.ifnull 45, 3) := getB' kX11_whose_5 2 rfl
theorem dX11_whose_122 : decode cX11_whose 122 = .ok (.aload 8, 2) := getB' kX11_whose_5 3 rfl
theorem dX11_whose_124 : decode cX11_whose 124 = .ok (.getfield 176, 3) := getB' kX11_whose_5 4 rfl
theorem dX11_whose_127 : decode cX11_whose 127 = .ok (.iload 6, 2) := getB' kX11_whose_5 5 rfl
theorem dX11_whose_129 : decode cX11_whose 129 = .ok (.if_icmp .le 35, 3) := getB' kX11_whose_5 6 rfl
theorem dX11_whose_132 : decode cX11_whose 132 = .ok (.aload_n 0, 1) := getB' kX11_whose_5 7 rfl
theorem dX11_whose_133 : decode cX11_whose 133 = .ok (.getfield 12, 3) := getB' kX11_whose_5 8 rfl
theorem dX11_whose_136 : decode cX11_whose 136 = .ok (.iload_n 2, 1) := getB' kX11_whose_5 9 rfl
theorem dX11_whose_137 : decode cX11_whose 137 = .ok (.aload 8, 2) := getB' kX11_whose_5 10 rfl
theorem dX11_whose_139 : decode cX11_whose 139 = .ok (.getfield 344, 3) := getB' kX11_whose_5 11 rfl
def LX11_whose_6 : List (Nat × Instr × Nat) := [(142, .aload 8, 2), (144, .getfield 347, 3), (147, .invokevirtual 350, 3), (150, .ifCond .eq 14, 3), (153, .iload 7, 2), (155, .istore 5, 2), (157, .aload 8, 2), (159, .getfield 176, 3), (162, .istore 6, 2), (164, .iinc 7 1, 3), (167, .goto (-68), 3), (170, .iload 5, 2)]
theorem kX11_whose_6 : chkB cX11_whose LX11_whose_6 = true := by decide +kernel
theorem dX11_whose_142 : decode cX11_whose 142 = .ok (.aload 8, 2) := getB' kX11_whose_6 0 rfl
theorem dX11_whose_144 : decode cX11_whose 144 = .ok (.getfield 347, 3) := getB' kX11_whose_6 1 rfl
theorem dX11_whose_147 : decode cX11_whose 147 = .ok (.invokevirtual 350, 3) := getB' kX11_whose_6 2 rfl
theorem dX11_whose_150 : decode cX11_whose 150 = .ok (.ifCond .eq 14, 3) := getB' kX11_whose_6 3 rfl
theorem dX11_whose_153 : decode cX11_whose 153 = .ok (.iload 7, 2) := getB' kX11_whose_6 4 rfl
theorem dX11_whose_155 : decode cX11_whose 155 = .ok (.istore 5, 2) := getB' kX11_whose_6 5 rfl
theorem dX11_whose_157 : decode cX11_whose 157 = .ok (.aload 8, 2) := getB' kX11_whose_6 6 rfl
theorem dX11_whose_159 : decode cX11_whose 159 = .ok (.getfield 176, 3) := getB' kX11_whose_6 7 rfl
theorem dX11_whose_162 : decode cX11_whose 162 = .ok (.istore 6, 2) := getB' kX11_whose_6 8 rfl
theorem dX11_whose_164 : decode cX11_whose 164 = .ok (.iinc 7 1, 3) := getB' kX11_whose_6 9 rfl
theorem dX11_whose_167 : decode cX11_whose 167 = .ok (.goto (-68), 3) := getB' kX11_whose_6 10 rfl
theorem dX11_whose_170 : decode cX11_whose 170 = .ok (.iload 5, 2) := getB' kX11_whose_6 11 rfl
def LX11_whose_7 : List (Nat × Instr × Nat) := [(172, .ireturn, 1)]
theorem kX11_whose_7 : chkB cX11_whose LX11_whose_7 = true := by decide +kernel
theorem dX11_whose_172 : decode cX11_whose 172 = .ok (.ireturn, 1) := getB' kX11_whose_7 0 rfl
def LX11_judge_0 : List (Nat × Instr × Nat) := [(0, .aload_n 0, 1), (1, .aload_n 1, 1), (2, .getfield 353, 3), (5, .invokevirtual 151, 3), (8, .astore 4, 2), (10, .aload 4, 2), (12, .ifnonnull 5, 3), (15, .iconst (-1), 1), (16, .ireturn, 1), (17, .aload_n 0, 1), (18, .aload_n 1, 1), (19, .aload 4, 2)]
theorem kX11_judge_0 : chkB cX11_judge LX11_judge_0 = true := by decide +kernel
theorem dX11_judge_0 : decode cX11_judge 0 = .ok (.aload_n 0, 1) := getB' kX11_judge_0 0 rfl
theorem dX11_judge_1 : decode cX11_judge 1 = .ok (.aload_n 1, 1) := getB' kX11_judge_0 1 rfl
theorem dX11_judge_2 : decode cX11_judge 2 = .ok (.getfield 353, 3) := getB' kX11_judge_0 2 rfl
theorem dX11_judge_5 : decode cX11_judge 5 = .ok (.invokevirtual 151, 3) := getB' kX11_judge_0 3 rfl
theorem dX11_judge_8 : decode cX11_judge 8 = .ok (.astore 4, 2) := getB' kX11_judge_0 4 rfl
theorem dX11_judge_10 : decode cX11_judge 10 = .ok (.aload 4, 2) := getB' kX11_judge_0 5 rfl
theorem dX11_judge_12 : decode cX11_judge 12 = .ok (.ifnonnull 5, 3) := getB' kX11_judge_0 6 rfl
theorem dX11_judge_15 : decode cX11_judge 15 = .ok (.iconst (-1), 1) := getB' kX11_judge_0 7 rfl
theorem dX11_judge_16 : decode cX11_judge 16 = .ok (.ireturn, 1) := getB' kX11_judge_0 8 rfl
theorem dX11_judge_17 : decode cX11_judge 17 = .ok (.aload_n 0, 1) := getB' kX11_judge_0 9 rfl
theorem dX11_judge_18 : decode cX11_judge 18 = .ok (.aload_n 1, 1) := getB' kX11_judge_0 10 rfl
theorem dX11_judge_19 : decode cX11_judge 19 = .ok (.aload 4, 2) := getB' kX11_judge_0 11 rfl
def LX11_judge_1 : List (Nat × Instr × Nat) := [(21, .iload_n 2, 1), (22, .invokevirtual 354, 3), (25, .aload_n 0, 1), (26, .aload_n 1, 1), (27, .invokevirtual 358, 3), (30, .aload_n 0, 1), (31, .getfield 19, 3), (34, .aload_n 1, 1), (35, .getfield 353, 3), (38, .aload 4, 2), (40, .iload_n 2, 1), (41, .invokevirtual 279, 3)]
theorem kX11_judge_1 : chkB cX11_judge LX11_judge_1 = true := by decide +kernel
theorem dX11_judge_21 : decode cX11_judge 21 = .ok (.iload_n 2, 1) := getB' kX11_judge_1 0 rfl
theorem dX11_judge_22 : decode cX11_judge 22 = .ok (.invokevirtual 354, 3) := getB' kX11_judge_1 1 rfl
theorem dX11_judge_25 : decode cX11_judge 25 = .ok (.aload_n 0, 1) := getB' kX11_judge_1 2 rfl
theorem dX11_judge_26 : decode cX11_judge 26 = .ok (.aload_n 1, 1) := getB' kX11_judge_1 3 rfl
theorem dX11_judge_27 : decode cX11_judge 27 = .ok (.invokevirtual 358, 3) := getB' kX11_judge_1 4 rfl
theorem dX11_judge_30 : decode cX11_judge 30 = .ok (.aload_n 0, 1) := getB' kX11_judge_1 5 rfl
theorem dX11_judge_31 : decode cX11_judge 31 = .ok (.getfield 19, 3) := getB' kX11_judge_1 6 rfl
theorem dX11_judge_34 : decode cX11_judge 34 = .ok (.aload_n 1, 1) := getB' kX11_judge_1 7 rfl
theorem dX11_judge_35 : decode cX11_judge 35 = .ok (.getfield 353, 3) := getB' kX11_judge_1 8 rfl
theorem dX11_judge_38 : decode cX11_judge 38 = .ok (.aload 4, 2) := getB' kX11_judge_1 9 rfl
theorem dX11_judge_40 : decode cX11_judge 40 = .ok (.iload_n 2, 1) := getB' kX11_judge_1 10 rfl
theorem dX11_judge_41 : decode cX11_judge 41 = .ok (.invokevirtual 279, 3) := getB' kX11_judge_1 11 rfl
def LX11_judge_2 : List (Nat × Instr × Nat) := [(44, .aload_n 0, 1), (45, .getfield 19, 3), (48, .aload_n 1, 1), (49, .iload_n 2, 1), (50, .iload_n 3, 1), (51, .aload_n 0, 1), (52, .aload_n 1, 1), (53, .iload_n 2, 1), (54, .invokevirtual 362, 3), (57, .invokevirtual 366, 3), (60, .ireturn, 1)]
theorem kX11_judge_2 : chkB cX11_judge LX11_judge_2 = true := by decide +kernel
theorem dX11_judge_44 : decode cX11_judge 44 = .ok (.aload_n 0, 1) := getB' kX11_judge_2 0 rfl
theorem dX11_judge_45 : decode cX11_judge 45 = .ok (.getfield 19, 3) := getB' kX11_judge_2 1 rfl
theorem dX11_judge_48 : decode cX11_judge 48 = .ok (.aload_n 1, 1) := getB' kX11_judge_2 2 rfl
theorem dX11_judge_49 : decode cX11_judge 49 = .ok (.iload_n 2, 1) := getB' kX11_judge_2 3 rfl
theorem dX11_judge_50 : decode cX11_judge 50 = .ok (.iload_n 3, 1) := getB' kX11_judge_2 4 rfl
theorem dX11_judge_51 : decode cX11_judge 51 = .ok (.aload_n 0, 1) := getB' kX11_judge_2 5 rfl
theorem dX11_judge_52 : decode cX11_judge 52 = .ok (.aload_n 1, 1) := getB' kX11_judge_2 6 rfl
theorem dX11_judge_53 : decode cX11_judge 53 = .ok (.iload_n 2, 1) := getB' kX11_judge_2 7 rfl
theorem dX11_judge_54 : decode cX11_judge 54 = .ok (.invokevirtual 362, 3) := getB' kX11_judge_2 8 rfl
theorem dX11_judge_57 : decode cX11_judge 57 = .ok (.invokevirtual 366, 3) := getB' kX11_judge_2 9 rfl
theorem dX11_judge_60 : decode cX11_judge 60 = .ok (.ireturn, 1) := getB' kX11_judge_2 10 rfl
def LX11_hasConsent_0 : List (Nat × Instr × Nat) := [(0, .aload_n 0, 1), (1, .iload_n 2, 1), (2, .invokevirtual 369, 3), (5, .istore_n 3, 1), (6, .aload_n 1, 1), (7, .getfield 328, 3), (10, .iload_n 3, 1), (11, .iand, 1), (12, .ifCond .eq 5, 3), (15, .iconst 0, 1), (16, .ireturn, 1), (17, .iconst 2, 1)]
theorem kX11_hasConsent_0 : chkB cX11_hasConsent LX11_hasConsent_0 = true := by decide +kernel
theorem dX11_hasConsent_0 : decode cX11_hasConsent 0 = .ok (.aload_n 0, 1) := getB' kX11_hasConsent_0 0 rfl
theorem dX11_hasConsent_1 : decode cX11_hasConsent 1 = .ok (.iload_n 2, 1) := getB' kX11_hasConsent_0 1 rfl
theorem dX11_hasConsent_2 : decode cX11_hasConsent 2 = .ok (.invokevirtual 369, 3) := getB' kX11_hasConsent_0 2 rfl
theorem dX11_hasConsent_5 : decode cX11_hasConsent 5 = .ok (.istore_n 3, 1) := getB' kX11_hasConsent_0 3 rfl
theorem dX11_hasConsent_6 : decode cX11_hasConsent 6 = .ok (.aload_n 1, 1) := getB' kX11_hasConsent_0 4 rfl
theorem dX11_hasConsent_7 : decode cX11_hasConsent 7 = .ok (.getfield 328, 3) := getB' kX11_hasConsent_0 5 rfl
theorem dX11_hasConsent_10 : decode cX11_hasConsent 10 = .ok (.iload_n 3, 1) := getB' kX11_hasConsent_0 6 rfl
theorem dX11_hasConsent_11 : decode cX11_hasConsent 11 = .ok (.iand, 1) := getB' kX11_hasConsent_0 7 rfl
theorem dX11_hasConsent_12 : decode cX11_hasConsent 12 = .ok (.ifCond .eq 5, 3) := getB' kX11_hasConsent_0 8 rfl
theorem dX11_hasConsent_15 : decode cX11_hasConsent 15 = .ok (.iconst 0, 1) := getB' kX11_hasConsent_0 9 rfl
theorem dX11_hasConsent_16 : decode cX11_hasConsent 16 = .ok (.ireturn, 1) := getB' kX11_hasConsent_0 10 rfl
theorem dX11_hasConsent_17 : decode cX11_hasConsent 17 = .ok (.iconst 2, 1) := getB' kX11_hasConsent_0 11 rfl
def LX11_hasConsent_1 : List (Nat × Instr × Nat) := [(18, .aload_n 1, 1), (19, .getfield 325, 3), (22, .iload_n 3, 1), (23, .iand, 1), (24, .invokestatic 286, 3), (27, .imul, 1), (28, .iload_n 3, 1), (29, .invokestatic 286, 3), (32, .if_icmp .le 7, 3), (35, .iconst 1, 1), (36, .goto 4, 3), (39, .iconst 0, 1)]
theorem kX11_hasConsent_1 : chkB cX11_hasConsent LX11_hasConsent_1 = true := by decide +kernel
theorem dX11_hasConsent_18 : decode cX11_hasConsent 18 = .ok (.aload_n 1, 1) := getB' kX11_hasConsent_1 0 rfl
theorem dX11_hasConsent_19 : decode cX11_hasConsent 19 = .ok (.getfield 325, 3) := getB' kX11_hasConsent_1 1 rfl
theorem dX11_hasConsent_22 : decode cX11_hasConsent 22 = .ok (.iload_n 3, 1) := getB' kX11_hasConsent_1 2 rfl
theorem dX11_hasConsent_23 : decode cX11_hasConsent 23 = .ok (.iand, 1) := getB' kX11_hasConsent_1 3 rfl
theorem dX11_hasConsent_24 : decode cX11_hasConsent 24 = .ok (.invokestatic 286, 3) := getB' kX11_hasConsent_1 4 rfl
theorem dX11_hasConsent_27 : decode cX11_hasConsent 27 = .ok (.imul, 1) := getB' kX11_hasConsent_1 5 rfl
theorem dX11_hasConsent_28 : decode cX11_hasConsent 28 = .ok (.iload_n 3, 1) := getB' kX11_hasConsent_1 6 rfl
theorem dX11_hasConsent_29 : decode cX11_hasConsent 29 = .ok (.invokestatic 286, 3) := getB' kX11_hasConsent_1 7 rfl
theorem dX11_hasConsent_32 : decode cX11_hasConsent 32 = .ok (.if_icmp .le 7, 3) := getB' kX11_hasConsent_1 8 rfl
theorem dX11_hasConsent_35 : decode cX11_hasConsent 35 = .ok (.iconst 1, 1) := getB' kX11_hasConsent_1 9 rfl
theorem dX11_hasConsent_36 : decode cX11_hasConsent 36 = .ok (.goto 4, 3) := getB' kX11_hasConsent_1 10 rfl
theorem dX11_hasConsent_39 : decode cX11_hasConsent 39 = .ok (.iconst 0, 1) := getB' kX11_hasConsent_1 11 rfl
def LX11_hasConsent_2 : List (Nat × Instr × Nat) := [(40, .ireturn, 1)]
theorem kX11_hasConsent_2 : chkB cX11_hasConsent LX11_hasConsent_2 = true := by decide +kernel
theorem dX11_hasConsent_40 : decode cX11_hasConsent 40 = .ok (.ireturn, 1) := getB' kX11_hasConsent_2 0 rfl
def LX11_decidingOn_0 : List (Nat × Instr × Nat) := [(0, .iconst 0, 1), (1, .istore_n 2, 1), (2, .iconst 0, 1), (3, .istore_n 3, 1), (4, .iload_n 3, 1), (5, .aload_n 0, 1), (6, .getfield 36, 3), (9, .if_icmp .ge 36, 3), (12, .aload_n 0, 1), (13, .iload_n 3, 1), (14, .invokevirtual 151, 3), (17, .astore 4, 2)]
theorem kX11_decidingOn_0 : chkB cX11_decidingOn LX11_decidingOn_0 = true := by decide +kernel
theorem dX11_decidingOn_0 : decode cX11_decidingOn 0 = .ok (.iconst 0, 1) := getB' kX11_decidingOn_0 0 rfl
theorem dX11_decidingOn_1 : decode cX11_decidingOn 1 = .ok (.istore_n 2, 1) := getB' kX11_decidingOn_0 1 rfl
theorem dX11_decidingOn_2 : decode cX11_decidingOn 2 = .ok (.iconst 0, 1) := getB' kX11_decidingOn_0 2 rfl
theorem dX11_decidingOn_3 : decode cX11_decidingOn 3 = .ok (.istore_n 3, 1) := getB' kX11_decidingOn_0 3 rfl
theorem dX11_decidingOn_4 : decode cX11_decidingOn 4 = .ok (.iload_n 3, 1) := getB' kX11_decidingOn_0 4 rfl
theorem dX11_decidingOn_5 : decode cX11_decidingOn 5 = .ok (.aload_n 0, 1) := getB' kX11_decidingOn_0 5 rfl
theorem dX11_decidingOn_6 : decode cX11_decidingOn 6 = .ok (.getfield 36, 3) := getB' kX11_decidingOn_0 6 rfl
theorem dX11_decidingOn_9 : decode cX11_decidingOn 9 = .ok (.if_icmp .ge 36, 3) := getB' kX11_decidingOn_0 7 rfl
theorem dX11_decidingOn_12 : decode cX11_decidingOn 12 = .ok (.aload_n 0, 1) := getB' kX11_decidingOn_0 8 rfl
theorem dX11_decidingOn_13 : decode cX11_decidingOn 13 = .ok (.iload_n 3, 1) := getB' kX11_decidingOn_0 9 rfl
theorem dX11_decidingOn_14 : decode cX11_decidingOn 14 = .ok (.invokevirtual 151, 3) := getB' kX11_decidingOn_0 10 rfl
theorem dX11_decidingOn_17 : decode cX11_decidingOn 17 = .ok (.astore 4, 2) := getB' kX11_decidingOn_0 11 rfl
def LX11_decidingOn_1 : List (Nat × Instr × Nat) := [(19, .aload 4, 2), (21, .ifnull 18, 3), (24, .aload 4, 2), (26, .iload_n 1, 1), (27, .invokevirtual 301, 3), (30, .ifCond .eq 9, 3), (33, .iload_n 2, 1), (34, .iconst 1, 1), (35, .iload_n 3, 1), (36, .ishl, 1), (37, .ior, 1), (38, .istore_n 2, 1)]
theorem kX11_decidingOn_1 : chkB cX11_decidingOn LX11_decidingOn_1 = true := by decide +kernel
theorem dX11_decidingOn_19 : decode cX11_decidingOn 19 = .ok (.aload 4, 2) := getB' kX11_decidingOn_1 0 rfl
theorem dX11_decidingOn_21 : decode cX11_decidingOn 21 = .ok (.ifnull 18, 3) := getB' kX11_decidingOn_1 1 rfl
theorem dX11_decidingOn_24 : decode cX11_decidingOn 24 = .ok (.aload 4, 2) := getB' kX11_decidingOn_1 2 rfl
theorem dX11_decidingOn_26 : decode cX11_decidingOn 26 = .ok (.iload_n 1, 1) := getB' kX11_decidingOn_1 3 rfl
theorem dX11_decidingOn_27 : decode cX11_decidingOn 27 = .ok (.invokevirtual 301, 3) := getB' kX11_decidingOn_1 4 rfl
theorem dX11_decidingOn_30 : decode cX11_decidingOn 30 = .ok (.ifCond .eq 9, 3) := getB' kX11_decidingOn_1 5 rfl
theorem dX11_decidingOn_33 : decode cX11_decidingOn 33 = .ok (.iload_n 2, 1) := getB' kX11_decidingOn_1 6 rfl
theorem dX11_decidingOn_34 : decode cX11_decidingOn 34 = .ok (.iconst 1, 1) := getB' kX11_decidingOn_1 7 rfl
theorem dX11_decidingOn_35 : decode cX11_decidingOn 35 = .ok (.iload_n 3, 1) := getB' kX11_decidingOn_1 8 rfl
theorem dX11_decidingOn_36 : decode cX11_decidingOn 36 = .ok (.ishl, 1) := getB' kX11_decidingOn_1 9 rfl
theorem dX11_decidingOn_37 : decode cX11_decidingOn 37 = .ok (.ior, 1) := getB' kX11_decidingOn_1 10 rfl
theorem dX11_decidingOn_38 : decode cX11_decidingOn 38 = .ok (.istore_n 2, 1) := getB' kX11_decidingOn_1 11 rfl
def LX11_decidingOn_2 : List (Nat × Instr × Nat) := [(39, .iinc 3 1, 3), (42, .goto (-38), 3), (45, .iload_n 2, 1), (46, .ireturn, 1)]
theorem kX11_decidingOn_2 : chkB cX11_decidingOn LX11_decidingOn_2 = true := by decide +kernel
theorem dX11_decidingOn_39 : decode cX11_decidingOn 39 = .ok (.iinc 3 1, 3) := getB' kX11_decidingOn_2 0 rfl
theorem dX11_decidingOn_42 : decode cX11_decidingOn 42 = .ok (.goto (-38), 3) := getB' kX11_decidingOn_2 1 rfl
theorem dX11_decidingOn_45 : decode cX11_decidingOn 45 = .ok (.iload_n 2, 1) := getB' kX11_decidingOn_2 2 rfl
theorem dX11_decidingOn_46 : decode cX11_decidingOn 46 = .ok (.ireturn, 1) := getB' kX11_decidingOn_2 3 rfl
def LX11_tellLetters_0 : List (Nat × Instr × Nat) := [(0, .aload_n 0, 1), (1, .getfield 19, 3), (4, .getfield 372, 3), (7, .astore 4, 2), (9, .aload 4, 2), (11, .iconst 0, 1), (12, .aload_n 1, 1), (13, .getfield 375, 3), (16, .invokestatic 108, 3), (19, .aload 4, 2), (21, .iconst 1, 1), (22, .aload_n 1, 1)]
theorem kX11_tellLetters_0 : chkB cX11_tellLetters LX11_tellLetters_0 = true := by decide +kernel
theorem dX11_tellLetters_0 : decode cX11_tellLetters 0 = .ok (.aload_n 0, 1) := getB' kX11_tellLetters_0 0 rfl
theorem dX11_tellLetters_1 : decode cX11_tellLetters 1 = .ok (.getfield 19, 3) := getB' kX11_tellLetters_0 1 rfl
theorem dX11_tellLetters_4 : decode cX11_tellLetters 4 = .ok (.getfield 372, 3) := getB' kX11_tellLetters_0 2 rfl
theorem dX11_tellLetters_7 : decode cX11_tellLetters 7 = .ok (.astore 4, 2) := getB' kX11_tellLetters_0 3 rfl
theorem dX11_tellLetters_9 : decode cX11_tellLetters 9 = .ok (.aload 4, 2) := getB' kX11_tellLetters_0 4 rfl
theorem dX11_tellLetters_11 : decode cX11_tellLetters 11 = .ok (.iconst 0, 1) := getB' kX11_tellLetters_0 5 rfl
theorem dX11_tellLetters_12 : decode cX11_tellLetters 12 = .ok (.aload_n 1, 1) := getB' kX11_tellLetters_0 6 rfl
theorem dX11_tellLetters_13 : decode cX11_tellLetters 13 = .ok (.getfield 375, 3) := getB' kX11_tellLetters_0 7 rfl
theorem dX11_tellLetters_16 : decode cX11_tellLetters 16 = .ok (.invokestatic 108, 3) := getB' kX11_tellLetters_0 8 rfl
theorem dX11_tellLetters_19 : decode cX11_tellLetters 19 = .ok (.aload 4, 2) := getB' kX11_tellLetters_0 9 rfl
theorem dX11_tellLetters_21 : decode cX11_tellLetters 21 = .ok (.iconst 1, 1) := getB' kX11_tellLetters_0 10 rfl
theorem dX11_tellLetters_22 : decode cX11_tellLetters 22 = .ok (.aload_n 1, 1) := getB' kX11_tellLetters_0 11 rfl
def LX11_tellLetters_1 : List (Nat × Instr × Nat) := [(23, .getfield 353, 3), (26, .invokestatic 108, 3), (29, .aload 4, 2), (31, .iconst 2, 1), (32, .aload_n 2, 1), (33, .iload_n 3, 1), (34, .invokevirtual 301, 3), (37, .ifCond .eq 7, 3), (40, .iconst 1, 1), (41, .goto 4, 3), (44, .iconst 0, 1), (45, .invokestatic 108, 3)]
theorem kX11_tellLetters_1 : chkB cX11_tellLetters LX11_tellLetters_1 = true := by decide +kernel
theorem dX11_tellLetters_23 : decode cX11_tellLetters 23 = .ok (.getfield 353, 3) := getB' kX11_tellLetters_1 0 rfl
theorem dX11_tellLetters_26 : decode cX11_tellLetters 26 = .ok (.invokestatic 108, 3) := getB' kX11_tellLetters_1 1 rfl
theorem dX11_tellLetters_29 : decode cX11_tellLetters 29 = .ok (.aload 4, 2) := getB' kX11_tellLetters_1 2 rfl
theorem dX11_tellLetters_31 : decode cX11_tellLetters 31 = .ok (.iconst 2, 1) := getB' kX11_tellLetters_1 3 rfl
theorem dX11_tellLetters_32 : decode cX11_tellLetters 32 = .ok (.aload_n 2, 1) := getB' kX11_tellLetters_1 4 rfl
theorem dX11_tellLetters_33 : decode cX11_tellLetters 33 = .ok (.iload_n 3, 1) := getB' kX11_tellLetters_1 5 rfl
theorem dX11_tellLetters_34 : decode cX11_tellLetters 34 = .ok (.invokevirtual 301, 3) := getB' kX11_tellLetters_1 6 rfl
theorem dX11_tellLetters_37 : decode cX11_tellLetters 37 = .ok (.ifCond .eq 7, 3) := getB' kX11_tellLetters_1 7 rfl
theorem dX11_tellLetters_40 : decode cX11_tellLetters 40 = .ok (.iconst 1, 1) := getB' kX11_tellLetters_1 8 rfl
theorem dX11_tellLetters_41 : decode cX11_tellLetters 41 = .ok (.goto 4, 3) := getB' kX11_tellLetters_1 9 rfl
theorem dX11_tellLetters_44 : decode cX11_tellLetters 44 = .ok (.iconst 0, 1) := getB' kX11_tellLetters_1 10 rfl
theorem dX11_tellLetters_45 : decode cX11_tellLetters 45 = .ok (.invokestatic 108, 3) := getB' kX11_tellLetters_1 11 rfl
def LX11_tellLetters_2 : List (Nat × Instr × Nat) := [(48, .aload 4, 2), (50, .iconst 3, 1), (51, .aload_n 0, 1), (52, .getfield 12, 3), (55, .getfield 123, 3), (58, .aload_n 1, 1), (59, .getfield 378, 3), (62, .invokestatic 253, 3), (65, .invokestatic 108, 3), (68, .aload 4, 2), (70, .iconst 4, 1), (71, .aload_n 0, 1)]
theorem kX11_tellLetters_2 : chkB cX11_tellLetters LX11_tellLetters_2 = true := by decide +kernel
theorem dX11_tellLetters_48 : decode cX11_tellLetters 48 = .ok (.aload 4, 2) := getB' kX11_tellLetters_2 0 rfl
theorem dX11_tellLetters_50 : decode cX11_tellLetters 50 = .ok (.iconst 3, 1) := getB' kX11_tellLetters_2 1 rfl
theorem dX11_tellLetters_51 : decode cX11_tellLetters 51 = .ok (.aload_n 0, 1) := getB' kX11_tellLetters_2 2 rfl
theorem dX11_tellLetters_52 : decode cX11_tellLetters 52 = .ok (.getfield 12, 3) := getB' kX11_tellLetters_2 3 rfl
theorem dX11_tellLetters_55 : decode cX11_tellLetters 55 = .ok (.getfield 123, 3) := getB' kX11_tellLetters_2 4 rfl
theorem dX11_tellLetters_58 : decode cX11_tellLetters 58 = .ok (.aload_n 1, 1) := getB' kX11_tellLetters_2 5 rfl
theorem dX11_tellLetters_59 : decode cX11_tellLetters 59 = .ok (.getfield 378, 3) := getB' kX11_tellLetters_2 6 rfl
theorem dX11_tellLetters_62 : decode cX11_tellLetters 62 = .ok (.invokestatic 253, 3) := getB' kX11_tellLetters_2 7 rfl
theorem dX11_tellLetters_65 : decode cX11_tellLetters 65 = .ok (.invokestatic 108, 3) := getB' kX11_tellLetters_2 8 rfl
theorem dX11_tellLetters_68 : decode cX11_tellLetters 68 = .ok (.aload 4, 2) := getB' kX11_tellLetters_2 9 rfl
theorem dX11_tellLetters_70 : decode cX11_tellLetters 70 = .ok (.iconst 4, 1) := getB' kX11_tellLetters_2 10 rfl
theorem dX11_tellLetters_71 : decode cX11_tellLetters 71 = .ok (.aload_n 0, 1) := getB' kX11_tellLetters_2 11 rfl
def LX11_tellLetters_3 : List (Nat × Instr × Nat) := [(72, .getfield 12, 3), (75, .getfield 126, 3), (78, .aload_n 1, 1), (79, .getfield 378, 3), (82, .invokestatic 253, 3), (85, .invokestatic 108, 3), (88, .aload 4, 2), (90, .bipush 9, 2), (92, .aload_n 1, 1), (93, .getfield 305, 3), (96, .invokestatic 108, 3), (99, .aload 4, 2)]
theorem kX11_tellLetters_3 : chkB cX11_tellLetters LX11_tellLetters_3 = true := by decide +kernel
theorem dX11_tellLetters_72 : decode cX11_tellLetters 72 = .ok (.getfield 12, 3) := getB' kX11_tellLetters_3 0 rfl
theorem dX11_tellLetters_75 : decode cX11_tellLetters 75 = .ok (.getfield 126, 3) := getB' kX11_tellLetters_3 1 rfl
theorem dX11_tellLetters_78 : decode cX11_tellLetters 78 = .ok (.aload_n 1, 1) := getB' kX11_tellLetters_3 2 rfl
theorem dX11_tellLetters_79 : decode cX11_tellLetters 79 = .ok (.getfield 378, 3) := getB' kX11_tellLetters_3 3 rfl
theorem dX11_tellLetters_82 : decode cX11_tellLetters 82 = .ok (.invokestatic 253, 3) := getB' kX11_tellLetters_3 4 rfl
theorem dX11_tellLetters_85 : decode cX11_tellLetters 85 = .ok (.invokestatic 108, 3) := getB' kX11_tellLetters_3 5 rfl
theorem dX11_tellLetters_88 : decode cX11_tellLetters 88 = .ok (.aload 4, 2) := getB' kX11_tellLetters_3 6 rfl
theorem dX11_tellLetters_90 : decode cX11_tellLetters 90 = .ok (.bipush 9, 2) := getB' kX11_tellLetters_3 7 rfl
theorem dX11_tellLetters_92 : decode cX11_tellLetters 92 = .ok (.aload_n 1, 1) := getB' kX11_tellLetters_3 8 rfl
theorem dX11_tellLetters_93 : decode cX11_tellLetters 93 = .ok (.getfield 305, 3) := getB' kX11_tellLetters_3 9 rfl
theorem dX11_tellLetters_96 : decode cX11_tellLetters 96 = .ok (.invokestatic 108, 3) := getB' kX11_tellLetters_3 10 rfl
theorem dX11_tellLetters_99 : decode cX11_tellLetters 99 = .ok (.aload 4, 2) := getB' kX11_tellLetters_3 11 rfl
def LX11_tellLetters_4 : List (Nat × Instr × Nat) := [(101, .bipush 10, 2), (103, .aload_n 1, 1), (104, .getfield 306, 3), (107, .invokestatic 108, 3), (110, .aload 4, 2), (112, .bipush 11, 2), (114, .iload_n 3, 1), (115, .sipush 360, 3), (118, .irem, 1), (119, .invokestatic 108, 3), (122, .aload 4, 2), (124, .bipush 12, 2)]
theorem kX11_tellLetters_4 : chkB cX11_tellLetters LX11_tellLetters_4 = true := by decide +kernel
theorem dX11_tellLetters_101 : decode cX11_tellLetters 101 = .ok (.bipush 10, 2) := getB' kX11_tellLetters_4 0 rfl
theorem dX11_tellLetters_103 : decode cX11_tellLetters 103 = .ok (.aload_n 1, 1) := getB' kX11_tellLetters_4 1 rfl
theorem dX11_tellLetters_104 : decode cX11_tellLetters 104 = .ok (.getfield 306, 3) := getB' kX11_tellLetters_4 2 rfl
theorem dX11_tellLetters_107 : decode cX11_tellLetters 107 = .ok (.invokestatic 108, 3) := getB' kX11_tellLetters_4 3 rfl
theorem dX11_tellLetters_110 : decode cX11_tellLetters 110 = .ok (.aload 4, 2) := getB' kX11_tellLetters_4 4 rfl
theorem dX11_tellLetters_112 : decode cX11_tellLetters 112 = .ok (.bipush 11, 2) := getB' kX11_tellLetters_4 5 rfl
theorem dX11_tellLetters_114 : decode cX11_tellLetters 114 = .ok (.iload_n 3, 1) := getB' kX11_tellLetters_4 6 rfl
theorem dX11_tellLetters_115 : decode cX11_tellLetters 115 = .ok (.sipush 360, 3) := getB' kX11_tellLetters_4 7 rfl
theorem dX11_tellLetters_118 : decode cX11_tellLetters 118 = .ok (.irem, 1) := getB' kX11_tellLetters_4 8 rfl
theorem dX11_tellLetters_119 : decode cX11_tellLetters 119 = .ok (.invokestatic 108, 3) := getB' kX11_tellLetters_4 9 rfl
theorem dX11_tellLetters_122 : decode cX11_tellLetters 122 = .ok (.aload 4, 2) := getB' kX11_tellLetters_4 10 rfl
theorem dX11_tellLetters_124 : decode cX11_tellLetters 124 = .ok (.bipush 12, 2) := getB' kX11_tellLetters_4 11 rfl
def LX11_tellLetters_5 : List (Nat × Instr × Nat) := [(126, .iload_n 3, 1), (127, .sipush 360, 3), (130, .idiv, 1), (131, .invokestatic 108, 3), (134, .aload 4, 2), (136, .bipush 13, 2), (138, .aload_n 0, 1), (139, .getfield 12, 3), (142, .iload_n 3, 1), (143, .invokevirtual 381, 3), (146, .ifCond .eq 7, 3), (149, .iconst 1, 1)]
theorem kX11_tellLetters_5 : chkB cX11_tellLetters LX11_tellLetters_5 = true := by decide +kernel
theorem dX11_tellLetters_126 : decode cX11_tellLetters 126 = .ok (.iload_n 3, 1) := getB' kX11_tellLetters_5 0 rfl
theorem dX11_tellLetters_127 : decode cX11_tellLetters 127 = .ok (.sipush 360, 3) := getB' kX11_tellLetters_5 1 rfl
theorem dX11_tellLetters_130 : decode cX11_tellLetters 130 = .ok (.idiv, 1) := getB' kX11_tellLetters_5 2 rfl
theorem dX11_tellLetters_131 : decode cX11_tellLetters 131 = .ok (.invokestatic 108, 3) := getB' kX11_tellLetters_5 3 rfl
theorem dX11_tellLetters_134 : decode cX11_tellLetters 134 = .ok (.aload 4, 2) := getB' kX11_tellLetters_5 4 rfl
theorem dX11_tellLetters_136 : decode cX11_tellLetters 136 = .ok (.bipush 13, 2) := getB' kX11_tellLetters_5 5 rfl
theorem dX11_tellLetters_138 : decode cX11_tellLetters 138 = .ok (.aload_n 0, 1) := getB' kX11_tellLetters_5 6 rfl
theorem dX11_tellLetters_139 : decode cX11_tellLetters 139 = .ok (.getfield 12, 3) := getB' kX11_tellLetters_5 7 rfl
theorem dX11_tellLetters_142 : decode cX11_tellLetters 142 = .ok (.iload_n 3, 1) := getB' kX11_tellLetters_5 8 rfl
theorem dX11_tellLetters_143 : decode cX11_tellLetters 143 = .ok (.invokevirtual 381, 3) := getB' kX11_tellLetters_5 9 rfl
theorem dX11_tellLetters_146 : decode cX11_tellLetters 146 = .ok (.ifCond .eq 7, 3) := getB' kX11_tellLetters_5 10 rfl
theorem dX11_tellLetters_149 : decode cX11_tellLetters 149 = .ok (.iconst 1, 1) := getB' kX11_tellLetters_5 11 rfl
def LX11_tellLetters_6 : List (Nat × Instr × Nat) := [(150, .goto 4, 3), (153, .iconst 0, 1), (154, .invokestatic 108, 3), (157, .return_, 1)]
theorem kX11_tellLetters_6 : chkB cX11_tellLetters LX11_tellLetters_6 = true := by decide +kernel
theorem dX11_tellLetters_150 : decode cX11_tellLetters 150 = .ok (.goto 4, 3) := getB' kX11_tellLetters_6 0 rfl
theorem dX11_tellLetters_153 : decode cX11_tellLetters 153 = .ok (.iconst 0, 1) := getB' kX11_tellLetters_6 1 rfl
theorem dX11_tellLetters_154 : decode cX11_tellLetters 154 = .ok (.invokestatic 108, 3) := getB' kX11_tellLetters_6 2 rfl
theorem dX11_tellLetters_157 : decode cX11_tellLetters 157 = .ok (.return_, 1) := getB' kX11_tellLetters_6 3 rfl
def LX11_tellNeighbours_0 : List (Nat × Instr × Nat) := [(0, .iconst 0, 1), (1, .istore_n 2, 1), (2, .iconst 0, 1), (3, .istore_n 3, 1), (4, .iconst 0, 1), (5, .istore 4, 2), (7, .iconst 0, 1), (8, .istore 5, 2), (10, .iconst 0, 1), (11, .istore 6, 2), (13, .iload 6, 2), (15, .aload_n 0, 1)]
theorem kX11_tellNeighbours_0 : chkB cX11_tellNeighbours LX11_tellNeighbours_0 = true := by decide +kernel
theorem dX11_tellNeighbours_0 : decode cX11_tellNeighbours 0 = .ok (.iconst 0, 1) := getB' kX11_tellNeighbours_0 0 rfl
theorem dX11_tellNeighbours_1 : decode cX11_tellNeighbours 1 = .ok (.istore_n 2, 1) := getB' kX11_tellNeighbours_0 1 rfl
theorem dX11_tellNeighbours_2 : decode cX11_tellNeighbours 2 = .ok (.iconst 0, 1) := getB' kX11_tellNeighbours_0 2 rfl
theorem dX11_tellNeighbours_3 : decode cX11_tellNeighbours 3 = .ok (.istore_n 3, 1) := getB' kX11_tellNeighbours_0 3 rfl
theorem dX11_tellNeighbours_4 : decode cX11_tellNeighbours 4 = .ok (.iconst 0, 1) := getB' kX11_tellNeighbours_0 4 rfl
theorem dX11_tellNeighbours_5 : decode cX11_tellNeighbours 5 = .ok (.istore 4, 2) := getB' kX11_tellNeighbours_0 5 rfl
theorem dX11_tellNeighbours_7 : decode cX11_tellNeighbours 7 = .ok (.iconst 0, 1) := getB' kX11_tellNeighbours_0 6 rfl
theorem dX11_tellNeighbours_8 : decode cX11_tellNeighbours 8 = .ok (.istore 5, 2) := getB' kX11_tellNeighbours_0 7 rfl
theorem dX11_tellNeighbours_10 : decode cX11_tellNeighbours 10 = .ok (.iconst 0, 1) := getB' kX11_tellNeighbours_0 8 rfl
theorem dX11_tellNeighbours_11 : decode cX11_tellNeighbours 11 = .ok (.istore 6, 2) := getB' kX11_tellNeighbours_0 9 rfl
theorem dX11_tellNeighbours_13 : decode cX11_tellNeighbours 13 = .ok (.iload 6, 2) := getB' kX11_tellNeighbours_0 10 rfl
theorem dX11_tellNeighbours_15 : decode cX11_tellNeighbours 15 = .ok (.aload_n 0, 1) := getB' kX11_tellNeighbours_0 11 rfl
def LX11_tellNeighbours_1 : List (Nat × Instr × Nat) := [(16, .getfield 46, 3), (19, .if_icmp .ge 185, 3), (22, .aload_n 0, 1), (23, .iload 6, 2), (25, .invokevirtual 384, 3), (28, .astore 7, 2), (30, .aload 7, 2), (32, .ifnonnull 6, 3), (35, .goto 163, 3), (38, .aload 7, 2), (40, .getfield 387, 3), (43, .iconst 3, 1)]
theorem kX11_tellNeighbours_1 : chkB cX11_tellNeighbours LX11_tellNeighbours_1 = true := by decide +kernel
theorem dX11_tellNeighbours_16 : decode cX11_tellNeighbours 16 = .ok (.getfield 46, 3) := getB' kX11_tellNeighbours_1 0 rfl
theorem dX11_tellNeighbours_19 : decode cX11_tellNeighbours 19 = .ok (.if_icmp .ge 185, 3) := getB' kX11_tellNeighbours_1 1 rfl
theorem dX11_tellNeighbours_22 : decode cX11_tellNeighbours 22 = .ok (.aload_n 0, 1) := getB' kX11_tellNeighbours_1 2 rfl
theorem dX11_tellNeighbours_23 : decode cX11_tellNeighbours 23 = .ok (.iload 6, 2) := getB' kX11_tellNeighbours_1 3 rfl
theorem dX11_tellNeighbours_25 : decode cX11_tellNeighbours 25 = .ok (.invokevirtual 384, 3) := getB' kX11_tellNeighbours_1 4 rfl
theorem dX11_tellNeighbours_28 : decode cX11_tellNeighbours 28 = .ok (.astore 7, 2) := getB' kX11_tellNeighbours_1 5 rfl
theorem dX11_tellNeighbours_30 : decode cX11_tellNeighbours 30 = .ok (.aload 7, 2) := getB' kX11_tellNeighbours_1 6 rfl
theorem dX11_tellNeighbours_32 : decode cX11_tellNeighbours 32 = .ok (.ifnonnull 6, 3) := getB' kX11_tellNeighbours_1 7 rfl
theorem dX11_tellNeighbours_35 : decode cX11_tellNeighbours 35 = .ok (.goto 163, 3) := getB' kX11_tellNeighbours_1 8 rfl
theorem dX11_tellNeighbours_38 : decode cX11_tellNeighbours 38 = .ok (.aload 7, 2) := getB' kX11_tellNeighbours_1 9 rfl
theorem dX11_tellNeighbours_40 : decode cX11_tellNeighbours 40 = .ok (.getfield 387, 3) := getB' kX11_tellNeighbours_1 10 rfl
theorem dX11_tellNeighbours_43 : decode cX11_tellNeighbours 43 = .ok (.iconst 3, 1) := getB' kX11_tellNeighbours_1 11 rfl
def LX11_tellNeighbours_2 : List (Nat × Instr × Nat) := [(44, .if_icmp .ne 40, 3), (47, .aload_n 0, 1), (48, .getfield 12, 3), (51, .aload_n 1, 1), (52, .getfield 378, 3), (55, .aload 7, 2), (57, .getfield 344, 3), (60, .aload 7, 2), (62, .getfield 347, 3), (65, .invokevirtual 350, 3), (68, .ifCond .eq 16, 3), (71, .iload_n 2, 1)]
theorem kX11_tellNeighbours_2 : chkB cX11_tellNeighbours LX11_tellNeighbours_2 = true := by decide +kernel
theorem dX11_tellNeighbours_44 : decode cX11_tellNeighbours 44 = .ok (.if_icmp .ne 40, 3) := getB' kX11_tellNeighbours_2 0 rfl
theorem dX11_tellNeighbours_47 : decode cX11_tellNeighbours 47 = .ok (.aload_n 0, 1) := getB' kX11_tellNeighbours_2 1 rfl
theorem dX11_tellNeighbours_48 : decode cX11_tellNeighbours 48 = .ok (.getfield 12, 3) := getB' kX11_tellNeighbours_2 2 rfl
theorem dX11_tellNeighbours_51 : decode cX11_tellNeighbours 51 = .ok (.aload_n 1, 1) := getB' kX11_tellNeighbours_2 3 rfl
theorem dX11_tellNeighbours_52 : decode cX11_tellNeighbours 52 = .ok (.getfield 378, 3) := getB' kX11_tellNeighbours_2 4 rfl
theorem dX11_tellNeighbours_55 : decode cX11_tellNeighbours 55 = .ok (.aload 7, 2) := getB' kX11_tellNeighbours_2 5 rfl
theorem dX11_tellNeighbours_57 : decode cX11_tellNeighbours 57 = .ok (.getfield 344, 3) := getB' kX11_tellNeighbours_2 6 rfl
theorem dX11_tellNeighbours_60 : decode cX11_tellNeighbours 60 = .ok (.aload 7, 2) := getB' kX11_tellNeighbours_2 7 rfl
theorem dX11_tellNeighbours_62 : decode cX11_tellNeighbours 62 = .ok (.getfield 347, 3) := getB' kX11_tellNeighbours_2 8 rfl
theorem dX11_tellNeighbours_65 : decode cX11_tellNeighbours 65 = .ok (.invokevirtual 350, 3) := getB' kX11_tellNeighbours_2 9 rfl
theorem dX11_tellNeighbours_68 : decode cX11_tellNeighbours 68 = .ok (.ifCond .eq 16, 3) := getB' kX11_tellNeighbours_2 10 rfl
theorem dX11_tellNeighbours_71 : decode cX11_tellNeighbours 71 = .ok (.iload_n 2, 1) := getB' kX11_tellNeighbours_2 11 rfl
def LX11_tellNeighbours_3 : List (Nat × Instr × Nat) := [(72, .aload 7, 2), (74, .getfield 176, 3), (77, .invokestatic 296, 3), (80, .istore_n 2, 1), (81, .goto 117, 3), (84, .aload 7, 2), (86, .getfield 387, 3), (89, .iconst 4, 1), (90, .if_icmp .ne 29, 3), (93, .aload_n 0, 1), (94, .getfield 12, 3), (97, .aload_n 1, 1)]
theorem kX11_tellNeighbours_3 : chkB cX11_tellNeighbours LX11_tellNeighbours_3 = true := by decide +kernel
theorem dX11_tellNeighbours_72 : decode cX11_tellNeighbours 72 = .ok (.aload 7, 2) := getB' kX11_tellNeighbours_3 0 rfl
theorem dX11_tellNeighbours_74 : decode cX11_tellNeighbours 74 = .ok (.getfield 176, 3) := getB' kX11_tellNeighbours_3 1 rfl
theorem dX11_tellNeighbours_77 : decode cX11_tellNeighbours 77 = .ok (.invokestatic 296, 3) := getB' kX11_tellNeighbours_3 2 rfl
theorem dX11_tellNeighbours_80 : decode cX11_tellNeighbours 80 = .ok (.istore_n 2, 1) := getB' kX11_tellNeighbours_3 3 rfl
theorem dX11_tellNeighbours_81 : decode cX11_tellNeighbours 81 = .ok (.goto 117, 3) := getB' kX11_tellNeighbours_3 4 rfl
theorem dX11_tellNeighbours_84 : decode cX11_tellNeighbours 84 = .ok (.aload 7, 2) := getB' kX11_tellNeighbours_3 5 rfl
theorem dX11_tellNeighbours_86 : decode cX11_tellNeighbours 86 = .ok (.getfield 387, 3) := getB' kX11_tellNeighbours_3 6 rfl
theorem dX11_tellNeighbours_89 : decode cX11_tellNeighbours 89 = .ok (.iconst 4, 1) := getB' kX11_tellNeighbours_3 7 rfl
theorem dX11_tellNeighbours_90 : decode cX11_tellNeighbours 90 = .ok (.if_icmp .ne 29, 3) := getB' kX11_tellNeighbours_3 8 rfl
theorem dX11_tellNeighbours_93 : decode cX11_tellNeighbours 93 = .ok (.aload_n 0, 1) := getB' kX11_tellNeighbours_3 9 rfl
theorem dX11_tellNeighbours_94 : decode cX11_tellNeighbours 94 = .ok (.getfield 12, 3) := getB' kX11_tellNeighbours_3 10 rfl
theorem dX11_tellNeighbours_97 : decode cX11_tellNeighbours 97 = .ok (.aload_n 1, 1) := getB' kX11_tellNeighbours_3 11 rfl
def LX11_tellNeighbours_4 : List (Nat × Instr × Nat) := [(98, .getfield 378, 3), (101, .aload 7, 2), (103, .getfield 344, 3), (106, .invokevirtual 388, 3), (109, .iconst 1, 1), (110, .if_icmp .gt 9, 3), (113, .iinc 3 1, 3), (116, .goto 82, 3), (119, .aload 7, 2), (121, .getfield 387, 3), (124, .iconst 5, 1), (125, .if_icmp .ne 29, 3)]
theorem kX11_tellNeighbours_4 : chkB cX11_tellNeighbours LX11_tellNeighbours_4 = true := by decide +kernel
theorem dX11_tellNeighbours_98 : decode cX11_tellNeighbours 98 = .ok (.getfield 378, 3) := getB' kX11_tellNeighbours_4 0 rfl
theorem dX11_tellNeighbours_101 : decode cX11_tellNeighbours 101 = .ok (.aload 7, 2) := getB' kX11_tellNeighbours_4 1 rfl
theorem dX11_tellNeighbours_103 : decode cX11_tellNeighbours 103 = .ok (.getfield 344, 3) := getB' kX11_tellNeighbours_4 2 rfl
theorem dX11_tellNeighbours_106 : decode cX11_tellNeighbours 106 = .ok (.invokevirtual 388, 3) := getB' kX11_tellNeighbours_4 3 rfl
theorem dX11_tellNeighbours_109 : decode cX11_tellNeighbours 109 = .ok (.iconst 1, 1) := getB' kX11_tellNeighbours_4 4 rfl
theorem dX11_tellNeighbours_110 : decode cX11_tellNeighbours 110 = .ok (.if_icmp .gt 9, 3) := getB' kX11_tellNeighbours_4 5 rfl
theorem dX11_tellNeighbours_113 : decode cX11_tellNeighbours 113 = .ok (.iinc 3 1, 3) := getB' kX11_tellNeighbours_4 6 rfl
theorem dX11_tellNeighbours_116 : decode cX11_tellNeighbours 116 = .ok (.goto 82, 3) := getB' kX11_tellNeighbours_4 7 rfl
theorem dX11_tellNeighbours_119 : decode cX11_tellNeighbours 119 = .ok (.aload 7, 2) := getB' kX11_tellNeighbours_4 8 rfl
theorem dX11_tellNeighbours_121 : decode cX11_tellNeighbours 121 = .ok (.getfield 387, 3) := getB' kX11_tellNeighbours_4 9 rfl
theorem dX11_tellNeighbours_124 : decode cX11_tellNeighbours 124 = .ok (.iconst 5, 1) := getB' kX11_tellNeighbours_4 10 rfl
theorem dX11_tellNeighbours_125 : decode cX11_tellNeighbours 125 = .ok (.if_icmp .ne 29, 3) := getB' kX11_tellNeighbours_4 11 rfl
def LX11_tellNeighbours_5 : List (Nat × Instr × Nat) := [(128, .aload_n 0, 1), (129, .getfield 12, 3), (132, .aload_n 1, 1), (133, .getfield 378, 3), (136, .aload 7, 2), (138, .getfield 344, 3), (141, .invokevirtual 388, 3), (144, .iconst 2, 1), (145, .if_icmp .gt 9, 3), (148, .iinc 4 1, 3), (151, .goto 47, 3), (154, .aload 7, 2)]
theorem kX11_tellNeighbours_5 : chkB cX11_tellNeighbours LX11_tellNeighbours_5 = true := by decide +kernel
theorem dX11_tellNeighbours_128 : decode cX11_tellNeighbours 128 = .ok (.aload_n 0, 1) := getB' kX11_tellNeighbours_5 0 rfl
theorem dX11_tellNeighbours_129 : decode cX11_tellNeighbours 129 = .ok (.getfield 12, 3) := getB' kX11_tellNeighbours_5 1 rfl
theorem dX11_tellNeighbours_132 : decode cX11_tellNeighbours 132 = .ok (.aload_n 1, 1) := getB' kX11_tellNeighbours_5 2 rfl
theorem dX11_tellNeighbours_133 : decode cX11_tellNeighbours 133 = .ok (.getfield 378, 3) := getB' kX11_tellNeighbours_5 3 rfl
theorem dX11_tellNeighbours_136 : decode cX11_tellNeighbours 136 = .ok (.aload 7, 2) := getB' kX11_tellNeighbours_5 4 rfl
theorem dX11_tellNeighbours_138 : decode cX11_tellNeighbours 138 = .ok (.getfield 344, 3) := getB' kX11_tellNeighbours_5 5 rfl
theorem dX11_tellNeighbours_141 : decode cX11_tellNeighbours 141 = .ok (.invokevirtual 388, 3) := getB' kX11_tellNeighbours_5 6 rfl
theorem dX11_tellNeighbours_144 : decode cX11_tellNeighbours 144 = .ok (.iconst 2, 1) := getB' kX11_tellNeighbours_5 7 rfl
theorem dX11_tellNeighbours_145 : decode cX11_tellNeighbours 145 = .ok (.if_icmp .gt 9, 3) := getB' kX11_tellNeighbours_5 8 rfl
theorem dX11_tellNeighbours_148 : decode cX11_tellNeighbours 148 = .ok (.iinc 4 1, 3) := getB' kX11_tellNeighbours_5 9 rfl
theorem dX11_tellNeighbours_151 : decode cX11_tellNeighbours 151 = .ok (.goto 47, 3) := getB' kX11_tellNeighbours_5 10 rfl
theorem dX11_tellNeighbours_154 : decode cX11_tellNeighbours 154 = .ok (.aload 7, 2) := getB' kX11_tellNeighbours_5 11 rfl
def LX11_tellNeighbours_6 : List (Nat × Instr × Nat) := [(156, .getfield 387, 3), (159, .iconst 1, 1), (160, .if_icmp .ne 38, 3), (163, .aload 7, 2), (165, .getfield 173, 3), (168, .aload_n 1, 1), (169, .getfield 353, 3), (172, .if_icmp .eq 26, 3), (175, .aload_n 0, 1), (176, .getfield 12, 3), (179, .aload_n 1, 1), (180, .getfield 378, 3)]
theorem kX11_tellNeighbours_6 : chkB cX11_tellNeighbours LX11_tellNeighbours_6 = true := by decide +kernel
theorem dX11_tellNeighbours_156 : decode cX11_tellNeighbours 156 = .ok (.getfield 387, 3) := getB' kX11_tellNeighbours_6 0 rfl
theorem dX11_tellNeighbours_159 : decode cX11_tellNeighbours 159 = .ok (.iconst 1, 1) := getB' kX11_tellNeighbours_6 1 rfl
theorem dX11_tellNeighbours_160 : decode cX11_tellNeighbours 160 = .ok (.if_icmp .ne 38, 3) := getB' kX11_tellNeighbours_6 2 rfl
theorem dX11_tellNeighbours_163 : decode cX11_tellNeighbours 163 = .ok (.aload 7, 2) := getB' kX11_tellNeighbours_6 3 rfl
theorem dX11_tellNeighbours_165 : decode cX11_tellNeighbours 165 = .ok (.getfield 173, 3) := getB' kX11_tellNeighbours_6 4 rfl
theorem dX11_tellNeighbours_168 : decode cX11_tellNeighbours 168 = .ok (.aload_n 1, 1) := getB' kX11_tellNeighbours_6 5 rfl
theorem dX11_tellNeighbours_169 : decode cX11_tellNeighbours 169 = .ok (.getfield 353, 3) := getB' kX11_tellNeighbours_6 6 rfl
theorem dX11_tellNeighbours_172 : decode cX11_tellNeighbours 172 = .ok (.if_icmp .eq 26, 3) := getB' kX11_tellNeighbours_6 7 rfl
theorem dX11_tellNeighbours_175 : decode cX11_tellNeighbours 175 = .ok (.aload_n 0, 1) := getB' kX11_tellNeighbours_6 8 rfl
theorem dX11_tellNeighbours_176 : decode cX11_tellNeighbours 176 = .ok (.getfield 12, 3) := getB' kX11_tellNeighbours_6 9 rfl
theorem dX11_tellNeighbours_179 : decode cX11_tellNeighbours 179 = .ok (.aload_n 1, 1) := getB' kX11_tellNeighbours_6 10 rfl
theorem dX11_tellNeighbours_180 : decode cX11_tellNeighbours 180 = .ok (.getfield 378, 3) := getB' kX11_tellNeighbours_6 11 rfl
def LX11_tellNeighbours_7 : List (Nat × Instr × Nat) := [(183, .aload 7, 2), (185, .getfield 344, 3), (188, .invokevirtual 388, 3), (191, .iconst 3, 1), (192, .if_icmp .gt 6, 3), (195, .iinc 5 1, 3), (198, .iinc 6 1, 3), (201, .goto (-188), 3), (204, .aload_n 0, 1), (205, .getfield 19, 3), (208, .getfield 372, 3), (211, .iconst 5, 1)]
theorem kX11_tellNeighbours_7 : chkB cX11_tellNeighbours LX11_tellNeighbours_7 = true := by decide +kernel
theorem dX11_tellNeighbours_183 : decode cX11_tellNeighbours 183 = .ok (.aload 7, 2) := getB' kX11_tellNeighbours_7 0 rfl
theorem dX11_tellNeighbours_185 : decode cX11_tellNeighbours 185 = .ok (.getfield 344, 3) := getB' kX11_tellNeighbours_7 1 rfl
theorem dX11_tellNeighbours_188 : decode cX11_tellNeighbours 188 = .ok (.invokevirtual 388, 3) := getB' kX11_tellNeighbours_7 2 rfl
theorem dX11_tellNeighbours_191 : decode cX11_tellNeighbours 191 = .ok (.iconst 3, 1) := getB' kX11_tellNeighbours_7 3 rfl
theorem dX11_tellNeighbours_192 : decode cX11_tellNeighbours 192 = .ok (.if_icmp .gt 6, 3) := getB' kX11_tellNeighbours_7 4 rfl
theorem dX11_tellNeighbours_195 : decode cX11_tellNeighbours 195 = .ok (.iinc 5 1, 3) := getB' kX11_tellNeighbours_7 5 rfl
theorem dX11_tellNeighbours_198 : decode cX11_tellNeighbours 198 = .ok (.iinc 6 1, 3) := getB' kX11_tellNeighbours_7 6 rfl
theorem dX11_tellNeighbours_201 : decode cX11_tellNeighbours 201 = .ok (.goto (-188), 3) := getB' kX11_tellNeighbours_7 7 rfl
theorem dX11_tellNeighbours_204 : decode cX11_tellNeighbours 204 = .ok (.aload_n 0, 1) := getB' kX11_tellNeighbours_7 8 rfl
theorem dX11_tellNeighbours_205 : decode cX11_tellNeighbours 205 = .ok (.getfield 19, 3) := getB' kX11_tellNeighbours_7 9 rfl
theorem dX11_tellNeighbours_208 : decode cX11_tellNeighbours 208 = .ok (.getfield 372, 3) := getB' kX11_tellNeighbours_7 10 rfl
theorem dX11_tellNeighbours_211 : decode cX11_tellNeighbours 211 = .ok (.iconst 5, 1) := getB' kX11_tellNeighbours_7 11 rfl
def LX11_tellNeighbours_8 : List (Nat × Instr × Nat) := [(212, .iload_n 2, 1), (213, .invokestatic 108, 3), (216, .aload_n 0, 1), (217, .getfield 19, 3), (220, .getfield 372, 3), (223, .bipush 6, 2), (225, .iload_n 3, 1), (226, .invokestatic 108, 3), (229, .aload_n 0, 1), (230, .getfield 19, 3), (233, .getfield 372, 3), (236, .bipush 7, 2)]
theorem kX11_tellNeighbours_8 : chkB cX11_tellNeighbours LX11_tellNeighbours_8 = true := by decide +kernel
theorem dX11_tellNeighbours_212 : decode cX11_tellNeighbours 212 = .ok (.iload_n 2, 1) := getB' kX11_tellNeighbours_8 0 rfl
theorem dX11_tellNeighbours_213 : decode cX11_tellNeighbours 213 = .ok (.invokestatic 108, 3) := getB' kX11_tellNeighbours_8 1 rfl
theorem dX11_tellNeighbours_216 : decode cX11_tellNeighbours 216 = .ok (.aload_n 0, 1) := getB' kX11_tellNeighbours_8 2 rfl
theorem dX11_tellNeighbours_217 : decode cX11_tellNeighbours 217 = .ok (.getfield 19, 3) := getB' kX11_tellNeighbours_8 3 rfl
theorem dX11_tellNeighbours_220 : decode cX11_tellNeighbours 220 = .ok (.getfield 372, 3) := getB' kX11_tellNeighbours_8 4 rfl
theorem dX11_tellNeighbours_223 : decode cX11_tellNeighbours 223 = .ok (.bipush 6, 2) := getB' kX11_tellNeighbours_8 5 rfl
theorem dX11_tellNeighbours_225 : decode cX11_tellNeighbours 225 = .ok (.iload_n 3, 1) := getB' kX11_tellNeighbours_8 6 rfl
theorem dX11_tellNeighbours_226 : decode cX11_tellNeighbours 226 = .ok (.invokestatic 108, 3) := getB' kX11_tellNeighbours_8 7 rfl
theorem dX11_tellNeighbours_229 : decode cX11_tellNeighbours 229 = .ok (.aload_n 0, 1) := getB' kX11_tellNeighbours_8 8 rfl
theorem dX11_tellNeighbours_230 : decode cX11_tellNeighbours 230 = .ok (.getfield 19, 3) := getB' kX11_tellNeighbours_8 9 rfl
theorem dX11_tellNeighbours_233 : decode cX11_tellNeighbours 233 = .ok (.getfield 372, 3) := getB' kX11_tellNeighbours_8 10 rfl
theorem dX11_tellNeighbours_236 : decode cX11_tellNeighbours 236 = .ok (.bipush 7, 2) := getB' kX11_tellNeighbours_8 11 rfl
def LX11_tellNeighbours_9 : List (Nat × Instr × Nat) := [(238, .iload 4, 2), (240, .invokestatic 108, 3), (243, .aload_n 0, 1), (244, .getfield 19, 3), (247, .getfield 372, 3), (250, .bipush 8, 2), (252, .iload 5, 2), (254, .invokestatic 108, 3), (257, .return_, 1)]
theorem kX11_tellNeighbours_9 : chkB cX11_tellNeighbours LX11_tellNeighbours_9 = true := by decide +kernel
theorem dX11_tellNeighbours_238 : decode cX11_tellNeighbours 238 = .ok (.iload 4, 2) := getB' kX11_tellNeighbours_9 0 rfl
theorem dX11_tellNeighbours_240 : decode cX11_tellNeighbours 240 = .ok (.invokestatic 108, 3) := getB' kX11_tellNeighbours_9 1 rfl
theorem dX11_tellNeighbours_243 : decode cX11_tellNeighbours 243 = .ok (.aload_n 0, 1) := getB' kX11_tellNeighbours_9 2 rfl
theorem dX11_tellNeighbours_244 : decode cX11_tellNeighbours 244 = .ok (.getfield 19, 3) := getB' kX11_tellNeighbours_9 3 rfl
theorem dX11_tellNeighbours_247 : decode cX11_tellNeighbours 247 = .ok (.getfield 372, 3) := getB' kX11_tellNeighbours_9 4 rfl
theorem dX11_tellNeighbours_250 : decode cX11_tellNeighbours 250 = .ok (.bipush 8, 2) := getB' kX11_tellNeighbours_9 5 rfl
theorem dX11_tellNeighbours_252 : decode cX11_tellNeighbours 252 = .ok (.iload 5, 2) := getB' kX11_tellNeighbours_9 6 rfl
theorem dX11_tellNeighbours_254 : decode cX11_tellNeighbours 254 = .ok (.invokestatic 108, 3) := getB' kX11_tellNeighbours_9 7 rfl
theorem dX11_tellNeighbours_257 : decode cX11_tellNeighbours 257 = .ok (.return_, 1) := getB' kX11_tellNeighbours_9 8 rfl
def LX11_ship_0 : List (Nat × Instr × Nat) := [(0, .aload_n 0, 1), (1, .iload_n 1, 1), (2, .invokevirtual 151, 3), (5, .ifnull 24, 3), (8, .iload_n 2, 1), (9, .iconst 1, 1), (10, .sipush 10000, 3), (13, .invokestatic 112, 3), (16, .ifCond .eq 13, 3), (19, .iload_n 3, 1), (20, .iconst 0, 1), (21, .bipush 100, 2)]
theorem kX11_ship_0 : chkB cX11_ship LX11_ship_0 = true := by decide +kernel
theorem dX11_ship_0 : decode cX11_ship 0 = .ok (.aload_n 0, 1) := getB' kX11_ship_0 0 rfl
theorem dX11_ship_1 : decode cX11_ship 1 = .ok (.iload_n 1, 1) := getB' kX11_ship_0 1 rfl
theorem dX11_ship_2 : decode cX11_ship 2 = .ok (.invokevirtual 151, 3) := getB' kX11_ship_0 2 rfl
theorem dX11_ship_5 : decode cX11_ship 5 = .ok (.ifnull 24, 3) := getB' kX11_ship_0 3 rfl
theorem dX11_ship_8 : decode cX11_ship 8 = .ok (.iload_n 2, 1) := getB' kX11_ship_0 4 rfl
theorem dX11_ship_9 : decode cX11_ship 9 = .ok (.iconst 1, 1) := getB' kX11_ship_0 5 rfl
theorem dX11_ship_10 : decode cX11_ship 10 = .ok (.sipush 10000, 3) := getB' kX11_ship_0 6 rfl
theorem dX11_ship_13 : decode cX11_ship 13 = .ok (.invokestatic 112, 3) := getB' kX11_ship_0 7 rfl
theorem dX11_ship_16 : decode cX11_ship 16 = .ok (.ifCond .eq 13, 3) := getB' kX11_ship_0 8 rfl
theorem dX11_ship_19 : decode cX11_ship 19 = .ok (.iload_n 3, 1) := getB' kX11_ship_0 9 rfl
theorem dX11_ship_20 : decode cX11_ship 20 = .ok (.iconst 0, 1) := getB' kX11_ship_0 10 rfl
theorem dX11_ship_21 : decode cX11_ship 21 = .ok (.bipush 100, 2) := getB' kX11_ship_0 11 rfl
def LX11_ship_1 : List (Nat × Instr × Nat) := [(23, .invokestatic 112, 3), (26, .ifCond .ne 5, 3), (29, .iconst (-1), 1), (30, .ireturn, 1), (31, .aload_n 0, 1), (32, .getfield 64, 3), (35, .aload_n 0, 1), (36, .getfield 60, 3), (39, .arraylength, 1), (40, .if_icmp .lt 5, 3), (43, .iconst (-1), 1), (44, .ireturn, 1)]
theorem kX11_ship_1 : chkB cX11_ship LX11_ship_1 = true := by decide +kernel
theorem dX11_ship_23 : decode cX11_ship 23 = .ok (.invokestatic 112, 3) := getB' kX11_ship_1 0 rfl
theorem dX11_ship_26 : decode cX11_ship 26 = .ok (.ifCond .ne 5, 3) := getB' kX11_ship_1 1 rfl
theorem dX11_ship_29 : decode cX11_ship 29 = .ok (.iconst (-1), 1) := getB' kX11_ship_1 2 rfl
theorem dX11_ship_30 : decode cX11_ship 30 = .ok (.ireturn, 1) := getB' kX11_ship_1 3 rfl
theorem dX11_ship_31 : decode cX11_ship 31 = .ok (.aload_n 0, 1) := getB' kX11_ship_1 4 rfl
theorem dX11_ship_32 : decode cX11_ship 32 = .ok (.getfield 64, 3) := getB' kX11_ship_1 5 rfl
theorem dX11_ship_35 : decode cX11_ship 35 = .ok (.aload_n 0, 1) := getB' kX11_ship_1 6 rfl
theorem dX11_ship_36 : decode cX11_ship 36 = .ok (.getfield 60, 3) := getB' kX11_ship_1 7 rfl
theorem dX11_ship_39 : decode cX11_ship 39 = .ok (.arraylength, 1) := getB' kX11_ship_1 8 rfl
theorem dX11_ship_40 : decode cX11_ship 40 = .ok (.if_icmp .lt 5, 3) := getB' kX11_ship_1 9 rfl
theorem dX11_ship_43 : decode cX11_ship 43 = .ok (.iconst (-1), 1) := getB' kX11_ship_1 10 rfl
theorem dX11_ship_44 : decode cX11_ship 44 = .ok (.ireturn, 1) := getB' kX11_ship_1 11 rfl
def LX11_ship_2 : List (Nat × Instr × Nat) := [(45, .aload_n 0, 1), (46, .getfield 60, 3), (49, .aload_n 0, 1), (50, .getfield 64, 3), (53, .new 58, 3), (56, .dup, 1), (57, .iload_n 1, 1), (58, .iload_n 2, 1), (59, .iload_n 3, 1), (60, .invokespecial 391, 3), (63, .aastore, 1), (64, .aload_n 0, 1)]
theorem kX11_ship_2 : chkB cX11_ship LX11_ship_2 = true := by decide +kernel
theorem dX11_ship_45 : decode cX11_ship 45 = .ok (.aload_n 0, 1) := getB' kX11_ship_2 0 rfl
theorem dX11_ship_46 : decode cX11_ship 46 = .ok (.getfield 60, 3) := getB' kX11_ship_2 1 rfl
theorem dX11_ship_49 : decode cX11_ship 49 = .ok (.aload_n 0, 1) := getB' kX11_ship_2 2 rfl
theorem dX11_ship_50 : decode cX11_ship 50 = .ok (.getfield 64, 3) := getB' kX11_ship_2 3 rfl
theorem dX11_ship_53 : decode cX11_ship 53 = .ok (.new 58, 3) := getB' kX11_ship_2 4 rfl
theorem dX11_ship_56 : decode cX11_ship 56 = .ok (.dup, 1) := getB' kX11_ship_2 5 rfl
theorem dX11_ship_57 : decode cX11_ship 57 = .ok (.iload_n 1, 1) := getB' kX11_ship_2 6 rfl
theorem dX11_ship_58 : decode cX11_ship 58 = .ok (.iload_n 2, 1) := getB' kX11_ship_2 7 rfl
theorem dX11_ship_59 : decode cX11_ship 59 = .ok (.iload_n 3, 1) := getB' kX11_ship_2 8 rfl
theorem dX11_ship_60 : decode cX11_ship 60 = .ok (.invokespecial 391, 3) := getB' kX11_ship_2 9 rfl
theorem dX11_ship_63 : decode cX11_ship 63 = .ok (.aastore, 1) := getB' kX11_ship_2 10 rfl
theorem dX11_ship_64 : decode cX11_ship 64 = .ok (.aload_n 0, 1) := getB' kX11_ship_2 11 rfl
def LX11_ship_3 : List (Nat × Instr × Nat) := [(65, .dup, 1), (66, .getfield 64, 3), (69, .dup_x1, 1), (70, .iconst 1, 1), (71, .iadd, 1), (72, .putfield 64, 3), (75, .ireturn, 1)]
theorem kX11_ship_3 : chkB cX11_ship LX11_ship_3 = true := by decide +kernel
theorem dX11_ship_65 : decode cX11_ship 65 = .ok (.dup, 1) := getB' kX11_ship_3 0 rfl
theorem dX11_ship_66 : decode cX11_ship 66 = .ok (.getfield 64, 3) := getB' kX11_ship_3 1 rfl
theorem dX11_ship_69 : decode cX11_ship 69 = .ok (.dup_x1, 1) := getB' kX11_ship_3 2 rfl
theorem dX11_ship_70 : decode cX11_ship 70 = .ok (.iconst 1, 1) := getB' kX11_ship_3 3 rfl
theorem dX11_ship_71 : decode cX11_ship 71 = .ok (.iadd, 1) := getB' kX11_ship_3 4 rfl
theorem dX11_ship_72 : decode cX11_ship 72 = .ok (.putfield 64, 3) := getB' kX11_ship_3 5 rfl
theorem dX11_ship_75 : decode cX11_ship 75 = .ok (.ireturn, 1) := getB' kX11_ship_3 6 rfl
def LX11_cover_0 : List (Nat × Instr × Nat) := [(0, .iload_n 1, 1), (1, .invokestatic 394, 3), (4, .ifCond .eq 23, 3), (7, .iload_n 2, 1), (8, .iconst 0, 1), (9, .bipush 11, 2), (11, .invokestatic 112, 3), (14, .ifCond .eq 13, 3), (17, .iload_n 3, 1), (18, .iconst 0, 1), (19, .bipush 100, 2), (21, .invokestatic 112, 3)]
theorem kX11_cover_0 : chkB cX11_cover LX11_cover_0 = true := by decide +kernel
theorem dX11_cover_0 : decode cX11_cover 0 = .ok (.iload_n 1, 1) := getB' kX11_cover_0 0 rfl
theorem dX11_cover_1 : decode cX11_cover 1 = .ok (.invokestatic 394, 3) := getB' kX11_cover_0 1 rfl
theorem dX11_cover_4 : decode cX11_cover 4 = .ok (.ifCond .eq 23, 3) := getB' kX11_cover_0 2 rfl
theorem dX11_cover_7 : decode cX11_cover 7 = .ok (.iload_n 2, 1) := getB' kX11_cover_0 3 rfl
theorem dX11_cover_8 : decode cX11_cover 8 = .ok (.iconst 0, 1) := getB' kX11_cover_0 4 rfl
theorem dX11_cover_9 : decode cX11_cover 9 = .ok (.bipush 11, 2) := getB' kX11_cover_0 5 rfl
theorem dX11_cover_11 : decode cX11_cover 11 = .ok (.invokestatic 112, 3) := getB' kX11_cover_0 6 rfl
theorem dX11_cover_14 : decode cX11_cover 14 = .ok (.ifCond .eq 13, 3) := getB' kX11_cover_0 7 rfl
theorem dX11_cover_17 : decode cX11_cover 17 = .ok (.iload_n 3, 1) := getB' kX11_cover_0 8 rfl
theorem dX11_cover_18 : decode cX11_cover 18 = .ok (.iconst 0, 1) := getB' kX11_cover_0 9 rfl
theorem dX11_cover_19 : decode cX11_cover 19 = .ok (.bipush 100, 2) := getB' kX11_cover_0 10 rfl
theorem dX11_cover_21 : decode cX11_cover 21 = .ok (.invokestatic 112, 3) := getB' kX11_cover_0 11 rfl
def LX11_cover_1 : List (Nat × Instr × Nat) := [(24, .ifCond .ne 5, 3), (27, .iconst 0, 1), (28, .ireturn, 1), (29, .aload_n 0, 1), (30, .getfield 12, 3), (33, .getfield 397, 3), (36, .iload_n 1, 1), (37, .bipush 12, 2), (39, .imul, 1), (40, .iload_n 2, 1), (41, .iadd, 1), (42, .iload_n 3, 1)]
theorem kX11_cover_1 : chkB cX11_cover LX11_cover_1 = true := by decide +kernel
theorem dX11_cover_24 : decode cX11_cover 24 = .ok (.ifCond .ne 5, 3) := getB' kX11_cover_1 0 rfl
theorem dX11_cover_27 : decode cX11_cover 27 = .ok (.iconst 0, 1) := getB' kX11_cover_1 1 rfl
theorem dX11_cover_28 : decode cX11_cover 28 = .ok (.ireturn, 1) := getB' kX11_cover_1 2 rfl
theorem dX11_cover_29 : decode cX11_cover 29 = .ok (.aload_n 0, 1) := getB' kX11_cover_1 3 rfl
theorem dX11_cover_30 : decode cX11_cover 30 = .ok (.getfield 12, 3) := getB' kX11_cover_1 4 rfl
theorem dX11_cover_33 : decode cX11_cover 33 = .ok (.getfield 397, 3) := getB' kX11_cover_1 5 rfl
theorem dX11_cover_36 : decode cX11_cover 36 = .ok (.iload_n 1, 1) := getB' kX11_cover_1 6 rfl
theorem dX11_cover_37 : decode cX11_cover 37 = .ok (.bipush 12, 2) := getB' kX11_cover_1 7 rfl
theorem dX11_cover_39 : decode cX11_cover 39 = .ok (.imul, 1) := getB' kX11_cover_1 8 rfl
theorem dX11_cover_40 : decode cX11_cover 40 = .ok (.iload_n 2, 1) := getB' kX11_cover_1 9 rfl
theorem dX11_cover_41 : decode cX11_cover 41 = .ok (.iadd, 1) := getB' kX11_cover_1 10 rfl
theorem dX11_cover_42 : decode cX11_cover 42 = .ok (.iload_n 3, 1) := getB' kX11_cover_1 11 rfl
def LX11_cover_2 : List (Nat × Instr × Nat) := [(43, .invokestatic 108, 3), (46, .iconst 1, 1), (47, .ireturn, 1)]
theorem kX11_cover_2 : chkB cX11_cover LX11_cover_2 = true := by decide +kernel
theorem dX11_cover_43 : decode cX11_cover 43 = .ok (.invokestatic 108, 3) := getB' kX11_cover_2 0 rfl
theorem dX11_cover_46 : decode cX11_cover 46 = .ok (.iconst 1, 1) := getB' kX11_cover_2 1 rfl
theorem dX11_cover_47 : decode cX11_cover 47 = .ok (.ireturn, 1) := getB' kX11_cover_2 2 rfl
def LX11_sea_0 : List (Nat × Instr × Nat) := [(0, .iload_n 1, 1), (1, .invokestatic 394, 3), (4, .ifCond .eq 13, 3), (7, .iload_n 2, 1), (8, .iconst 1, 1), (9, .bipush 90, 2), (11, .invokestatic 112, 3), (14, .ifCond .ne 5, 3), (17, .iconst 0, 1), (18, .ireturn, 1), (19, .aload_n 0, 1), (20, .getfield 12, 3)]
theorem kX11_sea_0 : chkB cX11_sea LX11_sea_0 = true := by decide +kernel
theorem dX11_sea_0 : decode cX11_sea 0 = .ok (.iload_n 1, 1) := getB' kX11_sea_0 0 rfl
theorem dX11_sea_1 : decode cX11_sea 1 = .ok (.invokestatic 394, 3) := getB' kX11_sea_0 1 rfl
theorem dX11_sea_4 : decode cX11_sea 4 = .ok (.ifCond .eq 13, 3) := getB' kX11_sea_0 2 rfl
theorem dX11_sea_7 : decode cX11_sea 7 = .ok (.iload_n 2, 1) := getB' kX11_sea_0 3 rfl
theorem dX11_sea_8 : decode cX11_sea 8 = .ok (.iconst 1, 1) := getB' kX11_sea_0 4 rfl
theorem dX11_sea_9 : decode cX11_sea 9 = .ok (.bipush 90, 2) := getB' kX11_sea_0 5 rfl
theorem dX11_sea_11 : decode cX11_sea 11 = .ok (.invokestatic 112, 3) := getB' kX11_sea_0 6 rfl
theorem dX11_sea_14 : decode cX11_sea 14 = .ok (.ifCond .ne 5, 3) := getB' kX11_sea_0 7 rfl
theorem dX11_sea_17 : decode cX11_sea 17 = .ok (.iconst 0, 1) := getB' kX11_sea_0 8 rfl
theorem dX11_sea_18 : decode cX11_sea 18 = .ok (.ireturn, 1) := getB' kX11_sea_0 9 rfl
theorem dX11_sea_19 : decode cX11_sea 19 = .ok (.aload_n 0, 1) := getB' kX11_sea_0 10 rfl
theorem dX11_sea_20 : decode cX11_sea 20 = .ok (.getfield 12, 3) := getB' kX11_sea_0 11 rfl
def LX11_sea_1 : List (Nat × Instr × Nat) := [(23, .getfield 400, 3), (26, .iload_n 1, 1), (27, .iload_n 2, 1), (28, .invokestatic 108, 3), (31, .iconst 1, 1), (32, .ireturn, 1)]
theorem kX11_sea_1 : chkB cX11_sea LX11_sea_1 = true := by decide +kernel
theorem dX11_sea_23 : decode cX11_sea 23 = .ok (.getfield 400, 3) := getB' kX11_sea_1 0 rfl
theorem dX11_sea_26 : decode cX11_sea 26 = .ok (.iload_n 1, 1) := getB' kX11_sea_1 1 rfl
theorem dX11_sea_27 : decode cX11_sea 27 = .ok (.iload_n 2, 1) := getB' kX11_sea_1 2 rfl
theorem dX11_sea_28 : decode cX11_sea 28 = .ok (.invokestatic 108, 3) := getB' kX11_sea_1 3 rfl
theorem dX11_sea_31 : decode cX11_sea 31 = .ok (.iconst 1, 1) := getB' kX11_sea_1 4 rfl
theorem dX11_sea_32 : decode cX11_sea 32 = .ok (.ireturn, 1) := getB' kX11_sea_1 5 rfl
def LX11_voyage_0 : List (Nat × Instr × Nat) := [(0, .aload_n 0, 1), (1, .iload_n 1, 1), (2, .invokevirtual 403, 3), (5, .astore 5, 2), (7, .aload_n 0, 1), (8, .iload_n 3, 1), (9, .invokevirtual 195, 3), (12, .astore 6, 2), (14, .aload 5, 2), (16, .ifnull 29, 3), (19, .iload_n 2, 1), (20, .invokestatic 394, 3)]
theorem kX11_voyage_0 : chkB cX11_voyage LX11_voyage_0 = true := by decide +kernel
theorem dX11_voyage_0 : decode cX11_voyage 0 = .ok (.aload_n 0, 1) := getB' kX11_voyage_0 0 rfl
theorem dX11_voyage_1 : decode cX11_voyage 1 = .ok (.iload_n 1, 1) := getB' kX11_voyage_0 1 rfl
theorem dX11_voyage_2 : decode cX11_voyage 2 = .ok (.invokevirtual 403, 3) := getB' kX11_voyage_0 2 rfl
theorem dX11_voyage_5 : decode cX11_voyage 5 = .ok (.astore 5, 2) := getB' kX11_voyage_0 3 rfl
theorem dX11_voyage_7 : decode cX11_voyage 7 = .ok (.aload_n 0, 1) := getB' kX11_voyage_0 4 rfl
theorem dX11_voyage_8 : decode cX11_voyage 8 = .ok (.iload_n 3, 1) := getB' kX11_voyage_0 5 rfl
theorem dX11_voyage_9 : decode cX11_voyage 9 = .ok (.invokevirtual 195, 3) := getB' kX11_voyage_0 6 rfl
theorem dX11_voyage_12 : decode cX11_voyage 12 = .ok (.astore 6, 2) := getB' kX11_voyage_0 7 rfl
theorem dX11_voyage_14 : decode cX11_voyage 14 = .ok (.aload 5, 2) := getB' kX11_voyage_0 8 rfl
theorem dX11_voyage_16 : decode cX11_voyage 16 = .ok (.ifnull 29, 3) := getB' kX11_voyage_0 9 rfl
theorem dX11_voyage_19 : decode cX11_voyage 19 = .ok (.iload_n 2, 1) := getB' kX11_voyage_0 10 rfl
theorem dX11_voyage_20 : decode cX11_voyage 20 = .ok (.invokestatic 394, 3) := getB' kX11_voyage_0 11 rfl
def LX11_voyage_1 : List (Nat × Instr × Nat) := [(23, .ifCond .eq 22, 3), (26, .aload 6, 2), (28, .ifnull 17, 3), (31, .iload 4, 2), (33, .iconst 0, 1), (34, .aload 5, 2), (36, .getfield 407, 3), (39, .invokestatic 112, 3), (42, .ifCond .ne 5, 3), (45, .iconst 0, 1), (46, .ireturn, 1), (47, .aload 5, 2)]
theorem kX11_voyage_1 : chkB cX11_voyage LX11_voyage_1 = true := by decide +kernel
theorem dX11_voyage_23 : decode cX11_voyage 23 = .ok (.ifCond .eq 22, 3) := getB' kX11_voyage_1 0 rfl
theorem dX11_voyage_26 : decode cX11_voyage 26 = .ok (.aload 6, 2) := getB' kX11_voyage_1 1 rfl
theorem dX11_voyage_28 : decode cX11_voyage 28 = .ok (.ifnull 17, 3) := getB' kX11_voyage_1 2 rfl
theorem dX11_voyage_31 : decode cX11_voyage 31 = .ok (.iload 4, 2) := getB' kX11_voyage_1 3 rfl
theorem dX11_voyage_33 : decode cX11_voyage 33 = .ok (.iconst 0, 1) := getB' kX11_voyage_1 4 rfl
theorem dX11_voyage_34 : decode cX11_voyage 34 = .ok (.aload 5, 2) := getB' kX11_voyage_1 5 rfl
theorem dX11_voyage_36 : decode cX11_voyage 36 = .ok (.getfield 407, 3) := getB' kX11_voyage_1 6 rfl
theorem dX11_voyage_39 : decode cX11_voyage 39 = .ok (.invokestatic 112, 3) := getB' kX11_voyage_1 7 rfl
theorem dX11_voyage_42 : decode cX11_voyage 42 = .ok (.ifCond .ne 5, 3) := getB' kX11_voyage_1 8 rfl
theorem dX11_voyage_45 : decode cX11_voyage 45 = .ok (.iconst 0, 1) := getB' kX11_voyage_1 9 rfl
theorem dX11_voyage_46 : decode cX11_voyage 46 = .ok (.ireturn, 1) := getB' kX11_voyage_1 10 rfl
theorem dX11_voyage_47 : decode cX11_voyage 47 = .ok (.aload 5, 2) := getB' kX11_voyage_1 11 rfl
def LX11_voyage_2 : List (Nat × Instr × Nat) := [(49, .getfield 410, 3), (52, .ifCond .ne 18, 3), (55, .aload_n 0, 1), (56, .getfield 12, 3), (59, .aload 6, 2), (61, .getfield 344, 3), (64, .invokevirtual 413, 3), (67, .ifCond .ne 5, 3), (70, .iconst 0, 1), (71, .ireturn, 1), (72, .aload 5, 2), (74, .iload_n 2, 1)]
theorem kX11_voyage_2 : chkB cX11_voyage LX11_voyage_2 = true := by decide +kernel
theorem dX11_voyage_49 : decode cX11_voyage 49 = .ok (.getfield 410, 3) := getB' kX11_voyage_2 0 rfl
theorem dX11_voyage_52 : decode cX11_voyage 52 = .ok (.ifCond .ne 18, 3) := getB' kX11_voyage_2 1 rfl
theorem dX11_voyage_55 : decode cX11_voyage 55 = .ok (.aload_n 0, 1) := getB' kX11_voyage_2 2 rfl
theorem dX11_voyage_56 : decode cX11_voyage 56 = .ok (.getfield 12, 3) := getB' kX11_voyage_2 3 rfl
theorem dX11_voyage_59 : decode cX11_voyage 59 = .ok (.aload 6, 2) := getB' kX11_voyage_2 4 rfl
theorem dX11_voyage_61 : decode cX11_voyage 61 = .ok (.getfield 344, 3) := getB' kX11_voyage_2 5 rfl
theorem dX11_voyage_64 : decode cX11_voyage 64 = .ok (.invokevirtual 413, 3) := getB' kX11_voyage_2 6 rfl
theorem dX11_voyage_67 : decode cX11_voyage 67 = .ok (.ifCond .ne 5, 3) := getB' kX11_voyage_2 7 rfl
theorem dX11_voyage_70 : decode cX11_voyage 70 = .ok (.iconst 0, 1) := getB' kX11_voyage_2 8 rfl
theorem dX11_voyage_71 : decode cX11_voyage 71 = .ok (.ireturn, 1) := getB' kX11_voyage_2 9 rfl
theorem dX11_voyage_72 : decode cX11_voyage 72 = .ok (.aload 5, 2) := getB' kX11_voyage_2 10 rfl
theorem dX11_voyage_74 : decode cX11_voyage 74 = .ok (.iload_n 2, 1) := getB' kX11_voyage_2 11 rfl
def LX11_voyage_3 : List (Nat × Instr × Nat) := [(75, .iload_n 3, 1), (76, .iload 4, 2), (78, .aload_n 0, 1), (79, .getfield 12, 3), (82, .getfield 145, 3), (85, .aload_n 0, 1), (86, .getfield 12, 3), (89, .getfield 400, 3), (92, .iload_n 2, 1), (93, .invokestatic 253, 3), (96, .invokevirtual 416, 3), (99, .aload_n 0, 1)]
theorem kX11_voyage_3 : chkB cX11_voyage LX11_voyage_3 = true := by decide +kernel
theorem dX11_voyage_75 : decode cX11_voyage 75 = .ok (.iload_n 3, 1) := getB' kX11_voyage_3 0 rfl
theorem dX11_voyage_76 : decode cX11_voyage 76 = .ok (.iload 4, 2) := getB' kX11_voyage_3 1 rfl
theorem dX11_voyage_78 : decode cX11_voyage 78 = .ok (.aload_n 0, 1) := getB' kX11_voyage_3 2 rfl
theorem dX11_voyage_79 : decode cX11_voyage 79 = .ok (.getfield 12, 3) := getB' kX11_voyage_3 3 rfl
theorem dX11_voyage_82 : decode cX11_voyage 82 = .ok (.getfield 145, 3) := getB' kX11_voyage_3 4 rfl
theorem dX11_voyage_85 : decode cX11_voyage 85 = .ok (.aload_n 0, 1) := getB' kX11_voyage_3 5 rfl
theorem dX11_voyage_86 : decode cX11_voyage 86 = .ok (.getfield 12, 3) := getB' kX11_voyage_3 6 rfl
theorem dX11_voyage_89 : decode cX11_voyage 89 = .ok (.getfield 400, 3) := getB' kX11_voyage_3 7 rfl
theorem dX11_voyage_92 : decode cX11_voyage 92 = .ok (.iload_n 2, 1) := getB' kX11_voyage_3 8 rfl
theorem dX11_voyage_93 : decode cX11_voyage 93 = .ok (.invokestatic 253, 3) := getB' kX11_voyage_3 9 rfl
theorem dX11_voyage_96 : decode cX11_voyage 96 = .ok (.invokevirtual 416, 3) := getB' kX11_voyage_3 10 rfl
theorem dX11_voyage_99 : decode cX11_voyage 99 = .ok (.aload_n 0, 1) := getB' kX11_voyage_3 11 rfl
def LX11_voyage_4 : List (Nat × Instr × Nat) := [(100, .iconst 0, 1), (101, .iload 4, 2), (103, .invokevirtual 192, 3), (106, .iconst 1, 1), (107, .ireturn, 1)]
theorem kX11_voyage_4 : chkB cX11_voyage LX11_voyage_4 = true := by decide +kernel
theorem dX11_voyage_100 : decode cX11_voyage 100 = .ok (.iconst 0, 1) := getB' kX11_voyage_4 0 rfl
theorem dX11_voyage_101 : decode cX11_voyage 101 = .ok (.iload 4, 2) := getB' kX11_voyage_4 1 rfl
theorem dX11_voyage_103 : decode cX11_voyage 103 = .ok (.invokevirtual 192, 3) := getB' kX11_voyage_4 2 rfl
theorem dX11_voyage_106 : decode cX11_voyage 106 = .ok (.iconst 1, 1) := getB' kX11_voyage_4 3 rfl
theorem dX11_voyage_107 : decode cX11_voyage 107 = .ok (.ireturn, 1) := getB' kX11_voyage_4 4 rfl
def LX11_sledge_0 : List (Nat × Instr × Nat) := [(0, .aload_n 0, 1), (1, .iload_n 1, 1), (2, .invokevirtual 195, 3), (5, .astore 4, 2), (7, .aload_n 0, 1), (8, .iload_n 2, 1), (9, .invokevirtual 195, 3), (12, .astore 5, 2), (14, .aload 4, 2), (16, .ifnull 26, 3), (19, .aload 5, 2), (21, .ifnull 21, 3)]
theorem kX11_sledge_0 : chkB cX11_sledge LX11_sledge_0 = true := by decide +kernel
theorem dX11_sledge_0 : decode cX11_sledge 0 = .ok (.aload_n 0, 1) := getB' kX11_sledge_0 0 rfl
theorem dX11_sledge_1 : decode cX11_sledge 1 = .ok (.iload_n 1, 1) := getB' kX11_sledge_0 1 rfl
theorem dX11_sledge_2 : decode cX11_sledge 2 = .ok (.invokevirtual 195, 3) := getB' kX11_sledge_0 2 rfl
theorem dX11_sledge_5 : decode cX11_sledge 5 = .ok (.astore 4, 2) := getB' kX11_sledge_0 3 rfl
theorem dX11_sledge_7 : decode cX11_sledge 7 = .ok (.aload_n 0, 1) := getB' kX11_sledge_0 4 rfl
theorem dX11_sledge_8 : decode cX11_sledge 8 = .ok (.iload_n 2, 1) := getB' kX11_sledge_0 5 rfl
theorem dX11_sledge_9 : decode cX11_sledge 9 = .ok (.invokevirtual 195, 3) := getB' kX11_sledge_0 6 rfl
theorem dX11_sledge_12 : decode cX11_sledge 12 = .ok (.astore 5, 2) := getB' kX11_sledge_0 7 rfl
theorem dX11_sledge_14 : decode cX11_sledge 14 = .ok (.aload 4, 2) := getB' kX11_sledge_0 8 rfl
theorem dX11_sledge_16 : decode cX11_sledge 16 = .ok (.ifnull 26, 3) := getB' kX11_sledge_0 9 rfl
theorem dX11_sledge_19 : decode cX11_sledge 19 = .ok (.aload 5, 2) := getB' kX11_sledge_0 10 rfl
theorem dX11_sledge_21 : decode cX11_sledge 21 = .ok (.ifnull 21, 3) := getB' kX11_sledge_0 11 rfl
def LX11_sledge_1 : List (Nat × Instr × Nat) := [(24, .iload_n 1, 1), (25, .iload_n 2, 1), (26, .if_icmp .eq 16, 3), (29, .aload 4, 2), (31, .getfield 173, 3), (34, .aload 5, 2), (36, .getfield 173, 3), (39, .if_icmp .eq 5, 3), (42, .iconst (-1), 1), (43, .ireturn, 1), (44, .iload_n 3, 1), (45, .iconst 1, 1)]
theorem kX11_sledge_1 : chkB cX11_sledge LX11_sledge_1 = true := by decide +kernel
theorem dX11_sledge_24 : decode cX11_sledge 24 = .ok (.iload_n 1, 1) := getB' kX11_sledge_1 0 rfl
theorem dX11_sledge_25 : decode cX11_sledge 25 = .ok (.iload_n 2, 1) := getB' kX11_sledge_1 1 rfl
theorem dX11_sledge_26 : decode cX11_sledge 26 = .ok (.if_icmp .eq 16, 3) := getB' kX11_sledge_1 2 rfl
theorem dX11_sledge_29 : decode cX11_sledge 29 = .ok (.aload 4, 2) := getB' kX11_sledge_1 3 rfl
theorem dX11_sledge_31 : decode cX11_sledge 31 = .ok (.getfield 173, 3) := getB' kX11_sledge_1 4 rfl
theorem dX11_sledge_34 : decode cX11_sledge 34 = .ok (.aload 5, 2) := getB' kX11_sledge_1 5 rfl
theorem dX11_sledge_36 : decode cX11_sledge 36 = .ok (.getfield 173, 3) := getB' kX11_sledge_1 6 rfl
theorem dX11_sledge_39 : decode cX11_sledge 39 = .ok (.if_icmp .eq 5, 3) := getB' kX11_sledge_1 7 rfl
theorem dX11_sledge_42 : decode cX11_sledge 42 = .ok (.iconst (-1), 1) := getB' kX11_sledge_1 8 rfl
theorem dX11_sledge_43 : decode cX11_sledge 43 = .ok (.ireturn, 1) := getB' kX11_sledge_1 9 rfl
theorem dX11_sledge_44 : decode cX11_sledge 44 = .ok (.iload_n 3, 1) := getB' kX11_sledge_1 10 rfl
theorem dX11_sledge_45 : decode cX11_sledge 45 = .ok (.iconst 1, 1) := getB' kX11_sledge_1 11 rfl
def LX11_sledge_2 : List (Nat × Instr × Nat) := [(46, .sipush 500, 3), (49, .invokestatic 112, 3), (52, .ifCond .eq 22, 3), (55, .iload_n 3, 1), (56, .aload 4, 2), (58, .getfield 186, 3), (61, .if_icmp .gt 13, 3), (64, .aload_n 0, 1), (65, .getfield 72, 3), (68, .invokevirtual 265, 3), (71, .ifCond .eq 5, 3), (74, .iconst (-1), 1)]
theorem kX11_sledge_2 : chkB cX11_sledge LX11_sledge_2 = true := by decide +kernel
theorem dX11_sledge_46 : decode cX11_sledge 46 = .ok (.sipush 500, 3) := getB' kX11_sledge_2 0 rfl
theorem dX11_sledge_49 : decode cX11_sledge 49 = .ok (.invokestatic 112, 3) := getB' kX11_sledge_2 1 rfl
theorem dX11_sledge_52 : decode cX11_sledge 52 = .ok (.ifCond .eq 22, 3) := getB' kX11_sledge_2 2 rfl
theorem dX11_sledge_55 : decode cX11_sledge 55 = .ok (.iload_n 3, 1) := getB' kX11_sledge_2 3 rfl
theorem dX11_sledge_56 : decode cX11_sledge 56 = .ok (.aload 4, 2) := getB' kX11_sledge_2 4 rfl
theorem dX11_sledge_58 : decode cX11_sledge 58 = .ok (.getfield 186, 3) := getB' kX11_sledge_2 5 rfl
theorem dX11_sledge_61 : decode cX11_sledge 61 = .ok (.if_icmp .gt 13, 3) := getB' kX11_sledge_2 6 rfl
theorem dX11_sledge_64 : decode cX11_sledge 64 = .ok (.aload_n 0, 1) := getB' kX11_sledge_2 7 rfl
theorem dX11_sledge_65 : decode cX11_sledge 65 = .ok (.getfield 72, 3) := getB' kX11_sledge_2 8 rfl
theorem dX11_sledge_68 : decode cX11_sledge 68 = .ok (.invokevirtual 265, 3) := getB' kX11_sledge_2 9 rfl
theorem dX11_sledge_71 : decode cX11_sledge 71 = .ok (.ifCond .eq 5, 3) := getB' kX11_sledge_2 10 rfl
theorem dX11_sledge_74 : decode cX11_sledge 74 = .ok (.iconst (-1), 1) := getB' kX11_sledge_2 11 rfl
def LX11_sledge_3 : List (Nat × Instr × Nat) := [(75, .ireturn, 1), (76, .aload_n 0, 1), (77, .getfield 12, 3), (80, .aload 4, 2), (82, .getfield 344, 3), (85, .aload 5, 2), (87, .getfield 344, 3), (90, .invokevirtual 418, 3), (93, .istore 6, 2), (95, .iload 6, 2), (97, .iconst (-1), 1), (98, .if_icmp .eq 9, 3)]
theorem kX11_sledge_3 : chkB cX11_sledge LX11_sledge_3 = true := by decide +kernel
theorem dX11_sledge_75 : decode cX11_sledge 75 = .ok (.ireturn, 1) := getB' kX11_sledge_3 0 rfl
theorem dX11_sledge_76 : decode cX11_sledge 76 = .ok (.aload_n 0, 1) := getB' kX11_sledge_3 1 rfl
theorem dX11_sledge_77 : decode cX11_sledge 77 = .ok (.getfield 12, 3) := getB' kX11_sledge_3 2 rfl
theorem dX11_sledge_80 : decode cX11_sledge 80 = .ok (.aload 4, 2) := getB' kX11_sledge_3 3 rfl
theorem dX11_sledge_82 : decode cX11_sledge 82 = .ok (.getfield 344, 3) := getB' kX11_sledge_3 4 rfl
theorem dX11_sledge_85 : decode cX11_sledge 85 = .ok (.aload 5, 2) := getB' kX11_sledge_3 5 rfl
theorem dX11_sledge_87 : decode cX11_sledge 87 = .ok (.getfield 344, 3) := getB' kX11_sledge_3 6 rfl
theorem dX11_sledge_90 : decode cX11_sledge 90 = .ok (.invokevirtual 418, 3) := getB' kX11_sledge_3 7 rfl
theorem dX11_sledge_93 : decode cX11_sledge 93 = .ok (.istore 6, 2) := getB' kX11_sledge_3 8 rfl
theorem dX11_sledge_95 : decode cX11_sledge 95 = .ok (.iload 6, 2) := getB' kX11_sledge_3 9 rfl
theorem dX11_sledge_97 : decode cX11_sledge 97 = .ok (.iconst (-1), 1) := getB' kX11_sledge_3 10 rfl
theorem dX11_sledge_98 : decode cX11_sledge 98 = .ok (.if_icmp .eq 9, 3) := getB' kX11_sledge_3 11 rfl
def LX11_sledge_4 : List (Nat × Instr × Nat) := [(101, .iload 6, 2), (103, .iload_n 3, 1), (104, .if_icmp .lt 5, 3), (107, .iconst (-1), 1), (108, .ireturn, 1), (109, .aload 4, 2), (111, .dup, 1), (112, .getfield 186, 3), (115, .iload_n 3, 1), (116, .isub, 1), (117, .putfield 186, 3), (120, .aload_n 0, 1)]
theorem kX11_sledge_4 : chkB cX11_sledge LX11_sledge_4 = true := by decide +kernel
theorem dX11_sledge_101 : decode cX11_sledge 101 = .ok (.iload 6, 2) := getB' kX11_sledge_4 0 rfl
theorem dX11_sledge_103 : decode cX11_sledge 103 = .ok (.iload_n 3, 1) := getB' kX11_sledge_4 1 rfl
theorem dX11_sledge_104 : decode cX11_sledge 104 = .ok (.if_icmp .lt 5, 3) := getB' kX11_sledge_4 2 rfl
theorem dX11_sledge_107 : decode cX11_sledge 107 = .ok (.iconst (-1), 1) := getB' kX11_sledge_4 3 rfl
theorem dX11_sledge_108 : decode cX11_sledge 108 = .ok (.ireturn, 1) := getB' kX11_sledge_4 4 rfl
theorem dX11_sledge_109 : decode cX11_sledge 109 = .ok (.aload 4, 2) := getB' kX11_sledge_4 5 rfl
theorem dX11_sledge_111 : decode cX11_sledge 111 = .ok (.dup, 1) := getB' kX11_sledge_4 6 rfl
theorem dX11_sledge_112 : decode cX11_sledge 112 = .ok (.getfield 186, 3) := getB' kX11_sledge_4 7 rfl
theorem dX11_sledge_115 : decode cX11_sledge 115 = .ok (.iload_n 3, 1) := getB' kX11_sledge_4 8 rfl
theorem dX11_sledge_116 : decode cX11_sledge 116 = .ok (.isub, 1) := getB' kX11_sledge_4 9 rfl
theorem dX11_sledge_117 : decode cX11_sledge 117 = .ok (.putfield 186, 3) := getB' kX11_sledge_4 10 rfl
theorem dX11_sledge_120 : decode cX11_sledge 120 = .ok (.aload_n 0, 1) := getB' kX11_sledge_4 11 rfl
def LX11_sledge_5 : List (Nat × Instr × Nat) := [(121, .iconst 1, 1), (122, .iload 6, 2), (124, .invokevirtual 192, 3), (127, .aload_n 0, 1), (128, .getfield 12, 3), (131, .getfield 145, 3), (134, .iconst 1, 1), (135, .iload 6, 2), (137, .invokestatic 296, 3), (140, .iadd, 1), (141, .istore 7, 2), (143, .aload_n 0, 1)]
theorem kX11_sledge_5 : chkB cX11_sledge LX11_sledge_5 = true := by decide +kernel
theorem dX11_sledge_121 : decode cX11_sledge 121 = .ok (.iconst 1, 1) := getB' kX11_sledge_5 0 rfl
theorem dX11_sledge_122 : decode cX11_sledge 122 = .ok (.iload 6, 2) := getB' kX11_sledge_5 1 rfl
theorem dX11_sledge_124 : decode cX11_sledge 124 = .ok (.invokevirtual 192, 3) := getB' kX11_sledge_5 2 rfl
theorem dX11_sledge_127 : decode cX11_sledge 127 = .ok (.aload_n 0, 1) := getB' kX11_sledge_5 3 rfl
theorem dX11_sledge_128 : decode cX11_sledge 128 = .ok (.getfield 12, 3) := getB' kX11_sledge_5 4 rfl
theorem dX11_sledge_131 : decode cX11_sledge 131 = .ok (.getfield 145, 3) := getB' kX11_sledge_5 5 rfl
theorem dX11_sledge_134 : decode cX11_sledge 134 = .ok (.iconst 1, 1) := getB' kX11_sledge_5 6 rfl
theorem dX11_sledge_135 : decode cX11_sledge 135 = .ok (.iload 6, 2) := getB' kX11_sledge_5 7 rfl
theorem dX11_sledge_137 : decode cX11_sledge 137 = .ok (.invokestatic 296, 3) := getB' kX11_sledge_5 8 rfl
theorem dX11_sledge_140 : decode cX11_sledge 140 = .ok (.iadd, 1) := getB' kX11_sledge_5 9 rfl
theorem dX11_sledge_141 : decode cX11_sledge 141 = .ok (.istore 7, 2) := getB' kX11_sledge_5 10 rfl
theorem dX11_sledge_143 : decode cX11_sledge 143 = .ok (.aload_n 0, 1) := getB' kX11_sledge_5 11 rfl
def LX11_sledge_6 : List (Nat × Instr × Nat) := [(144, .getfield 72, 3), (147, .iload_n 2, 1), (148, .aload 5, 2), (150, .getfield 344, 3), (153, .iload 7, 2), (155, .iload_n 3, 1), (156, .iload 6, 2), (158, .isub, 1), (159, .iconst 1, 1), (160, .invokevirtual 205, 3), (163, .pop, 1), (164, .iload 7, 2)]
theorem kX11_sledge_6 : chkB cX11_sledge LX11_sledge_6 = true := by decide +kernel
theorem dX11_sledge_144 : decode cX11_sledge 144 = .ok (.getfield 72, 3) := getB' kX11_sledge_6 0 rfl
theorem dX11_sledge_147 : decode cX11_sledge 147 = .ok (.iload_n 2, 1) := getB' kX11_sledge_6 1 rfl
theorem dX11_sledge_148 : decode cX11_sledge 148 = .ok (.aload 5, 2) := getB' kX11_sledge_6 2 rfl
theorem dX11_sledge_150 : decode cX11_sledge 150 = .ok (.getfield 344, 3) := getB' kX11_sledge_6 3 rfl
theorem dX11_sledge_153 : decode cX11_sledge 153 = .ok (.iload 7, 2) := getB' kX11_sledge_6 4 rfl
theorem dX11_sledge_155 : decode cX11_sledge 155 = .ok (.iload_n 3, 1) := getB' kX11_sledge_6 5 rfl
theorem dX11_sledge_156 : decode cX11_sledge 156 = .ok (.iload 6, 2) := getB' kX11_sledge_6 6 rfl
theorem dX11_sledge_158 : decode cX11_sledge 158 = .ok (.isub, 1) := getB' kX11_sledge_6 7 rfl
theorem dX11_sledge_159 : decode cX11_sledge 159 = .ok (.iconst 1, 1) := getB' kX11_sledge_6 8 rfl
theorem dX11_sledge_160 : decode cX11_sledge 160 = .ok (.invokevirtual 205, 3) := getB' kX11_sledge_6 9 rfl
theorem dX11_sledge_163 : decode cX11_sledge 163 = .ok (.pop, 1) := getB' kX11_sledge_6 10 rfl
theorem dX11_sledge_164 : decode cX11_sledge 164 = .ok (.iload 7, 2) := getB' kX11_sledge_6 11 rfl
def LX11_sledge_7 : List (Nat × Instr × Nat) := [(166, .ireturn, 1)]
theorem kX11_sledge_7 : chkB cX11_sledge LX11_sledge_7 = true := by decide +kernel
theorem dX11_sledge_166 : decode cX11_sledge 166 = .ok (.ireturn, 1) := getB' kX11_sledge_7 0 rfl
def LX11_people_0 : List (Nat × Instr × Nat) := [(0, .aload_n 0, 1), (1, .iload_n 1, 1), (2, .invokevirtual 195, 3), (5, .astore_n 3, 1), (6, .aload_n 3, 1), (7, .ifnull 32, 3), (10, .iload_n 2, 1), (11, .sipush (-500), 3), (14, .sipush 500, 3), (17, .invokestatic 112, 3), (20, .ifCond .eq 19, 3), (23, .aload_n 3, 1)]
theorem kX11_people_0 : chkB cX11_people LX11_people_0 = true := by decide +kernel
theorem dX11_people_0 : decode cX11_people 0 = .ok (.aload_n 0, 1) := getB' kX11_people_0 0 rfl
theorem dX11_people_1 : decode cX11_people 1 = .ok (.iload_n 1, 1) := getB' kX11_people_0 1 rfl
theorem dX11_people_2 : decode cX11_people 2 = .ok (.invokevirtual 195, 3) := getB' kX11_people_0 2 rfl
theorem dX11_people_5 : decode cX11_people 5 = .ok (.astore_n 3, 1) := getB' kX11_people_0 3 rfl
theorem dX11_people_6 : decode cX11_people 6 = .ok (.aload_n 3, 1) := getB' kX11_people_0 4 rfl
theorem dX11_people_7 : decode cX11_people 7 = .ok (.ifnull 32, 3) := getB' kX11_people_0 5 rfl
theorem dX11_people_10 : decode cX11_people 10 = .ok (.iload_n 2, 1) := getB' kX11_people_0 6 rfl
theorem dX11_people_11 : decode cX11_people 11 = .ok (.sipush (-500), 3) := getB' kX11_people_0 7 rfl
theorem dX11_people_14 : decode cX11_people 14 = .ok (.sipush 500, 3) := getB' kX11_people_0 8 rfl
theorem dX11_people_17 : decode cX11_people 17 = .ok (.invokestatic 112, 3) := getB' kX11_people_0 9 rfl
theorem dX11_people_20 : decode cX11_people 20 = .ok (.ifCond .eq 19, 3) := getB' kX11_people_0 10 rfl
theorem dX11_people_23 : decode cX11_people 23 = .ok (.aload_n 3, 1) := getB' kX11_people_0 11 rfl
def LX11_people_1 : List (Nat × Instr × Nat) := [(24, .getfield 183, 3), (27, .iload_n 2, 1), (28, .iadd, 1), (29, .iconst 0, 1), (30, .sipush 500, 3), (33, .invokestatic 112, 3), (36, .ifCond .ne 5, 3), (39, .iconst 0, 1), (40, .ireturn, 1), (41, .aload_n 3, 1), (42, .dup, 1), (43, .getfield 183, 3)]
theorem kX11_people_1 : chkB cX11_people LX11_people_1 = true := by decide +kernel
theorem dX11_people_24 : decode cX11_people 24 = .ok (.getfield 183, 3) := getB' kX11_people_1 0 rfl
theorem dX11_people_27 : decode cX11_people 27 = .ok (.iload_n 2, 1) := getB' kX11_people_1 1 rfl
theorem dX11_people_28 : decode cX11_people 28 = .ok (.iadd, 1) := getB' kX11_people_1 2 rfl
theorem dX11_people_29 : decode cX11_people 29 = .ok (.iconst 0, 1) := getB' kX11_people_1 3 rfl
theorem dX11_people_30 : decode cX11_people 30 = .ok (.sipush 500, 3) := getB' kX11_people_1 4 rfl
theorem dX11_people_33 : decode cX11_people 33 = .ok (.invokestatic 112, 3) := getB' kX11_people_1 5 rfl
theorem dX11_people_36 : decode cX11_people 36 = .ok (.ifCond .ne 5, 3) := getB' kX11_people_1 6 rfl
theorem dX11_people_39 : decode cX11_people 39 = .ok (.iconst 0, 1) := getB' kX11_people_1 7 rfl
theorem dX11_people_40 : decode cX11_people 40 = .ok (.ireturn, 1) := getB' kX11_people_1 8 rfl
theorem dX11_people_41 : decode cX11_people 41 = .ok (.aload_n 3, 1) := getB' kX11_people_1 9 rfl
theorem dX11_people_42 : decode cX11_people 42 = .ok (.dup, 1) := getB' kX11_people_1 10 rfl
theorem dX11_people_43 : decode cX11_people 43 = .ok (.getfield 183, 3) := getB' kX11_people_1 11 rfl
def LX11_people_2 : List (Nat × Instr × Nat) := [(46, .iload_n 2, 1), (47, .iadd, 1), (48, .putfield 183, 3), (51, .iconst 1, 1), (52, .ireturn, 1)]
theorem kX11_people_2 : chkB cX11_people LX11_people_2 = true := by decide +kernel
theorem dX11_people_46 : decode cX11_people 46 = .ok (.iload_n 2, 1) := getB' kX11_people_2 0 rfl
theorem dX11_people_47 : decode cX11_people 47 = .ok (.iadd, 1) := getB' kX11_people_2 1 rfl
theorem dX11_people_48 : decode cX11_people 48 = .ok (.putfield 183, 3) := getB' kX11_people_2 2 rfl
theorem dX11_people_51 : decode cX11_people 51 = .ok (.iconst 1, 1) := getB' kX11_people_2 3 rfl
theorem dX11_people_52 : decode cX11_people 52 = .ok (.ireturn, 1) := getB' kX11_people_2 4 rfl
def LX11_hide_0 : List (Nat × Instr × Nat) := [(0, .aload_n 0, 1), (1, .iload_n 1, 1), (2, .invokevirtual 195, 3), (5, .astore_n 3, 1), (6, .aload_n 3, 1), (7, .ifnull 20, 3), (10, .iload_n 2, 1), (11, .aload_n 3, 1), (12, .getfield 186, 3), (15, .if_icmp .gt 12, 3), (18, .iload_n 2, 1), (19, .aload_n 3, 1)]
theorem kX11_hide_0 : chkB cX11_hide LX11_hide_0 = true := by decide +kernel
theorem dX11_hide_0 : decode cX11_hide 0 = .ok (.aload_n 0, 1) := getB' kX11_hide_0 0 rfl
theorem dX11_hide_1 : decode cX11_hide 1 = .ok (.iload_n 1, 1) := getB' kX11_hide_0 1 rfl
theorem dX11_hide_2 : decode cX11_hide 2 = .ok (.invokevirtual 195, 3) := getB' kX11_hide_0 2 rfl
theorem dX11_hide_5 : decode cX11_hide 5 = .ok (.astore_n 3, 1) := getB' kX11_hide_0 3 rfl
theorem dX11_hide_6 : decode cX11_hide 6 = .ok (.aload_n 3, 1) := getB' kX11_hide_0 4 rfl
theorem dX11_hide_7 : decode cX11_hide 7 = .ok (.ifnull 20, 3) := getB' kX11_hide_0 5 rfl
theorem dX11_hide_10 : decode cX11_hide 10 = .ok (.iload_n 2, 1) := getB' kX11_hide_0 6 rfl
theorem dX11_hide_11 : decode cX11_hide 11 = .ok (.aload_n 3, 1) := getB' kX11_hide_0 7 rfl
theorem dX11_hide_12 : decode cX11_hide 12 = .ok (.getfield 186, 3) := getB' kX11_hide_0 8 rfl
theorem dX11_hide_15 : decode cX11_hide 15 = .ok (.if_icmp .gt 12, 3) := getB' kX11_hide_0 9 rfl
theorem dX11_hide_18 : decode cX11_hide 18 = .ok (.iload_n 2, 1) := getB' kX11_hide_0 10 rfl
theorem dX11_hide_19 : decode cX11_hide 19 = .ok (.aload_n 3, 1) := getB' kX11_hide_0 11 rfl
def LX11_hide_1 : List (Nat × Instr × Nat) := [(20, .getfield 421, 3), (23, .ineg, 1), (24, .if_icmp .ge 5, 3), (27, .iconst 0, 1), (28, .ireturn, 1), (29, .aload_n 3, 1), (30, .dup, 1), (31, .getfield 186, 3), (34, .iload_n 2, 1), (35, .isub, 1), (36, .putfield 186, 3), (39, .aload_n 3, 1)]
theorem kX11_hide_1 : chkB cX11_hide LX11_hide_1 = true := by decide +kernel
theorem dX11_hide_20 : decode cX11_hide 20 = .ok (.getfield 421, 3) := getB' kX11_hide_1 0 rfl
theorem dX11_hide_23 : decode cX11_hide 23 = .ok (.ineg, 1) := getB' kX11_hide_1 1 rfl
theorem dX11_hide_24 : decode cX11_hide 24 = .ok (.if_icmp .ge 5, 3) := getB' kX11_hide_1 2 rfl
theorem dX11_hide_27 : decode cX11_hide 27 = .ok (.iconst 0, 1) := getB' kX11_hide_1 3 rfl
theorem dX11_hide_28 : decode cX11_hide 28 = .ok (.ireturn, 1) := getB' kX11_hide_1 4 rfl
theorem dX11_hide_29 : decode cX11_hide 29 = .ok (.aload_n 3, 1) := getB' kX11_hide_1 5 rfl
theorem dX11_hide_30 : decode cX11_hide 30 = .ok (.dup, 1) := getB' kX11_hide_1 6 rfl
theorem dX11_hide_31 : decode cX11_hide 31 = .ok (.getfield 186, 3) := getB' kX11_hide_1 7 rfl
theorem dX11_hide_34 : decode cX11_hide 34 = .ok (.iload_n 2, 1) := getB' kX11_hide_1 8 rfl
theorem dX11_hide_35 : decode cX11_hide 35 = .ok (.isub, 1) := getB' kX11_hide_1 9 rfl
theorem dX11_hide_36 : decode cX11_hide 36 = .ok (.putfield 186, 3) := getB' kX11_hide_1 10 rfl
theorem dX11_hide_39 : decode cX11_hide 39 = .ok (.aload_n 3, 1) := getB' kX11_hide_1 11 rfl
def LX11_hide_2 : List (Nat × Instr × Nat) := [(40, .dup, 1), (41, .getfield 421, 3), (44, .iload_n 2, 1), (45, .iadd, 1), (46, .putfield 421, 3), (49, .iconst 1, 1), (50, .ireturn, 1)]
theorem kX11_hide_2 : chkB cX11_hide LX11_hide_2 = true := by decide +kernel
theorem dX11_hide_40 : decode cX11_hide 40 = .ok (.dup, 1) := getB' kX11_hide_2 0 rfl
theorem dX11_hide_41 : decode cX11_hide 41 = .ok (.getfield 421, 3) := getB' kX11_hide_2 1 rfl
theorem dX11_hide_44 : decode cX11_hide 44 = .ok (.iload_n 2, 1) := getB' kX11_hide_2 2 rfl
theorem dX11_hide_45 : decode cX11_hide 45 = .ok (.iadd, 1) := getB' kX11_hide_2 3 rfl
theorem dX11_hide_46 : decode cX11_hide 46 = .ok (.putfield 421, 3) := getB' kX11_hide_2 4 rfl
theorem dX11_hide_49 : decode cX11_hide 49 = .ok (.iconst 1, 1) := getB' kX11_hide_2 5 rfl
theorem dX11_hide_50 : decode cX11_hide 50 = .ok (.ireturn, 1) := getB' kX11_hide_2 6 rfl
def LX11_declare_0 : List (Nat × Instr × Nat) := [(0, .aload_n 0, 1), (1, .iload_n 1, 1), (2, .iconst 1, 1), (3, .invokevirtual 169, 3), (6, .astore 4, 2), (8, .aload 4, 2), (10, .ifnull 25, 3), (13, .iload_n 2, 1), (14, .iconst 0, 1), (15, .sipush 500, 3), (18, .invokestatic 112, 3), (21, .ifCond .eq 14, 3)]
theorem kX11_declare_0 : chkB cX11_declare LX11_declare_0 = true := by decide +kernel
theorem dX11_declare_0 : decode cX11_declare 0 = .ok (.aload_n 0, 1) := getB' kX11_declare_0 0 rfl
theorem dX11_declare_1 : decode cX11_declare 1 = .ok (.iload_n 1, 1) := getB' kX11_declare_0 1 rfl
theorem dX11_declare_2 : decode cX11_declare 2 = .ok (.iconst 1, 1) := getB' kX11_declare_0 2 rfl
theorem dX11_declare_3 : decode cX11_declare 3 = .ok (.invokevirtual 169, 3) := getB' kX11_declare_0 3 rfl
theorem dX11_declare_6 : decode cX11_declare 6 = .ok (.astore 4, 2) := getB' kX11_declare_0 4 rfl
theorem dX11_declare_8 : decode cX11_declare 8 = .ok (.aload 4, 2) := getB' kX11_declare_0 5 rfl
theorem dX11_declare_10 : decode cX11_declare 10 = .ok (.ifnull 25, 3) := getB' kX11_declare_0 6 rfl
theorem dX11_declare_13 : decode cX11_declare 13 = .ok (.iload_n 2, 1) := getB' kX11_declare_0 7 rfl
theorem dX11_declare_14 : decode cX11_declare 14 = .ok (.iconst 0, 1) := getB' kX11_declare_0 8 rfl
theorem dX11_declare_15 : decode cX11_declare 15 = .ok (.sipush 500, 3) := getB' kX11_declare_0 9 rfl
theorem dX11_declare_18 : decode cX11_declare 18 = .ok (.invokestatic 112, 3) := getB' kX11_declare_0 10 rfl
theorem dX11_declare_21 : decode cX11_declare 21 = .ok (.ifCond .eq 14, 3) := getB' kX11_declare_0 11 rfl
def LX11_declare_1 : List (Nat × Instr × Nat) := [(24, .iload_n 3, 1), (25, .iconst 0, 1), (26, .ldc_w 424, 3), (29, .invokestatic 112, 3), (32, .ifCond .ne 5, 3), (35, .iconst 0, 1), (36, .ireturn, 1), (37, .aload 4, 2), (39, .iload_n 2, 1), (40, .putfield 425, 3), (43, .aload 4, 2), (45, .iload_n 3, 1)]
theorem kX11_declare_1 : chkB cX11_declare LX11_declare_1 = true := by decide +kernel
theorem dX11_declare_24 : decode cX11_declare 24 = .ok (.iload_n 3, 1) := getB' kX11_declare_1 0 rfl
theorem dX11_declare_25 : decode cX11_declare 25 = .ok (.iconst 0, 1) := getB' kX11_declare_1 1 rfl
theorem dX11_declare_26 : decode cX11_declare 26 = .ok (.ldc_w 424, 3) := getB' kX11_declare_1 2 rfl
theorem dX11_declare_29 : decode cX11_declare 29 = .ok (.invokestatic 112, 3) := getB' kX11_declare_1 3 rfl
theorem dX11_declare_32 : decode cX11_declare 32 = .ok (.ifCond .ne 5, 3) := getB' kX11_declare_1 4 rfl
theorem dX11_declare_35 : decode cX11_declare 35 = .ok (.iconst 0, 1) := getB' kX11_declare_1 5 rfl
theorem dX11_declare_36 : decode cX11_declare 36 = .ok (.ireturn, 1) := getB' kX11_declare_1 6 rfl
theorem dX11_declare_37 : decode cX11_declare 37 = .ok (.aload 4, 2) := getB' kX11_declare_1 7 rfl
theorem dX11_declare_39 : decode cX11_declare 39 = .ok (.iload_n 2, 1) := getB' kX11_declare_1 8 rfl
theorem dX11_declare_40 : decode cX11_declare 40 = .ok (.putfield 425, 3) := getB' kX11_declare_1 9 rfl
theorem dX11_declare_43 : decode cX11_declare 43 = .ok (.aload 4, 2) := getB' kX11_declare_1 10 rfl
theorem dX11_declare_45 : decode cX11_declare 45 = .ok (.iload_n 3, 1) := getB' kX11_declare_1 11 rfl
def LX11_declare_2 : List (Nat × Instr × Nat) := [(46, .putfield 428, 3), (49, .iconst 1, 1), (50, .ireturn, 1)]
theorem kX11_declare_2 : chkB cX11_declare LX11_declare_2 = true := by decide +kernel
theorem dX11_declare_46 : decode cX11_declare 46 = .ok (.putfield 428, 3) := getB' kX11_declare_2 0 rfl
theorem dX11_declare_49 : decode cX11_declare 49 = .ok (.iconst 1, 1) := getB' kX11_declare_2 1 rfl
theorem dX11_declare_50 : decode cX11_declare 50 = .ok (.ireturn, 1) := getB' kX11_declare_2 2 rfl
def LX11_visit_0 : List (Nat × Instr × Nat) := [(0, .aload_n 0, 1), (1, .iload_n 1, 1), (2, .invokevirtual 151, 3), (5, .astore_n 3, 1), (6, .aload_n 0, 1), (7, .iload_n 2, 1), (8, .invokevirtual 195, 3), (11, .astore 4, 2), (13, .aload_n 3, 1), (14, .ifnull 31, 3), (17, .aload 4, 2), (19, .ifnull 26, 3)]
theorem kX11_visit_0 : chkB cX11_visit LX11_visit_0 = true := by decide +kernel
theorem dX11_visit_0 : decode cX11_visit 0 = .ok (.aload_n 0, 1) := getB' kX11_visit_0 0 rfl
theorem dX11_visit_1 : decode cX11_visit 1 = .ok (.iload_n 1, 1) := getB' kX11_visit_0 1 rfl
theorem dX11_visit_2 : decode cX11_visit 2 = .ok (.invokevirtual 151, 3) := getB' kX11_visit_0 2 rfl
theorem dX11_visit_5 : decode cX11_visit 5 = .ok (.astore_n 3, 1) := getB' kX11_visit_0 3 rfl
theorem dX11_visit_6 : decode cX11_visit 6 = .ok (.aload_n 0, 1) := getB' kX11_visit_0 4 rfl
theorem dX11_visit_7 : decode cX11_visit 7 = .ok (.iload_n 2, 1) := getB' kX11_visit_0 5 rfl
theorem dX11_visit_8 : decode cX11_visit 8 = .ok (.invokevirtual 195, 3) := getB' kX11_visit_0 6 rfl
theorem dX11_visit_11 : decode cX11_visit 11 = .ok (.astore 4, 2) := getB' kX11_visit_0 7 rfl
theorem dX11_visit_13 : decode cX11_visit 13 = .ok (.aload_n 3, 1) := getB' kX11_visit_0 8 rfl
theorem dX11_visit_14 : decode cX11_visit 14 = .ok (.ifnull 31, 3) := getB' kX11_visit_0 9 rfl
theorem dX11_visit_17 : decode cX11_visit 17 = .ok (.aload 4, 2) := getB' kX11_visit_0 10 rfl
theorem dX11_visit_19 : decode cX11_visit 19 = .ok (.ifnull 26, 3) := getB' kX11_visit_0 11 rfl
def LX11_visit_1 : List (Nat × Instr × Nat) := [(22, .aload 4, 2), (24, .getfield 173, 3), (27, .iload_n 1, 1), (28, .if_icmp .eq 17, 3), (31, .aload_n 3, 1), (32, .aload_n 0, 1), (33, .getfield 12, 3), (36, .getfield 145, 3), (39, .invokevirtual 301, 3), (42, .ifCond .ne 5, 3), (45, .iconst (-1), 1), (46, .ireturn, 1)]
theorem kX11_visit_1 : chkB cX11_visit LX11_visit_1 = true := by decide +kernel
theorem dX11_visit_22 : decode cX11_visit 22 = .ok (.aload 4, 2) := getB' kX11_visit_1 0 rfl
theorem dX11_visit_24 : decode cX11_visit 24 = .ok (.getfield 173, 3) := getB' kX11_visit_1 1 rfl
theorem dX11_visit_27 : decode cX11_visit 27 = .ok (.iload_n 1, 1) := getB' kX11_visit_1 2 rfl
theorem dX11_visit_28 : decode cX11_visit 28 = .ok (.if_icmp .eq 17, 3) := getB' kX11_visit_1 3 rfl
theorem dX11_visit_31 : decode cX11_visit 31 = .ok (.aload_n 3, 1) := getB' kX11_visit_1 4 rfl
theorem dX11_visit_32 : decode cX11_visit 32 = .ok (.aload_n 0, 1) := getB' kX11_visit_1 5 rfl
theorem dX11_visit_33 : decode cX11_visit 33 = .ok (.getfield 12, 3) := getB' kX11_visit_1 6 rfl
theorem dX11_visit_36 : decode cX11_visit 36 = .ok (.getfield 145, 3) := getB' kX11_visit_1 7 rfl
theorem dX11_visit_39 : decode cX11_visit 39 = .ok (.invokevirtual 301, 3) := getB' kX11_visit_1 8 rfl
theorem dX11_visit_42 : decode cX11_visit 42 = .ok (.ifCond .ne 5, 3) := getB' kX11_visit_1 9 rfl
theorem dX11_visit_45 : decode cX11_visit 45 = .ok (.iconst (-1), 1) := getB' kX11_visit_1 10 rfl
theorem dX11_visit_46 : decode cX11_visit 46 = .ok (.ireturn, 1) := getB' kX11_visit_1 11 rfl
def LX11_visit_2 : List (Nat × Instr × Nat) := [(47, .aload 4, 2), (49, .getfield 183, 3), (52, .aload 4, 2), (54, .getfield 425, 3), (57, .isub, 1), (58, .istore 5, 2), (60, .aload_n 0, 1), (61, .getfield 76, 3), (64, .iload_n 1, 1), (65, .iload_n 2, 1), (66, .aload_n 0, 1), (67, .getfield 12, 3)]
theorem kX11_visit_2 : chkB cX11_visit LX11_visit_2 = true := by decide +kernel
theorem dX11_visit_47 : decode cX11_visit 47 = .ok (.aload 4, 2) := getB' kX11_visit_2 0 rfl
theorem dX11_visit_49 : decode cX11_visit 49 = .ok (.getfield 183, 3) := getB' kX11_visit_2 1 rfl
theorem dX11_visit_52 : decode cX11_visit 52 = .ok (.aload 4, 2) := getB' kX11_visit_2 2 rfl
theorem dX11_visit_54 : decode cX11_visit 54 = .ok (.getfield 425, 3) := getB' kX11_visit_2 3 rfl
theorem dX11_visit_57 : decode cX11_visit 57 = .ok (.isub, 1) := getB' kX11_visit_2 4 rfl
theorem dX11_visit_58 : decode cX11_visit 58 = .ok (.istore 5, 2) := getB' kX11_visit_2 5 rfl
theorem dX11_visit_60 : decode cX11_visit 60 = .ok (.aload_n 0, 1) := getB' kX11_visit_2 6 rfl
theorem dX11_visit_61 : decode cX11_visit 61 = .ok (.getfield 76, 3) := getB' kX11_visit_2 7 rfl
theorem dX11_visit_64 : decode cX11_visit 64 = .ok (.iload_n 1, 1) := getB' kX11_visit_2 8 rfl
theorem dX11_visit_65 : decode cX11_visit 65 = .ok (.iload_n 2, 1) := getB' kX11_visit_2 9 rfl
theorem dX11_visit_66 : decode cX11_visit 66 = .ok (.aload_n 0, 1) := getB' kX11_visit_2 10 rfl
theorem dX11_visit_67 : decode cX11_visit 67 = .ok (.getfield 12, 3) := getB' kX11_visit_2 11 rfl
def LX11_visit_3 : List (Nat × Instr × Nat) := [(70, .getfield 145, 3), (73, .iload 5, 2), (75, .aload 4, 2), (77, .getfield 186, 3), (80, .aload 4, 2), (82, .getfield 428, 3), (85, .isub, 1), (86, .invokevirtual 205, 3), (89, .ireturn, 1)]
theorem kX11_visit_3 : chkB cX11_visit LX11_visit_3 = true := by decide +kernel
theorem dX11_visit_70 : decode cX11_visit 70 = .ok (.getfield 145, 3) := getB' kX11_visit_3 0 rfl
theorem dX11_visit_73 : decode cX11_visit 73 = .ok (.iload 5, 2) := getB' kX11_visit_3 1 rfl
theorem dX11_visit_75 : decode cX11_visit 75 = .ok (.aload 4, 2) := getB' kX11_visit_3 2 rfl
theorem dX11_visit_77 : decode cX11_visit 77 = .ok (.getfield 186, 3) := getB' kX11_visit_3 3 rfl
theorem dX11_visit_80 : decode cX11_visit 80 = .ok (.aload 4, 2) := getB' kX11_visit_3 4 rfl
theorem dX11_visit_82 : decode cX11_visit 82 = .ok (.getfield 428, 3) := getB' kX11_visit_3 5 rfl
theorem dX11_visit_85 : decode cX11_visit 85 = .ok (.isub, 1) := getB' kX11_visit_3 6 rfl
theorem dX11_visit_86 : decode cX11_visit 86 = .ok (.invokevirtual 205, 3) := getB' kX11_visit_3 7 rfl
theorem dX11_visit_89 : decode cX11_visit 89 = .ok (.ireturn, 1) := getB' kX11_visit_3 8 rfl
def LX11_seen_0 : List (Nat × Instr × Nat) := [(0, .aload_n 0, 1), (1, .getfield 76, 3), (4, .iload_n 1, 1), (5, .invokevirtual 431, 3), (8, .ifCond .eq 12, 3), (11, .iload_n 2, 1), (12, .iconst 0, 1), (13, .iconst 4, 1), (14, .invokestatic 112, 3), (17, .ifCond .ne 7, 3), (20, .ldc_w 434, 3), (23, .ireturn, 1)]
theorem kX11_seen_0 : chkB cX11_seen LX11_seen_0 = true := by decide +kernel
theorem dX11_seen_0 : decode cX11_seen 0 = .ok (.aload_n 0, 1) := getB' kX11_seen_0 0 rfl
theorem dX11_seen_1 : decode cX11_seen 1 = .ok (.getfield 76, 3) := getB' kX11_seen_0 1 rfl
theorem dX11_seen_4 : decode cX11_seen 4 = .ok (.iload_n 1, 1) := getB' kX11_seen_0 2 rfl
theorem dX11_seen_5 : decode cX11_seen 5 = .ok (.invokevirtual 431, 3) := getB' kX11_seen_0 3 rfl
theorem dX11_seen_8 : decode cX11_seen 8 = .ok (.ifCond .eq 12, 3) := getB' kX11_seen_0 4 rfl
theorem dX11_seen_11 : decode cX11_seen 11 = .ok (.iload_n 2, 1) := getB' kX11_seen_0 5 rfl
theorem dX11_seen_12 : decode cX11_seen 12 = .ok (.iconst 0, 1) := getB' kX11_seen_0 6 rfl
theorem dX11_seen_13 : decode cX11_seen 13 = .ok (.iconst 4, 1) := getB' kX11_seen_0 7 rfl
theorem dX11_seen_14 : decode cX11_seen 14 = .ok (.invokestatic 112, 3) := getB' kX11_seen_0 8 rfl
theorem dX11_seen_17 : decode cX11_seen 17 = .ok (.ifCond .ne 7, 3) := getB' kX11_seen_0 9 rfl
theorem dX11_seen_20 : decode cX11_seen 20 = .ok (.ldc_w 434, 3) := getB' kX11_seen_0 10 rfl
theorem dX11_seen_23 : decode cX11_seen 23 = .ok (.ireturn, 1) := getB' kX11_seen_0 11 rfl
def LX11_seen_1 : List (Nat × Instr × Nat) := [(24, .aload_n 0, 1), (25, .getfield 76, 3), (28, .iload_n 1, 1), (29, .iload_n 2, 1), (30, .invokevirtual 209, 3), (33, .ireturn, 1)]
theorem kX11_seen_1 : chkB cX11_seen LX11_seen_1 = true := by decide +kernel
theorem dX11_seen_24 : decode cX11_seen 24 = .ok (.aload_n 0, 1) := getB' kX11_seen_1 0 rfl
theorem dX11_seen_25 : decode cX11_seen 25 = .ok (.getfield 76, 3) := getB' kX11_seen_1 1 rfl
theorem dX11_seen_28 : decode cX11_seen 28 = .ok (.iload_n 1, 1) := getB' kX11_seen_1 2 rfl
theorem dX11_seen_29 : decode cX11_seen 29 = .ok (.iload_n 2, 1) := getB' kX11_seen_1 3 rfl
theorem dX11_seen_30 : decode cX11_seen 30 = .ok (.invokevirtual 209, 3) := getB' kX11_seen_1 4 rfl
theorem dX11_seen_33 : decode cX11_seen 33 = .ok (.ireturn, 1) := getB' kX11_seen_1 5 rfl
def LX11_day_0 : List (Nat × Instr × Nat) := [(0, .aload_n 0, 1), (1, .getfield 12, 3), (4, .getfield 145, 3), (7, .sipush 3599, 3), (10, .if_icmp .lt 5, 3), (13, .iconst (-1), 1), (14, .ireturn, 1), (15, .aload_n 0, 1), (16, .getfield 12, 3), (19, .dup, 1), (20, .getfield 145, 3), (23, .iconst 1, 1)]
theorem kX11_day_0 : chkB cX11_day LX11_day_0 = true := by decide +kernel
theorem dX11_day_0 : decode cX11_day 0 = .ok (.aload_n 0, 1) := getB' kX11_day_0 0 rfl
theorem dX11_day_1 : decode cX11_day 1 = .ok (.getfield 12, 3) := getB' kX11_day_0 1 rfl
theorem dX11_day_4 : decode cX11_day 4 = .ok (.getfield 145, 3) := getB' kX11_day_0 2 rfl
theorem dX11_day_7 : decode cX11_day 7 = .ok (.sipush 3599, 3) := getB' kX11_day_0 3 rfl
theorem dX11_day_10 : decode cX11_day 10 = .ok (.if_icmp .lt 5, 3) := getB' kX11_day_0 4 rfl
theorem dX11_day_13 : decode cX11_day 13 = .ok (.iconst (-1), 1) := getB' kX11_day_0 5 rfl
theorem dX11_day_14 : decode cX11_day 14 = .ok (.ireturn, 1) := getB' kX11_day_0 6 rfl
theorem dX11_day_15 : decode cX11_day 15 = .ok (.aload_n 0, 1) := getB' kX11_day_0 7 rfl
theorem dX11_day_16 : decode cX11_day 16 = .ok (.getfield 12, 3) := getB' kX11_day_0 8 rfl
theorem dX11_day_19 : decode cX11_day 19 = .ok (.dup, 1) := getB' kX11_day_0 9 rfl
theorem dX11_day_20 : decode cX11_day 20 = .ok (.getfield 145, 3) := getB' kX11_day_0 10 rfl
theorem dX11_day_23 : decode cX11_day 23 = .ok (.iconst 1, 1) := getB' kX11_day_0 11 rfl
def LX11_day_1 : List (Nat × Instr × Nat) := [(24, .iadd, 1), (25, .putfield 145, 3), (28, .aload_n 0, 1), (29, .getfield 26, 3), (32, .invokevirtual 435, 3), (35, .iconst 0, 1), (36, .istore_n 1, 1), (37, .iload_n 1, 1), (38, .aload_n 0, 1), (39, .getfield 55, 3), (42, .if_icmp .ge 14, 3), (45, .aload_n 0, 1)]
theorem kX11_day_1 : chkB cX11_day LX11_day_1 = true := by decide +kernel
theorem dX11_day_24 : decode cX11_day 24 = .ok (.iadd, 1) := getB' kX11_day_1 0 rfl
theorem dX11_day_25 : decode cX11_day 25 = .ok (.putfield 145, 3) := getB' kX11_day_1 1 rfl
theorem dX11_day_28 : decode cX11_day 28 = .ok (.aload_n 0, 1) := getB' kX11_day_1 2 rfl
theorem dX11_day_29 : decode cX11_day 29 = .ok (.getfield 26, 3) := getB' kX11_day_1 3 rfl
theorem dX11_day_32 : decode cX11_day 32 = .ok (.invokevirtual 435, 3) := getB' kX11_day_1 4 rfl
theorem dX11_day_35 : decode cX11_day 35 = .ok (.iconst 0, 1) := getB' kX11_day_1 5 rfl
theorem dX11_day_36 : decode cX11_day 36 = .ok (.istore_n 1, 1) := getB' kX11_day_1 6 rfl
theorem dX11_day_37 : decode cX11_day 37 = .ok (.iload_n 1, 1) := getB' kX11_day_1 7 rfl
theorem dX11_day_38 : decode cX11_day 38 = .ok (.aload_n 0, 1) := getB' kX11_day_1 8 rfl
theorem dX11_day_39 : decode cX11_day 39 = .ok (.getfield 55, 3) := getB' kX11_day_1 9 rfl
theorem dX11_day_42 : decode cX11_day 42 = .ok (.if_icmp .ge 14, 3) := getB' kX11_day_1 10 rfl
theorem dX11_day_45 : decode cX11_day 45 = .ok (.aload_n 0, 1) := getB' kX11_day_1 11 rfl
def LX11_day_2 : List (Nat × Instr × Nat) := [(46, .iload_n 1, 1), (47, .invokevirtual 436, 3), (50, .iinc 1 1, 3), (53, .goto (-16), 3), (56, .aload_n 0, 1), (57, .invokevirtual 439, 3), (60, .iconst 0, 1), (61, .istore_n 1, 1), (62, .iload_n 1, 1), (63, .aload_n 0, 1), (64, .getfield 46, 3), (67, .if_icmp .ge 14, 3)]
theorem kX11_day_2 : chkB cX11_day LX11_day_2 = true := by decide +kernel
theorem dX11_day_46 : decode cX11_day 46 = .ok (.iload_n 1, 1) := getB' kX11_day_2 0 rfl
theorem dX11_day_47 : decode cX11_day 47 = .ok (.invokevirtual 436, 3) := getB' kX11_day_2 1 rfl
theorem dX11_day_50 : decode cX11_day 50 = .ok (.iinc 1 1, 3) := getB' kX11_day_2 2 rfl
theorem dX11_day_53 : decode cX11_day 53 = .ok (.goto (-16), 3) := getB' kX11_day_2 3 rfl
theorem dX11_day_56 : decode cX11_day 56 = .ok (.aload_n 0, 1) := getB' kX11_day_2 4 rfl
theorem dX11_day_57 : decode cX11_day 57 = .ok (.invokevirtual 439, 3) := getB' kX11_day_2 5 rfl
theorem dX11_day_60 : decode cX11_day 60 = .ok (.iconst 0, 1) := getB' kX11_day_2 6 rfl
theorem dX11_day_61 : decode cX11_day 61 = .ok (.istore_n 1, 1) := getB' kX11_day_2 7 rfl
theorem dX11_day_62 : decode cX11_day 62 = .ok (.iload_n 1, 1) := getB' kX11_day_2 8 rfl
theorem dX11_day_63 : decode cX11_day 63 = .ok (.aload_n 0, 1) := getB' kX11_day_2 9 rfl
theorem dX11_day_64 : decode cX11_day 64 = .ok (.getfield 46, 3) := getB' kX11_day_2 10 rfl
theorem dX11_day_67 : decode cX11_day 67 = .ok (.if_icmp .ge 14, 3) := getB' kX11_day_2 11 rfl
def LX11_day_3 : List (Nat × Instr × Nat) := [(70, .aload_n 0, 1), (71, .iload_n 1, 1), (72, .invokevirtual 442, 3), (75, .iinc 1 1, 3), (78, .goto (-16), 3), (81, .iconst 0, 1), (82, .istore_n 1, 1), (83, .iload_n 1, 1), (84, .aload_n 0, 1), (85, .getfield 64, 3), (88, .if_icmp .ge 18, 3), (91, .aload_n 0, 1)]
theorem kX11_day_3 : chkB cX11_day LX11_day_3 = true := by decide +kernel
theorem dX11_day_70 : decode cX11_day 70 = .ok (.aload_n 0, 1) := getB' kX11_day_3 0 rfl
theorem dX11_day_71 : decode cX11_day 71 = .ok (.iload_n 1, 1) := getB' kX11_day_3 1 rfl
theorem dX11_day_72 : decode cX11_day 72 = .ok (.invokevirtual 442, 3) := getB' kX11_day_3 2 rfl
theorem dX11_day_75 : decode cX11_day 75 = .ok (.iinc 1 1, 3) := getB' kX11_day_3 3 rfl
theorem dX11_day_78 : decode cX11_day 78 = .ok (.goto (-16), 3) := getB' kX11_day_3 4 rfl
theorem dX11_day_81 : decode cX11_day 81 = .ok (.iconst 0, 1) := getB' kX11_day_3 5 rfl
theorem dX11_day_82 : decode cX11_day 82 = .ok (.istore_n 1, 1) := getB' kX11_day_3 6 rfl
theorem dX11_day_83 : decode cX11_day 83 = .ok (.iload_n 1, 1) := getB' kX11_day_3 7 rfl
theorem dX11_day_84 : decode cX11_day 84 = .ok (.aload_n 0, 1) := getB' kX11_day_3 8 rfl
theorem dX11_day_85 : decode cX11_day 85 = .ok (.getfield 64, 3) := getB' kX11_day_3 9 rfl
theorem dX11_day_88 : decode cX11_day 88 = .ok (.if_icmp .ge 18, 3) := getB' kX11_day_3 10 rfl
theorem dX11_day_91 : decode cX11_day 91 = .ok (.aload_n 0, 1) := getB' kX11_day_3 11 rfl
def LX11_day_4 : List (Nat × Instr × Nat) := [(92, .aload_n 0, 1), (93, .iload_n 1, 1), (94, .invokevirtual 403, 3), (97, .invokevirtual 445, 3), (100, .iinc 1 1, 3), (103, .goto (-20), 3), (106, .iconst 0, 1), (107, .istore_n 1, 1), (108, .iload_n 1, 1), (109, .aload_n 0, 1), (110, .getfield 72, 3), (113, .getfield 199, 3)]
theorem kX11_day_4 : chkB cX11_day LX11_day_4 = true := by decide +kernel
theorem dX11_day_92 : decode cX11_day 92 = .ok (.aload_n 0, 1) := getB' kX11_day_4 0 rfl
theorem dX11_day_93 : decode cX11_day 93 = .ok (.iload_n 1, 1) := getB' kX11_day_4 1 rfl
theorem dX11_day_94 : decode cX11_day 94 = .ok (.invokevirtual 403, 3) := getB' kX11_day_4 2 rfl
theorem dX11_day_97 : decode cX11_day 97 = .ok (.invokevirtual 445, 3) := getB' kX11_day_4 3 rfl
theorem dX11_day_100 : decode cX11_day 100 = .ok (.iinc 1 1, 3) := getB' kX11_day_4 4 rfl
theorem dX11_day_103 : decode cX11_day 103 = .ok (.goto (-20), 3) := getB' kX11_day_4 5 rfl
theorem dX11_day_106 : decode cX11_day 106 = .ok (.iconst 0, 1) := getB' kX11_day_4 6 rfl
theorem dX11_day_107 : decode cX11_day 107 = .ok (.istore_n 1, 1) := getB' kX11_day_4 7 rfl
theorem dX11_day_108 : decode cX11_day 108 = .ok (.iload_n 1, 1) := getB' kX11_day_4 8 rfl
theorem dX11_day_109 : decode cX11_day 109 = .ok (.aload_n 0, 1) := getB' kX11_day_4 9 rfl
theorem dX11_day_110 : decode cX11_day 110 = .ok (.getfield 72, 3) := getB' kX11_day_4 10 rfl
theorem dX11_day_113 : decode cX11_day 113 = .ok (.getfield 199, 3) := getB' kX11_day_4 11 rfl
def LX11_day_5 : List (Nat × Instr × Nat) := [(116, .if_icmp .ge 14, 3), (119, .aload_n 0, 1), (120, .iload_n 1, 1), (121, .invokevirtual 449, 3), (124, .iinc 1 1, 3), (127, .goto (-19), 3), (130, .aload_n 0, 1), (131, .getfield 12, 3), (134, .getfield 145, 3), (137, .ireturn, 1)]
theorem kX11_day_5 : chkB cX11_day LX11_day_5 = true := by decide +kernel
theorem dX11_day_116 : decode cX11_day 116 = .ok (.if_icmp .ge 14, 3) := getB' kX11_day_5 0 rfl
theorem dX11_day_119 : decode cX11_day 119 = .ok (.aload_n 0, 1) := getB' kX11_day_5 1 rfl
theorem dX11_day_120 : decode cX11_day 120 = .ok (.iload_n 1, 1) := getB' kX11_day_5 2 rfl
theorem dX11_day_121 : decode cX11_day 121 = .ok (.invokevirtual 449, 3) := getB' kX11_day_5 3 rfl
theorem dX11_day_124 : decode cX11_day 124 = .ok (.iinc 1 1, 3) := getB' kX11_day_5 4 rfl
theorem dX11_day_127 : decode cX11_day 127 = .ok (.goto (-19), 3) := getB' kX11_day_5 5 rfl
theorem dX11_day_130 : decode cX11_day 130 = .ok (.aload_n 0, 1) := getB' kX11_day_5 6 rfl
theorem dX11_day_131 : decode cX11_day 131 = .ok (.getfield 12, 3) := getB' kX11_day_5 7 rfl
theorem dX11_day_134 : decode cX11_day 134 = .ok (.getfield 145, 3) := getB' kX11_day_5 8 rfl
theorem dX11_day_137 : decode cX11_day 137 = .ok (.ireturn, 1) := getB' kX11_day_5 9 rfl
def LX11_passWork_0 : List (Nat × Instr × Nat) := [(0, .aload_n 0, 1), (1, .iload_n 1, 1), (2, .invokevirtual 309, 3), (5, .astore_n 2, 1), (6, .aload_n 2, 1), (7, .ifnull 31, 3), (10, .aload_n 0, 1), (11, .getfield 12, 3), (14, .getfield 145, 3), (17, .aload_n 2, 1), (18, .getfield 452, 3), (21, .if_icmp .lt 17, 3)]
theorem kX11_passWork_0 : chkB cX11_passWork LX11_passWork_0 = true := by decide +kernel
theorem dX11_passWork_0 : decode cX11_passWork 0 = .ok (.aload_n 0, 1) := getB' kX11_passWork_0 0 rfl
theorem dX11_passWork_1 : decode cX11_passWork 1 = .ok (.iload_n 1, 1) := getB' kX11_passWork_0 1 rfl
theorem dX11_passWork_2 : decode cX11_passWork 2 = .ok (.invokevirtual 309, 3) := getB' kX11_passWork_0 2 rfl
theorem dX11_passWork_5 : decode cX11_passWork 5 = .ok (.astore_n 2, 1) := getB' kX11_passWork_0 3 rfl
theorem dX11_passWork_6 : decode cX11_passWork 6 = .ok (.aload_n 2, 1) := getB' kX11_passWork_0 4 rfl
theorem dX11_passWork_7 : decode cX11_passWork 7 = .ok (.ifnull 31, 3) := getB' kX11_passWork_0 5 rfl
theorem dX11_passWork_10 : decode cX11_passWork 10 = .ok (.aload_n 0, 1) := getB' kX11_passWork_0 6 rfl
theorem dX11_passWork_11 : decode cX11_passWork 11 = .ok (.getfield 12, 3) := getB' kX11_passWork_0 7 rfl
theorem dX11_passWork_14 : decode cX11_passWork 14 = .ok (.getfield 145, 3) := getB' kX11_passWork_0 8 rfl
theorem dX11_passWork_17 : decode cX11_passWork 17 = .ok (.aload_n 2, 1) := getB' kX11_passWork_0 9 rfl
theorem dX11_passWork_18 : decode cX11_passWork 18 = .ok (.getfield 452, 3) := getB' kX11_passWork_0 10 rfl
theorem dX11_passWork_21 : decode cX11_passWork 21 = .ok (.if_icmp .lt 17, 3) := getB' kX11_passWork_0 11 rfl
def LX11_passWork_1 : List (Nat × Instr × Nat) := [(24, .aload_n 0, 1), (25, .getfield 12, 3), (28, .getfield 145, 3), (31, .aload_n 2, 1), (32, .getfield 455, 3), (35, .if_icmp .le 4, 3), (38, .return_, 1), (39, .aload_n 0, 1), (40, .aload_n 2, 1), (41, .aload_n 0, 1), (42, .getfield 12, 3), (45, .getfield 145, 3)]
theorem kX11_passWork_1 : chkB cX11_passWork LX11_passWork_1 = true := by decide +kernel
theorem dX11_passWork_24 : decode cX11_passWork 24 = .ok (.aload_n 0, 1) := getB' kX11_passWork_1 0 rfl
theorem dX11_passWork_25 : decode cX11_passWork 25 = .ok (.getfield 12, 3) := getB' kX11_passWork_1 1 rfl
theorem dX11_passWork_28 : decode cX11_passWork 28 = .ok (.getfield 145, 3) := getB' kX11_passWork_1 2 rfl
theorem dX11_passWork_31 : decode cX11_passWork 31 = .ok (.aload_n 2, 1) := getB' kX11_passWork_1 3 rfl
theorem dX11_passWork_32 : decode cX11_passWork 32 = .ok (.getfield 455, 3) := getB' kX11_passWork_1 4 rfl
theorem dX11_passWork_35 : decode cX11_passWork 35 = .ok (.if_icmp .le 4, 3) := getB' kX11_passWork_1 5 rfl
theorem dX11_passWork_38 : decode cX11_passWork 38 = .ok (.return_, 1) := getB' kX11_passWork_1 6 rfl
theorem dX11_passWork_39 : decode cX11_passWork 39 = .ok (.aload_n 0, 1) := getB' kX11_passWork_1 7 rfl
theorem dX11_passWork_40 : decode cX11_passWork 40 = .ok (.aload_n 2, 1) := getB' kX11_passWork_1 8 rfl
theorem dX11_passWork_41 : decode cX11_passWork 41 = .ok (.aload_n 0, 1) := getB' kX11_passWork_1 9 rfl
theorem dX11_passWork_42 : decode cX11_passWork 42 = .ok (.getfield 12, 3) := getB' kX11_passWork_1 10 rfl
theorem dX11_passWork_45 : decode cX11_passWork 45 = .ok (.getfield 145, 3) := getB' kX11_passWork_1 11 rfl
def LX11_passWork_2 : List (Nat × Instr × Nat) := [(48, .iconst 0, 1), (49, .invokevirtual 331, 3), (52, .ifCond .eq 14, 3), (55, .aload_n 2, 1), (56, .dup, 1), (57, .getfield 458, 3), (60, .iconst 1, 1), (61, .iadd, 1), (62, .putfield 458, 3), (65, .return_, 1), (66, .aload_n 2, 1), (67, .dup, 1)]
theorem kX11_passWork_2 : chkB cX11_passWork LX11_passWork_2 = true := by decide +kernel
theorem dX11_passWork_48 : decode cX11_passWork 48 = .ok (.iconst 0, 1) := getB' kX11_passWork_2 0 rfl
theorem dX11_passWork_49 : decode cX11_passWork 49 = .ok (.invokevirtual 331, 3) := getB' kX11_passWork_2 1 rfl
theorem dX11_passWork_52 : decode cX11_passWork 52 = .ok (.ifCond .eq 14, 3) := getB' kX11_passWork_2 2 rfl
theorem dX11_passWork_55 : decode cX11_passWork 55 = .ok (.aload_n 2, 1) := getB' kX11_passWork_2 3 rfl
theorem dX11_passWork_56 : decode cX11_passWork 56 = .ok (.dup, 1) := getB' kX11_passWork_2 4 rfl
theorem dX11_passWork_57 : decode cX11_passWork 57 = .ok (.getfield 458, 3) := getB' kX11_passWork_2 5 rfl
theorem dX11_passWork_60 : decode cX11_passWork 60 = .ok (.iconst 1, 1) := getB' kX11_passWork_2 6 rfl
theorem dX11_passWork_61 : decode cX11_passWork 61 = .ok (.iadd, 1) := getB' kX11_passWork_2 7 rfl
theorem dX11_passWork_62 : decode cX11_passWork 62 = .ok (.putfield 458, 3) := getB' kX11_passWork_2 8 rfl
theorem dX11_passWork_65 : decode cX11_passWork 65 = .ok (.return_, 1) := getB' kX11_passWork_2 9 rfl
theorem dX11_passWork_66 : decode cX11_passWork 66 = .ok (.aload_n 2, 1) := getB' kX11_passWork_2 10 rfl
theorem dX11_passWork_67 : decode cX11_passWork 67 = .ok (.dup, 1) := getB' kX11_passWork_2 11 rfl
def LX11_passWork_3 : List (Nat × Instr × Nat) := [(68, .getfield 461, 3), (71, .iconst 1, 1), (72, .iadd, 1), (73, .putfield 461, 3), (76, .aload_n 0, 1), (77, .aload_n 2, 1), (78, .getfield 353, 3), (81, .invokevirtual 151, 3), (84, .astore_n 3, 1), (85, .aload_n 2, 1), (86, .getfield 375, 3), (89, .ifCond .ne 17, 3)]
theorem kX11_passWork_3 : chkB cX11_passWork LX11_passWork_3 = true := by decide +kernel
theorem dX11_passWork_68 : decode cX11_passWork 68 = .ok (.getfield 461, 3) := getB' kX11_passWork_3 0 rfl
theorem dX11_passWork_71 : decode cX11_passWork 71 = .ok (.iconst 1, 1) := getB' kX11_passWork_3 1 rfl
theorem dX11_passWork_72 : decode cX11_passWork 72 = .ok (.iadd, 1) := getB' kX11_passWork_3 2 rfl
theorem dX11_passWork_73 : decode cX11_passWork 73 = .ok (.putfield 461, 3) := getB' kX11_passWork_3 3 rfl
theorem dX11_passWork_76 : decode cX11_passWork 76 = .ok (.aload_n 0, 1) := getB' kX11_passWork_3 4 rfl
theorem dX11_passWork_77 : decode cX11_passWork 77 = .ok (.aload_n 2, 1) := getB' kX11_passWork_3 5 rfl
theorem dX11_passWork_78 : decode cX11_passWork 78 = .ok (.getfield 353, 3) := getB' kX11_passWork_3 6 rfl
theorem dX11_passWork_81 : decode cX11_passWork 81 = .ok (.invokevirtual 151, 3) := getB' kX11_passWork_3 7 rfl
theorem dX11_passWork_84 : decode cX11_passWork 84 = .ok (.astore_n 3, 1) := getB' kX11_passWork_3 8 rfl
theorem dX11_passWork_85 : decode cX11_passWork 85 = .ok (.aload_n 2, 1) := getB' kX11_passWork_3 9 rfl
theorem dX11_passWork_86 : decode cX11_passWork 86 = .ok (.getfield 375, 3) := getB' kX11_passWork_3 10 rfl
theorem dX11_passWork_89 : decode cX11_passWork 89 = .ok (.ifCond .ne 17, 3) := getB' kX11_passWork_3 11 rfl
def LX11_passWork_4 : List (Nat × Instr × Nat) := [(92, .aload_n 3, 1), (93, .ifnull 13, 3), (96, .aload_n 3, 1), (97, .dup, 1), (98, .getfield 464, 3), (101, .iconst 1, 1), (102, .iadd, 1), (103, .putfield 464, 3), (106, .aload_n 0, 1), (107, .aload_n 2, 1), (108, .invokevirtual 467, 3), (111, .iconst 0, 1)]
theorem kX11_passWork_4 : chkB cX11_passWork LX11_passWork_4 = true := by decide +kernel
theorem dX11_passWork_92 : decode cX11_passWork 92 = .ok (.aload_n 3, 1) := getB' kX11_passWork_4 0 rfl
theorem dX11_passWork_93 : decode cX11_passWork 93 = .ok (.ifnull 13, 3) := getB' kX11_passWork_4 1 rfl
theorem dX11_passWork_96 : decode cX11_passWork 96 = .ok (.aload_n 3, 1) := getB' kX11_passWork_4 2 rfl
theorem dX11_passWork_97 : decode cX11_passWork 97 = .ok (.dup, 1) := getB' kX11_passWork_4 3 rfl
theorem dX11_passWork_98 : decode cX11_passWork 98 = .ok (.getfield 464, 3) := getB' kX11_passWork_4 4 rfl
theorem dX11_passWork_101 : decode cX11_passWork 101 = .ok (.iconst 1, 1) := getB' kX11_passWork_4 5 rfl
theorem dX11_passWork_102 : decode cX11_passWork 102 = .ok (.iadd, 1) := getB' kX11_passWork_4 6 rfl
theorem dX11_passWork_103 : decode cX11_passWork 103 = .ok (.putfield 464, 3) := getB' kX11_passWork_4 7 rfl
theorem dX11_passWork_106 : decode cX11_passWork 106 = .ok (.aload_n 0, 1) := getB' kX11_passWork_4 8 rfl
theorem dX11_passWork_107 : decode cX11_passWork 107 = .ok (.aload_n 2, 1) := getB' kX11_passWork_4 9 rfl
theorem dX11_passWork_108 : decode cX11_passWork 108 = .ok (.invokevirtual 467, 3) := getB' kX11_passWork_4 10 rfl
theorem dX11_passWork_111 : decode cX11_passWork 111 = .ok (.iconst 0, 1) := getB' kX11_passWork_4 11 rfl
def LX11_passWork_5 : List (Nat × Instr × Nat) := [(112, .istore 4, 2), (114, .iload 4, 2), (116, .aload_n 0, 1), (117, .getfield 79, 3), (120, .getfield 199, 3), (123, .if_icmp .ge 29, 3), (126, .aload_n 0, 1), (127, .getfield 79, 3), (130, .iload 4, 2), (132, .iconst 1, 1), (133, .invokevirtual 209, 3), (136, .iload_n 1, 1)]
theorem kX11_passWork_5 : chkB cX11_passWork LX11_passWork_5 = true := by decide +kernel
theorem dX11_passWork_112 : decode cX11_passWork 112 = .ok (.istore 4, 2) := getB' kX11_passWork_5 0 rfl
theorem dX11_passWork_114 : decode cX11_passWork 114 = .ok (.iload 4, 2) := getB' kX11_passWork_5 1 rfl
theorem dX11_passWork_116 : decode cX11_passWork 116 = .ok (.aload_n 0, 1) := getB' kX11_passWork_5 2 rfl
theorem dX11_passWork_117 : decode cX11_passWork 117 = .ok (.getfield 79, 3) := getB' kX11_passWork_5 3 rfl
theorem dX11_passWork_120 : decode cX11_passWork 120 = .ok (.getfield 199, 3) := getB' kX11_passWork_5 4 rfl
theorem dX11_passWork_123 : decode cX11_passWork 123 = .ok (.if_icmp .ge 29, 3) := getB' kX11_passWork_5 5 rfl
theorem dX11_passWork_126 : decode cX11_passWork 126 = .ok (.aload_n 0, 1) := getB' kX11_passWork_5 6 rfl
theorem dX11_passWork_127 : decode cX11_passWork 127 = .ok (.getfield 79, 3) := getB' kX11_passWork_5 7 rfl
theorem dX11_passWork_130 : decode cX11_passWork 130 = .ok (.iload 4, 2) := getB' kX11_passWork_5 8 rfl
theorem dX11_passWork_132 : decode cX11_passWork 132 = .ok (.iconst 1, 1) := getB' kX11_passWork_5 9 rfl
theorem dX11_passWork_133 : decode cX11_passWork 133 = .ok (.invokevirtual 209, 3) := getB' kX11_passWork_5 10 rfl
theorem dX11_passWork_136 : decode cX11_passWork 136 = .ok (.iload_n 1, 1) := getB' kX11_passWork_5 11 rfl
def LX11_passWork_6 : List (Nat × Instr × Nat) := [(137, .if_icmp .ne 9, 3), (140, .aload_n 0, 1), (141, .iload 4, 2), (143, .invokevirtual 470, 3), (146, .iinc 4 1, 3), (149, .goto (-35), 3), (152, .return_, 1)]
theorem kX11_passWork_6 : chkB cX11_passWork LX11_passWork_6 = true := by decide +kernel
theorem dX11_passWork_137 : decode cX11_passWork 137 = .ok (.if_icmp .ne 9, 3) := getB' kX11_passWork_6 0 rfl
theorem dX11_passWork_140 : decode cX11_passWork 140 = .ok (.aload_n 0, 1) := getB' kX11_passWork_6 1 rfl
theorem dX11_passWork_141 : decode cX11_passWork 141 = .ok (.iload 4, 2) := getB' kX11_passWork_6 2 rfl
theorem dX11_passWork_143 : decode cX11_passWork 143 = .ok (.invokevirtual 470, 3) := getB' kX11_passWork_6 3 rfl
theorem dX11_passWork_146 : decode cX11_passWork 146 = .ok (.iinc 4 1, 3) := getB' kX11_passWork_6 4 rfl
theorem dX11_passWork_149 : decode cX11_passWork 149 = .ok (.goto (-35), 3) := getB' kX11_passWork_6 5 rfl
theorem dX11_passWork_152 : decode cX11_passWork 152 = .ok (.return_, 1) := getB' kX11_passWork_6 6 rfl
def LX11_disturbNests_0 : List (Nat × Instr × Nat) := [(0, .aload_n 0, 1), (1, .getfield 12, 3), (4, .getfield 145, 3), (7, .sipush 360, 3), (10, .idiv, 1), (11, .istore_n 2, 1), (12, .iconst 0, 1), (13, .istore_n 3, 1), (14, .iload_n 3, 1), (15, .aload_n 0, 1), (16, .getfield 46, 3), (19, .if_icmp .ge 72, 3)]
theorem kX11_disturbNests_0 : chkB cX11_disturbNests LX11_disturbNests_0 = true := by decide +kernel
theorem dX11_disturbNests_0 : decode cX11_disturbNests 0 = .ok (.aload_n 0, 1) := getB' kX11_disturbNests_0 0 rfl
theorem dX11_disturbNests_1 : decode cX11_disturbNests 1 = .ok (.getfield 12, 3) := getB' kX11_disturbNests_0 1 rfl
theorem dX11_disturbNests_4 : decode cX11_disturbNests 4 = .ok (.getfield 145, 3) := getB' kX11_disturbNests_0 2 rfl
theorem dX11_disturbNests_7 : decode cX11_disturbNests 7 = .ok (.sipush 360, 3) := getB' kX11_disturbNests_0 3 rfl
theorem dX11_disturbNests_10 : decode cX11_disturbNests 10 = .ok (.idiv, 1) := getB' kX11_disturbNests_0 4 rfl
theorem dX11_disturbNests_11 : decode cX11_disturbNests 11 = .ok (.istore_n 2, 1) := getB' kX11_disturbNests_0 5 rfl
theorem dX11_disturbNests_12 : decode cX11_disturbNests 12 = .ok (.iconst 0, 1) := getB' kX11_disturbNests_0 6 rfl
theorem dX11_disturbNests_13 : decode cX11_disturbNests 13 = .ok (.istore_n 3, 1) := getB' kX11_disturbNests_0 7 rfl
theorem dX11_disturbNests_14 : decode cX11_disturbNests 14 = .ok (.iload_n 3, 1) := getB' kX11_disturbNests_0 8 rfl
theorem dX11_disturbNests_15 : decode cX11_disturbNests 15 = .ok (.aload_n 0, 1) := getB' kX11_disturbNests_0 9 rfl
theorem dX11_disturbNests_16 : decode cX11_disturbNests 16 = .ok (.getfield 46, 3) := getB' kX11_disturbNests_0 10 rfl
theorem dX11_disturbNests_19 : decode cX11_disturbNests 19 = .ok (.if_icmp .ge 72, 3) := getB' kX11_disturbNests_0 11 rfl
def LX11_disturbNests_1 : List (Nat × Instr × Nat) := [(22, .aload_n 0, 1), (23, .iload_n 3, 1), (24, .iconst 5, 1), (25, .invokevirtual 169, 3), (28, .astore 4, 2), (30, .aload 4, 2), (32, .ifnonnull 6, 3), (35, .goto 50, 3), (38, .aload_n 0, 1), (39, .getfield 12, 3), (42, .aload_n 1, 1), (43, .getfield 378, 3)]
theorem kX11_disturbNests_1 : chkB cX11_disturbNests LX11_disturbNests_1 = true := by decide +kernel
theorem dX11_disturbNests_22 : decode cX11_disturbNests 22 = .ok (.aload_n 0, 1) := getB' kX11_disturbNests_1 0 rfl
theorem dX11_disturbNests_23 : decode cX11_disturbNests 23 = .ok (.iload_n 3, 1) := getB' kX11_disturbNests_1 1 rfl
theorem dX11_disturbNests_24 : decode cX11_disturbNests 24 = .ok (.iconst 5, 1) := getB' kX11_disturbNests_1 2 rfl
theorem dX11_disturbNests_25 : decode cX11_disturbNests 25 = .ok (.invokevirtual 169, 3) := getB' kX11_disturbNests_1 3 rfl
theorem dX11_disturbNests_28 : decode cX11_disturbNests 28 = .ok (.astore 4, 2) := getB' kX11_disturbNests_1 4 rfl
theorem dX11_disturbNests_30 : decode cX11_disturbNests 30 = .ok (.aload 4, 2) := getB' kX11_disturbNests_1 5 rfl
theorem dX11_disturbNests_32 : decode cX11_disturbNests 32 = .ok (.ifnonnull 6, 3) := getB' kX11_disturbNests_1 6 rfl
theorem dX11_disturbNests_35 : decode cX11_disturbNests 35 = .ok (.goto 50, 3) := getB' kX11_disturbNests_1 7 rfl
theorem dX11_disturbNests_38 : decode cX11_disturbNests 38 = .ok (.aload_n 0, 1) := getB' kX11_disturbNests_1 8 rfl
theorem dX11_disturbNests_39 : decode cX11_disturbNests 39 = .ok (.getfield 12, 3) := getB' kX11_disturbNests_1 9 rfl
theorem dX11_disturbNests_42 : decode cX11_disturbNests 42 = .ok (.aload_n 1, 1) := getB' kX11_disturbNests_1 10 rfl
theorem dX11_disturbNests_43 : decode cX11_disturbNests 43 = .ok (.getfield 378, 3) := getB' kX11_disturbNests_1 11 rfl
def LX11_disturbNests_2 : List (Nat × Instr × Nat) := [(46, .aload 4, 2), (48, .getfield 344, 3), (51, .invokevirtual 388, 3), (54, .istore 5, 2), (56, .iload 5, 2), (58, .ifCond .lt 27, 3), (61, .iload 5, 2), (63, .iconst 3, 1), (64, .if_icmp .gt 21, 3), (67, .aload 4, 2), (69, .getfield 473, 3), (72, .iload_n 2, 1)]
theorem kX11_disturbNests_2 : chkB cX11_disturbNests LX11_disturbNests_2 = true := by decide +kernel
theorem dX11_disturbNests_46 : decode cX11_disturbNests 46 = .ok (.aload 4, 2) := getB' kX11_disturbNests_2 0 rfl
theorem dX11_disturbNests_48 : decode cX11_disturbNests 48 = .ok (.getfield 344, 3) := getB' kX11_disturbNests_2 1 rfl
theorem dX11_disturbNests_51 : decode cX11_disturbNests 51 = .ok (.invokevirtual 388, 3) := getB' kX11_disturbNests_2 2 rfl
theorem dX11_disturbNests_54 : decode cX11_disturbNests 54 = .ok (.istore 5, 2) := getB' kX11_disturbNests_2 3 rfl
theorem dX11_disturbNests_56 : decode cX11_disturbNests 56 = .ok (.iload 5, 2) := getB' kX11_disturbNests_2 4 rfl
theorem dX11_disturbNests_58 : decode cX11_disturbNests 58 = .ok (.ifCond .lt 27, 3) := getB' kX11_disturbNests_2 5 rfl
theorem dX11_disturbNests_61 : decode cX11_disturbNests 61 = .ok (.iload 5, 2) := getB' kX11_disturbNests_2 6 rfl
theorem dX11_disturbNests_63 : decode cX11_disturbNests 63 = .ok (.iconst 3, 1) := getB' kX11_disturbNests_2 7 rfl
theorem dX11_disturbNests_64 : decode cX11_disturbNests 64 = .ok (.if_icmp .gt 21, 3) := getB' kX11_disturbNests_2 8 rfl
theorem dX11_disturbNests_67 : decode cX11_disturbNests 67 = .ok (.aload 4, 2) := getB' kX11_disturbNests_2 9 rfl
theorem dX11_disturbNests_69 : decode cX11_disturbNests 69 = .ok (.getfield 473, 3) := getB' kX11_disturbNests_2 10 rfl
theorem dX11_disturbNests_72 : decode cX11_disturbNests 72 = .ok (.iload_n 2, 1) := getB' kX11_disturbNests_2 11 rfl
def LX11_disturbNests_3 : List (Nat × Instr × Nat) := [(73, .aload_n 1, 1), (74, .getfield 306, 3), (77, .iload 5, 2), (79, .iconst 1, 1), (80, .iadd, 1), (81, .idiv, 1), (82, .invokestatic 476, 3), (85, .iinc 3 1, 3), (88, .goto (-74), 3), (91, .return_, 1)]
theorem kX11_disturbNests_3 : chkB cX11_disturbNests LX11_disturbNests_3 = true := by decide +kernel
theorem dX11_disturbNests_73 : decode cX11_disturbNests 73 = .ok (.aload_n 1, 1) := getB' kX11_disturbNests_3 0 rfl
theorem dX11_disturbNests_74 : decode cX11_disturbNests 74 = .ok (.getfield 306, 3) := getB' kX11_disturbNests_3 1 rfl
theorem dX11_disturbNests_77 : decode cX11_disturbNests 77 = .ok (.iload 5, 2) := getB' kX11_disturbNests_3 2 rfl
theorem dX11_disturbNests_79 : decode cX11_disturbNests 79 = .ok (.iconst 1, 1) := getB' kX11_disturbNests_3 3 rfl
theorem dX11_disturbNests_80 : decode cX11_disturbNests 80 = .ok (.iadd, 1) := getB' kX11_disturbNests_3 4 rfl
theorem dX11_disturbNests_81 : decode cX11_disturbNests 81 = .ok (.idiv, 1) := getB' kX11_disturbNests_3 5 rfl
theorem dX11_disturbNests_82 : decode cX11_disturbNests 82 = .ok (.invokestatic 476, 3) := getB' kX11_disturbNests_3 6 rfl
theorem dX11_disturbNests_85 : decode cX11_disturbNests 85 = .ok (.iinc 3 1, 3) := getB' kX11_disturbNests_3 7 rfl
theorem dX11_disturbNests_88 : decode cX11_disturbNests 88 = .ok (.goto (-74), 3) := getB' kX11_disturbNests_3 8 rfl
theorem dX11_disturbNests_91 : decode cX11_disturbNests 91 = .ok (.return_, 1) := getB' kX11_disturbNests_3 9 rfl
