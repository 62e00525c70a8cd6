def LJ0_length_8abf5 : List (Nat × Instr × Nat) := [(0, .aload_n 0, 1), (1, .getfield 9, 3), (4, .arraylength, 1), (5, .aload_n 0, 1), (6, .invokevirtual 335, 3), (9, .ishr, 1), (10, .ireturn, 1)]
theorem kJ0_length_8abf5 : chkB cJ0_length_8abf5 LJ0_length_8abf5 = true := by decide +kernel
theorem dJ0_length_8abf5_0 : decode cJ0_length_8abf5 0 = .ok (.aload_n 0, 1) := getB' kJ0_length_8abf5 0 rfl
theorem dJ0_length_8abf5_1 : decode cJ0_length_8abf5 1 = .ok (.getfield 9, 3) := getB' kJ0_length_8abf5 1 rfl
theorem dJ0_length_8abf5_4 : decode cJ0_length_8abf5 4 = .ok (.arraylength, 1) := getB' kJ0_length_8abf5 2 rfl
theorem dJ0_length_8abf5_5 : decode cJ0_length_8abf5 5 = .ok (.aload_n 0, 1) := getB' kJ0_length_8abf5 3 rfl
theorem dJ0_length_8abf5_6 : decode cJ0_length_8abf5 6 = .ok (.invokevirtual 335, 3) := getB' kJ0_length_8abf5 4 rfl
theorem dJ0_length_8abf5_9 : decode cJ0_length_8abf5 9 = .ok (.ishr, 1) := getB' kJ0_length_8abf5 5 rfl
theorem dJ0_length_8abf5_10 : decode cJ0_length_8abf5 10 = .ok (.ireturn, 1) := getB' kJ0_length_8abf5 6 rfl
def LJ0_indexOf_0f7a4 : List (Nat × Instr × Nat) := [(0, .aload_n 0, 1), (1, .iload_n 1, 1), (2, .iconst 0, 1), (3, .invokevirtual 633, 3), (6, .ireturn, 1)]
theorem kJ0_indexOf_0f7a4 : chkB cJ0_indexOf_0f7a4 LJ0_indexOf_0f7a4 = true := by decide +kernel
theorem dJ0_indexOf_0f7a4_0 : decode cJ0_indexOf_0f7a4 0 = .ok (.aload_n 0, 1) := getB' kJ0_indexOf_0f7a4 0 rfl
theorem dJ0_indexOf_0f7a4_1 : decode cJ0_indexOf_0f7a4 1 = .ok (.iload_n 1, 1) := getB' kJ0_indexOf_0f7a4 1 rfl
theorem dJ0_indexOf_0f7a4_2 : decode cJ0_indexOf_0f7a4 2 = .ok (.iconst 0, 1) := getB' kJ0_indexOf_0f7a4 2 rfl
theorem dJ0_indexOf_0f7a4_3 : decode cJ0_indexOf_0f7a4 3 = .ok (.invokevirtual 633, 3) := getB' kJ0_indexOf_0f7a4 3 rfl
theorem dJ0_indexOf_0f7a4_6 : decode cJ0_indexOf_0f7a4 6 = .ok (.ireturn, 1) := getB' kJ0_indexOf_0f7a4 4 rfl
def LJ0_indexOf_7cf53_0 : List (Nat × Instr × Nat) := [(0, .aload_n 0, 1), (1, .invokevirtual 492, 3), (4, .ifCond .eq 19, 3), (7, .aload_n 0, 1), (8, .getfield 9, 3), (11, .iload_n 1, 1), (12, .iload_n 2, 1), (13, .aload_n 0, 1), (14, .invokevirtual 505, 3), (17, .invokestatic 637, 3), (20, .goto 16, 3), (23, .aload_n 0, 1)]
theorem kJ0_indexOf_7cf53_0 : chkB cJ0_indexOf_7cf53 LJ0_indexOf_7cf53_0 = true := by decide +kernel
theorem dJ0_indexOf_7cf53_0 : decode cJ0_indexOf_7cf53 0 = .ok (.aload_n 0, 1) := getB' kJ0_indexOf_7cf53_0 0 rfl
theorem dJ0_indexOf_7cf53_1 : decode cJ0_indexOf_7cf53 1 = .ok (.invokevirtual 492, 3) := getB' kJ0_indexOf_7cf53_0 1 rfl
theorem dJ0_indexOf_7cf53_4 : decode cJ0_indexOf_7cf53 4 = .ok (.ifCond .eq 19, 3) := getB' kJ0_indexOf_7cf53_0 2 rfl
theorem dJ0_indexOf_7cf53_7 : decode cJ0_indexOf_7cf53 7 = .ok (.aload_n 0, 1) := getB' kJ0_indexOf_7cf53_0 3 rfl
theorem dJ0_indexOf_7cf53_8 : decode cJ0_indexOf_7cf53 8 = .ok (.getfield 9, 3) := getB' kJ0_indexOf_7cf53_0 4 rfl
theorem dJ0_indexOf_7cf53_11 : decode cJ0_indexOf_7cf53 11 = .ok (.iload_n 1, 1) := getB' kJ0_indexOf_7cf53_0 5 rfl
theorem dJ0_indexOf_7cf53_12 : decode cJ0_indexOf_7cf53 12 = .ok (.iload_n 2, 1) := getB' kJ0_indexOf_7cf53_0 6 rfl
theorem dJ0_indexOf_7cf53_13 : decode cJ0_indexOf_7cf53 13 = .ok (.aload_n 0, 1) := getB' kJ0_indexOf_7cf53_0 7 rfl
theorem dJ0_indexOf_7cf53_14 : decode cJ0_indexOf_7cf53 14 = .ok (.invokevirtual 505, 3) := getB' kJ0_indexOf_7cf53_0 8 rfl
theorem dJ0_indexOf_7cf53_17 : decode cJ0_indexOf_7cf53 17 = .ok (.invokestatic 637, 3) := getB' kJ0_indexOf_7cf53_0 9 rfl
theorem dJ0_indexOf_7cf53_20 : decode cJ0_indexOf_7cf53 20 = .ok (.goto 16, 3) := getB' kJ0_indexOf_7cf53_0 10 rfl
theorem dJ0_indexOf_7cf53_23 : decode cJ0_indexOf_7cf53 23 = .ok (.aload_n 0, 1) := getB' kJ0_indexOf_7cf53_0 11 rfl
def LJ0_indexOf_7cf53_1 : List (Nat × Instr × Nat) := [(24, .getfield 9, 3), (27, .iload_n 1, 1), (28, .iload_n 2, 1), (29, .aload_n 0, 1), (30, .invokevirtual 505, 3), (33, .invokestatic 640, 3), (36, .ireturn, 1)]
theorem kJ0_indexOf_7cf53_1 : chkB cJ0_indexOf_7cf53 LJ0_indexOf_7cf53_1 = true := by decide +kernel
theorem dJ0_indexOf_7cf53_24 : decode cJ0_indexOf_7cf53 24 = .ok (.getfield 9, 3) := getB' kJ0_indexOf_7cf53_1 0 rfl
theorem dJ0_indexOf_7cf53_27 : decode cJ0_indexOf_7cf53 27 = .ok (.iload_n 1, 1) := getB' kJ0_indexOf_7cf53_1 1 rfl
theorem dJ0_indexOf_7cf53_28 : decode cJ0_indexOf_7cf53 28 = .ok (.iload_n 2, 1) := getB' kJ0_indexOf_7cf53_1 2 rfl
theorem dJ0_indexOf_7cf53_29 : decode cJ0_indexOf_7cf53 29 = .ok (.aload_n 0, 1) := getB' kJ0_indexOf_7cf53_1 3 rfl
theorem dJ0_indexOf_7cf53_30 : decode cJ0_indexOf_7cf53 30 = .ok (.invokevirtual 505, 3) := getB' kJ0_indexOf_7cf53_1 4 rfl
theorem dJ0_indexOf_7cf53_33 : decode cJ0_indexOf_7cf53 33 = .ok (.invokestatic 640, 3) := getB' kJ0_indexOf_7cf53_1 5 rfl
theorem dJ0_indexOf_7cf53_36 : decode cJ0_indexOf_7cf53 36 = .ok (.ireturn, 1) := getB' kJ0_indexOf_7cf53_1 6 rfl
def LJ0_coder_7d493 : List (Nat × Instr × Nat) := [(0, .getstatic 38, 3), (3, .ifCond .eq 10, 3), (6, .aload_n 0, 1), (7, .getfield 15, 3), (10, .goto 4, 3), (13, .iconst 1, 1), (14, .ireturn, 1)]
theorem kJ0_coder_7d493 : chkB cJ0_coder_7d493 LJ0_coder_7d493 = true := by decide +kernel
theorem dJ0_coder_7d493_0 : decode cJ0_coder_7d493 0 = .ok (.getstatic 38, 3) := getB' kJ0_coder_7d493 0 rfl
theorem dJ0_coder_7d493_3 : decode cJ0_coder_7d493 3 = .ok (.ifCond .eq 10, 3) := getB' kJ0_coder_7d493 1 rfl
theorem dJ0_coder_7d493_6 : decode cJ0_coder_7d493 6 = .ok (.aload_n 0, 1) := getB' kJ0_coder_7d493 2 rfl
theorem dJ0_coder_7d493_7 : decode cJ0_coder_7d493 7 = .ok (.getfield 15, 3) := getB' kJ0_coder_7d493 3 rfl
theorem dJ0_coder_7d493_10 : decode cJ0_coder_7d493 10 = .ok (.goto 4, 3) := getB' kJ0_coder_7d493 4 rfl
theorem dJ0_coder_7d493_13 : decode cJ0_coder_7d493 13 = .ok (.iconst 1, 1) := getB' kJ0_coder_7d493 5 rfl
theorem dJ0_coder_7d493_14 : decode cJ0_coder_7d493 14 = .ok (.ireturn, 1) := getB' kJ0_coder_7d493 6 rfl
def LJ0_isLatin1_aae02 : List (Nat × Instr × Nat) := [(0, .getstatic 38, 3), (3, .ifCond .eq 14, 3), (6, .aload_n 0, 1), (7, .getfield 15, 3), (10, .ifCond .ne 7, 3), (13, .iconst 1, 1), (14, .goto 4, 3), (17, .iconst 0, 1), (18, .ireturn, 1)]
theorem kJ0_isLatin1_aae02 : chkB cJ0_isLatin1_aae02 LJ0_isLatin1_aae02 = true := by decide +kernel
theorem dJ0_isLatin1_aae02_0 : decode cJ0_isLatin1_aae02 0 = .ok (.getstatic 38, 3) := getB' kJ0_isLatin1_aae02 0 rfl
theorem dJ0_isLatin1_aae02_3 : decode cJ0_isLatin1_aae02 3 = .ok (.ifCond .eq 14, 3) := getB' kJ0_isLatin1_aae02 1 rfl
theorem dJ0_isLatin1_aae02_6 : decode cJ0_isLatin1_aae02 6 = .ok (.aload_n 0, 1) := getB' kJ0_isLatin1_aae02 2 rfl
theorem dJ0_isLatin1_aae02_7 : decode cJ0_isLatin1_aae02 7 = .ok (.getfield 15, 3) := getB' kJ0_isLatin1_aae02 3 rfl
theorem dJ0_isLatin1_aae02_10 : decode cJ0_isLatin1_aae02 10 = .ok (.ifCond .ne 7, 3) := getB' kJ0_isLatin1_aae02 4 rfl
theorem dJ0_isLatin1_aae02_13 : decode cJ0_isLatin1_aae02 13 = .ok (.iconst 1, 1) := getB' kJ0_isLatin1_aae02 5 rfl
theorem dJ0_isLatin1_aae02_14 : decode cJ0_isLatin1_aae02 14 = .ok (.goto 4, 3) := getB' kJ0_isLatin1_aae02 6 rfl
theorem dJ0_isLatin1_aae02_17 : decode cJ0_isLatin1_aae02 17 = .ok (.iconst 0, 1) := getB' kJ0_isLatin1_aae02 7 rfl
theorem dJ0_isLatin1_aae02_18 : decode cJ0_isLatin1_aae02 18 = .ok (.ireturn, 1) := getB' kJ0_isLatin1_aae02 8 rfl
def LJ1_canEncode_9a6ad : List (Nat × Instr × Nat) := [(0, .iload_n 0, 1), (1, .ifCond .lt 14, 3), (4, .iload_n 0, 1), (5, .sipush 255, 3), (8, .if_icmp .gt 7, 3), (11, .iconst 1, 1), (12, .goto 4, 3), (15, .iconst 0, 1), (16, .ireturn, 1)]
theorem kJ1_canEncode_9a6ad : chkB cJ1_canEncode_9a6ad LJ1_canEncode_9a6ad = true := by decide +kernel
theorem dJ1_canEncode_9a6ad_0 : decode cJ1_canEncode_9a6ad 0 = .ok (.iload_n 0, 1) := getB' kJ1_canEncode_9a6ad 0 rfl
theorem dJ1_canEncode_9a6ad_1 : decode cJ1_canEncode_9a6ad 1 = .ok (.ifCond .lt 14, 3) := getB' kJ1_canEncode_9a6ad 1 rfl
theorem dJ1_canEncode_9a6ad_4 : decode cJ1_canEncode_9a6ad 4 = .ok (.iload_n 0, 1) := getB' kJ1_canEncode_9a6ad 2 rfl
theorem dJ1_canEncode_9a6ad_5 : decode cJ1_canEncode_9a6ad 5 = .ok (.sipush 255, 3) := getB' kJ1_canEncode_9a6ad 3 rfl
theorem dJ1_canEncode_9a6ad_8 : decode cJ1_canEncode_9a6ad 8 = .ok (.if_icmp .gt 7, 3) := getB' kJ1_canEncode_9a6ad 4 rfl
theorem dJ1_canEncode_9a6ad_11 : decode cJ1_canEncode_9a6ad 11 = .ok (.iconst 1, 1) := getB' kJ1_canEncode_9a6ad 5 rfl
theorem dJ1_canEncode_9a6ad_12 : decode cJ1_canEncode_9a6ad 12 = .ok (.goto 4, 3) := getB' kJ1_canEncode_9a6ad 6 rfl
theorem dJ1_canEncode_9a6ad_15 : decode cJ1_canEncode_9a6ad 15 = .ok (.iconst 0, 1) := getB' kJ1_canEncode_9a6ad 7 rfl
theorem dJ1_canEncode_9a6ad_16 : decode cJ1_canEncode_9a6ad 16 = .ok (.ireturn, 1) := getB' kJ1_canEncode_9a6ad 8 rfl
def LJ1_indexOf_4cfef_0 : List (Nat × Instr × Nat) := [(0, .iload_n 1, 1), (1, .invokestatic 88, 3), (4, .ifCond .ne 5, 3), (7, .iconst (-1), 1), (8, .ireturn, 1), (9, .iload_n 2, 1), (10, .iconst 0, 1), (11, .invokestatic 92, 3), (14, .istore_n 2, 1), (15, .iload_n 3, 1), (16, .aload_n 0, 1), (17, .arraylength, 1)]
theorem kJ1_indexOf_4cfef_0 : chkB cJ1_indexOf_4cfef LJ1_indexOf_4cfef_0 = true := by decide +kernel
theorem dJ1_indexOf_4cfef_0 : decode cJ1_indexOf_4cfef 0 = .ok (.iload_n 1, 1) := getB' kJ1_indexOf_4cfef_0 0 rfl
theorem dJ1_indexOf_4cfef_1 : decode cJ1_indexOf_4cfef 1 = .ok (.invokestatic 88, 3) := getB' kJ1_indexOf_4cfef_0 1 rfl
theorem dJ1_indexOf_4cfef_4 : decode cJ1_indexOf_4cfef 4 = .ok (.ifCond .ne 5, 3) := getB' kJ1_indexOf_4cfef_0 2 rfl
theorem dJ1_indexOf_4cfef_7 : decode cJ1_indexOf_4cfef 7 = .ok (.iconst (-1), 1) := getB' kJ1_indexOf_4cfef_0 3 rfl
theorem dJ1_indexOf_4cfef_8 : decode cJ1_indexOf_4cfef 8 = .ok (.ireturn, 1) := getB' kJ1_indexOf_4cfef_0 4 rfl
theorem dJ1_indexOf_4cfef_9 : decode cJ1_indexOf_4cfef 9 = .ok (.iload_n 2, 1) := getB' kJ1_indexOf_4cfef_0 5 rfl
theorem dJ1_indexOf_4cfef_10 : decode cJ1_indexOf_4cfef 10 = .ok (.iconst 0, 1) := getB' kJ1_indexOf_4cfef_0 6 rfl
theorem dJ1_indexOf_4cfef_11 : decode cJ1_indexOf_4cfef 11 = .ok (.invokestatic 92, 3) := getB' kJ1_indexOf_4cfef_0 7 rfl
theorem dJ1_indexOf_4cfef_14 : decode cJ1_indexOf_4cfef 14 = .ok (.istore_n 2, 1) := getB' kJ1_indexOf_4cfef_0 8 rfl
theorem dJ1_indexOf_4cfef_15 : decode cJ1_indexOf_4cfef 15 = .ok (.iload_n 3, 1) := getB' kJ1_indexOf_4cfef_0 9 rfl
theorem dJ1_indexOf_4cfef_16 : decode cJ1_indexOf_4cfef 16 = .ok (.aload_n 0, 1) := getB' kJ1_indexOf_4cfef_0 10 rfl
theorem dJ1_indexOf_4cfef_17 : decode cJ1_indexOf_4cfef 17 = .ok (.arraylength, 1) := getB' kJ1_indexOf_4cfef_0 11 rfl
def LJ1_indexOf_4cfef_1 : List (Nat × Instr × Nat) := [(18, .invokestatic 38, 3), (21, .istore_n 3, 1), (22, .iload_n 2, 1), (23, .iload_n 3, 1), (24, .if_icmp .lt 5, 3), (27, .iconst (-1), 1), (28, .ireturn, 1), (29, .aload_n 0, 1), (30, .iload_n 1, 1), (31, .iload_n 2, 1), (32, .iload_n 3, 1), (33, .invokestatic 95, 3)]
theorem kJ1_indexOf_4cfef_1 : chkB cJ1_indexOf_4cfef LJ1_indexOf_4cfef_1 = true := by decide +kernel
theorem dJ1_indexOf_4cfef_18 : decode cJ1_indexOf_4cfef 18 = .ok (.invokestatic 38, 3) := getB' kJ1_indexOf_4cfef_1 0 rfl
theorem dJ1_indexOf_4cfef_21 : decode cJ1_indexOf_4cfef 21 = .ok (.istore_n 3, 1) := getB' kJ1_indexOf_4cfef_1 1 rfl
theorem dJ1_indexOf_4cfef_22 : decode cJ1_indexOf_4cfef 22 = .ok (.iload_n 2, 1) := getB' kJ1_indexOf_4cfef_1 2 rfl
theorem dJ1_indexOf_4cfef_23 : decode cJ1_indexOf_4cfef 23 = .ok (.iload_n 3, 1) := getB' kJ1_indexOf_4cfef_1 3 rfl
theorem dJ1_indexOf_4cfef_24 : decode cJ1_indexOf_4cfef 24 = .ok (.if_icmp .lt 5, 3) := getB' kJ1_indexOf_4cfef_1 4 rfl
theorem dJ1_indexOf_4cfef_27 : decode cJ1_indexOf_4cfef 27 = .ok (.iconst (-1), 1) := getB' kJ1_indexOf_4cfef_1 5 rfl
theorem dJ1_indexOf_4cfef_28 : decode cJ1_indexOf_4cfef 28 = .ok (.ireturn, 1) := getB' kJ1_indexOf_4cfef_1 6 rfl
theorem dJ1_indexOf_4cfef_29 : decode cJ1_indexOf_4cfef 29 = .ok (.aload_n 0, 1) := getB' kJ1_indexOf_4cfef_1 7 rfl
theorem dJ1_indexOf_4cfef_30 : decode cJ1_indexOf_4cfef 30 = .ok (.iload_n 1, 1) := getB' kJ1_indexOf_4cfef_1 8 rfl
theorem dJ1_indexOf_4cfef_31 : decode cJ1_indexOf_4cfef 31 = .ok (.iload_n 2, 1) := getB' kJ1_indexOf_4cfef_1 9 rfl
theorem dJ1_indexOf_4cfef_32 : decode cJ1_indexOf_4cfef 32 = .ok (.iload_n 3, 1) := getB' kJ1_indexOf_4cfef_1 10 rfl
theorem dJ1_indexOf_4cfef_33 : decode cJ1_indexOf_4cfef 33 = .ok (.invokestatic 95, 3) := getB' kJ1_indexOf_4cfef_1 11 rfl
def LJ1_indexOf_4cfef_2 : List (Nat × Instr × Nat) := [(36, .ireturn, 1)]
theorem kJ1_indexOf_4cfef_2 : chkB cJ1_indexOf_4cfef LJ1_indexOf_4cfef_2 = true := by decide +kernel
theorem dJ1_indexOf_4cfef_36 : decode cJ1_indexOf_4cfef 36 = .ok (.ireturn, 1) := getB' kJ1_indexOf_4cfef_2 0 rfl
def LJ1_indexOfChar_4cfef_0 : List (Nat × Instr × Nat) := [(0, .iload_n 1, 1), (1, .i2b, 1), (2, .istore 4, 2), (4, .iload_n 2, 1), (5, .istore 5, 2), (7, .iload 5, 2), (9, .iload_n 3, 1), (10, .if_icmp .ge 21, 3), (13, .aload_n 0, 1), (14, .iload 5, 2), (16, .baload, 1), (17, .iload 4, 2)]
theorem kJ1_indexOfChar_4cfef_0 : chkB cJ1_indexOfChar_4cfef LJ1_indexOfChar_4cfef_0 = true := by decide +kernel
theorem dJ1_indexOfChar_4cfef_0 : decode cJ1_indexOfChar_4cfef 0 = .ok (.iload_n 1, 1) := getB' kJ1_indexOfChar_4cfef_0 0 rfl
theorem dJ1_indexOfChar_4cfef_1 : decode cJ1_indexOfChar_4cfef 1 = .ok (.i2b, 1) := getB' kJ1_indexOfChar_4cfef_0 1 rfl
theorem dJ1_indexOfChar_4cfef_2 : decode cJ1_indexOfChar_4cfef 2 = .ok (.istore 4, 2) := getB' kJ1_indexOfChar_4cfef_0 2 rfl
theorem dJ1_indexOfChar_4cfef_4 : decode cJ1_indexOfChar_4cfef 4 = .ok (.iload_n 2, 1) := getB' kJ1_indexOfChar_4cfef_0 3 rfl
theorem dJ1_indexOfChar_4cfef_5 : decode cJ1_indexOfChar_4cfef 5 = .ok (.istore 5, 2) := getB' kJ1_indexOfChar_4cfef_0 4 rfl
theorem dJ1_indexOfChar_4cfef_7 : decode cJ1_indexOfChar_4cfef 7 = .ok (.iload 5, 2) := getB' kJ1_indexOfChar_4cfef_0 5 rfl
theorem dJ1_indexOfChar_4cfef_9 : decode cJ1_indexOfChar_4cfef 9 = .ok (.iload_n 3, 1) := getB' kJ1_indexOfChar_4cfef_0 6 rfl
theorem dJ1_indexOfChar_4cfef_10 : decode cJ1_indexOfChar_4cfef 10 = .ok (.if_icmp .ge 21, 3) := getB' kJ1_indexOfChar_4cfef_0 7 rfl
theorem dJ1_indexOfChar_4cfef_13 : decode cJ1_indexOfChar_4cfef 13 = .ok (.aload_n 0, 1) := getB' kJ1_indexOfChar_4cfef_0 8 rfl
theorem dJ1_indexOfChar_4cfef_14 : decode cJ1_indexOfChar_4cfef 14 = .ok (.iload 5, 2) := getB' kJ1_indexOfChar_4cfef_0 9 rfl
theorem dJ1_indexOfChar_4cfef_16 : decode cJ1_indexOfChar_4cfef 16 = .ok (.baload, 1) := getB' kJ1_indexOfChar_4cfef_0 10 rfl
theorem dJ1_indexOfChar_4cfef_17 : decode cJ1_indexOfChar_4cfef 17 = .ok (.iload 4, 2) := getB' kJ1_indexOfChar_4cfef_0 11 rfl
def LJ1_indexOfChar_4cfef_1 : List (Nat × Instr × Nat) := [(19, .if_icmp .ne 6, 3), (22, .iload 5, 2), (24, .ireturn, 1), (25, .iinc 5 1, 3), (28, .goto (-21), 3), (31, .iconst (-1), 1), (32, .ireturn, 1)]
theorem kJ1_indexOfChar_4cfef_1 : chkB cJ1_indexOfChar_4cfef LJ1_indexOfChar_4cfef_1 = true := by decide +kernel
theorem dJ1_indexOfChar_4cfef_19 : decode cJ1_indexOfChar_4cfef 19 = .ok (.if_icmp .ne 6, 3) := getB' kJ1_indexOfChar_4cfef_1 0 rfl
theorem dJ1_indexOfChar_4cfef_22 : decode cJ1_indexOfChar_4cfef 22 = .ok (.iload 5, 2) := getB' kJ1_indexOfChar_4cfef_1 1 rfl
theorem dJ1_indexOfChar_4cfef_24 : decode cJ1_indexOfChar_4cfef 24 = .ok (.ireturn, 1) := getB' kJ1_indexOfChar_4cfef_1 2 rfl
theorem dJ1_indexOfChar_4cfef_25 : decode cJ1_indexOfChar_4cfef 25 = .ok (.iinc 5 1, 3) := getB' kJ1_indexOfChar_4cfef_1 3 rfl
theorem dJ1_indexOfChar_4cfef_28 : decode cJ1_indexOfChar_4cfef 28 = .ok (.goto (-21), 3) := getB' kJ1_indexOfChar_4cfef_1 4 rfl
theorem dJ1_indexOfChar_4cfef_31 : decode cJ1_indexOfChar_4cfef 31 = .ok (.iconst (-1), 1) := getB' kJ1_indexOfChar_4cfef_1 5 rfl
theorem dJ1_indexOfChar_4cfef_32 : decode cJ1_indexOfChar_4cfef 32 = .ok (.ireturn, 1) := getB' kJ1_indexOfChar_4cfef_1 6 rfl
def LX0_init_0 : List (Nat × Instr × Nat) := [(0, .aload_n 0, 1), (1, .invokespecial 3, 3), (4, .aload_n 0, 1), (5, .iconst 0, 1), (6, .putfield 9, 3), (9, .aload_n 0, 1), (10, .bipush 120, 2), (12, .putfield 15, 3), (15, .aload_n 0, 1), (16, .sipush 239, 3), (19, .putfield 18, 3), (22, .aload_n 0, 1)]
theorem kX0_init_0 : chkB cX0_init LX0_init_0 = true := by decide +kernel
theorem dX0_init_0 : decode cX0_init 0 = .ok (.aload_n 0, 1) := getB' kX0_init_0 0 rfl
theorem dX0_init_1 : decode cX0_init 1 = .ok (.invokespecial 3, 3) := getB' kX0_init_0 1 rfl
theorem dX0_init_4 : decode cX0_init 4 = .ok (.aload_n 0, 1) := getB' kX0_init_0 2 rfl
theorem dX0_init_5 : decode cX0_init 5 = .ok (.iconst 0, 1) := getB' kX0_init_0 3 rfl
theorem dX0_init_6 : decode cX0_init 6 = .ok (.putfield 9, 3) := getB' kX0_init_0 4 rfl
theorem dX0_init_9 : decode cX0_init 9 = .ok (.aload_n 0, 1) := getB' kX0_init_0 5 rfl
theorem dX0_init_10 : decode cX0_init 10 = .ok (.bipush 120, 2) := getB' kX0_init_0 6 rfl
theorem dX0_init_12 : decode cX0_init 12 = .ok (.putfield 15, 3) := getB' kX0_init_0 7 rfl
theorem dX0_init_15 : decode cX0_init 15 = .ok (.aload_n 0, 1) := getB' kX0_init_0 8 rfl
theorem dX0_init_16 : decode cX0_init 16 = .ok (.sipush 239, 3) := getB' kX0_init_0 9 rfl
theorem dX0_init_19 : decode cX0_init 19 = .ok (.putfield 18, 3) := getB' kX0_init_0 10 rfl
theorem dX0_init_22 : decode cX0_init 22 = .ok (.aload_n 0, 1) := getB' kX0_init_0 11 rfl
def LX0_init_1 : List (Nat × Instr × Nat) := [(23, .bipush 8, 2), (25, .putfield 21, 3), (28, .aload_n 0, 1), (29, .bipush 8, 2), (31, .putfield 24, 3), (34, .aload_n 0, 1), (35, .sipush 144, 3), (38, .newarray .int, 2), (40, .putfield 27, 3), (43, .aload_n 0, 1), (44, .sipush 144, 3), (47, .newarray .int, 2)]
theorem kX0_init_1 : chkB cX0_init LX0_init_1 = true := by decide +kernel
theorem dX0_init_23 : decode cX0_init 23 = .ok (.bipush 8, 2) := getB' kX0_init_1 0 rfl
theorem dX0_init_25 : decode cX0_init 25 = .ok (.putfield 21, 3) := getB' kX0_init_1 1 rfl
theorem dX0_init_28 : decode cX0_init 28 = .ok (.aload_n 0, 1) := getB' kX0_init_1 2 rfl
theorem dX0_init_29 : decode cX0_init 29 = .ok (.bipush 8, 2) := getB' kX0_init_1 3 rfl
theorem dX0_init_31 : decode cX0_init 31 = .ok (.putfield 24, 3) := getB' kX0_init_1 4 rfl
theorem dX0_init_34 : decode cX0_init 34 = .ok (.aload_n 0, 1) := getB' kX0_init_1 5 rfl
theorem dX0_init_35 : decode cX0_init 35 = .ok (.sipush 144, 3) := getB' kX0_init_1 6 rfl
theorem dX0_init_38 : decode cX0_init 38 = .ok (.newarray .int, 2) := getB' kX0_init_1 7 rfl
theorem dX0_init_40 : decode cX0_init 40 = .ok (.putfield 27, 3) := getB' kX0_init_1 8 rfl
theorem dX0_init_43 : decode cX0_init 43 = .ok (.aload_n 0, 1) := getB' kX0_init_1 9 rfl
theorem dX0_init_44 : decode cX0_init 44 = .ok (.sipush 144, 3) := getB' kX0_init_1 10 rfl
theorem dX0_init_47 : decode cX0_init 47 = .ok (.newarray .int, 2) := getB' kX0_init_1 11 rfl
def LX0_init_2 : List (Nat × Instr × Nat) := [(49, .putfield 31, 3), (52, .aload_n 0, 1), (53, .sipush 144, 3), (56, .newarray .int, 2), (58, .putfield 34, 3), (61, .aload_n 0, 1), (62, .sipush 144, 3), (65, .newarray .int, 2), (67, .putfield 37, 3), (70, .aload_n 0, 1), (71, .bipush 48, 2), (73, .newarray .int, 2)]
theorem kX0_init_2 : chkB cX0_init LX0_init_2 = true := by decide +kernel
theorem dX0_init_49 : decode cX0_init 49 = .ok (.putfield 31, 3) := getB' kX0_init_2 0 rfl
theorem dX0_init_52 : decode cX0_init 52 = .ok (.aload_n 0, 1) := getB' kX0_init_2 1 rfl
theorem dX0_init_53 : decode cX0_init 53 = .ok (.sipush 144, 3) := getB' kX0_init_2 2 rfl
theorem dX0_init_56 : decode cX0_init 56 = .ok (.newarray .int, 2) := getB' kX0_init_2 3 rfl
theorem dX0_init_58 : decode cX0_init 58 = .ok (.putfield 34, 3) := getB' kX0_init_2 4 rfl
theorem dX0_init_61 : decode cX0_init 61 = .ok (.aload_n 0, 1) := getB' kX0_init_2 5 rfl
theorem dX0_init_62 : decode cX0_init 62 = .ok (.sipush 144, 3) := getB' kX0_init_2 6 rfl
theorem dX0_init_65 : decode cX0_init 65 = .ok (.newarray .int, 2) := getB' kX0_init_2 7 rfl
theorem dX0_init_67 : decode cX0_init 67 = .ok (.putfield 37, 3) := getB' kX0_init_2 8 rfl
theorem dX0_init_70 : decode cX0_init 70 = .ok (.aload_n 0, 1) := getB' kX0_init_2 9 rfl
theorem dX0_init_71 : decode cX0_init 71 = .ok (.bipush 48, 2) := getB' kX0_init_2 10 rfl
theorem dX0_init_73 : decode cX0_init 73 = .ok (.newarray .int, 2) := getB' kX0_init_2 11 rfl
def LX0_init_3 : List (Nat × Instr × Nat) := [(75, .putfield 40, 3), (78, .aload_n 0, 1), (79, .iconst 4, 1), (80, .newarray .int, 2), (82, .putfield 43, 3), (85, .aload_n 0, 1), (86, .sipush 144, 3), (89, .newarray .int, 2), (91, .putfield 46, 3), (94, .aload_n 0, 1), (95, .sipush 144, 3), (98, .newarray .int, 2)]
theorem kX0_init_3 : chkB cX0_init LX0_init_3 = true := by decide +kernel
theorem dX0_init_75 : decode cX0_init 75 = .ok (.putfield 40, 3) := getB' kX0_init_3 0 rfl
theorem dX0_init_78 : decode cX0_init 78 = .ok (.aload_n 0, 1) := getB' kX0_init_3 1 rfl
theorem dX0_init_79 : decode cX0_init 79 = .ok (.iconst 4, 1) := getB' kX0_init_3 2 rfl
theorem dX0_init_80 : decode cX0_init 80 = .ok (.newarray .int, 2) := getB' kX0_init_3 3 rfl
theorem dX0_init_82 : decode cX0_init 82 = .ok (.putfield 43, 3) := getB' kX0_init_3 4 rfl
theorem dX0_init_85 : decode cX0_init 85 = .ok (.aload_n 0, 1) := getB' kX0_init_3 5 rfl
theorem dX0_init_86 : decode cX0_init 86 = .ok (.sipush 144, 3) := getB' kX0_init_3 6 rfl
theorem dX0_init_89 : decode cX0_init 89 = .ok (.newarray .int, 2) := getB' kX0_init_3 7 rfl
theorem dX0_init_91 : decode cX0_init 91 = .ok (.putfield 46, 3) := getB' kX0_init_3 8 rfl
theorem dX0_init_94 : decode cX0_init 94 = .ok (.aload_n 0, 1) := getB' kX0_init_3 9 rfl
theorem dX0_init_95 : decode cX0_init 95 = .ok (.sipush 144, 3) := getB' kX0_init_3 10 rfl
theorem dX0_init_98 : decode cX0_init 98 = .ok (.newarray .int, 2) := getB' kX0_init_3 11 rfl
def LX0_init_4 : List (Nat × Instr × Nat) := [(100, .putfield 49, 3), (103, .aload_n 0, 1), (104, .getfield 43, 3), (107, .bipush 10, 2), (109, .invokestatic 52, 3), (112, .aload_n 0, 1), (113, .getfield 34, 3), (116, .iconst (-1), 1), (117, .invokestatic 52, 3), (120, .return_, 1)]
theorem kX0_init_4 : chkB cX0_init LX0_init_4 = true := by decide +kernel
theorem dX0_init_100 : decode cX0_init 100 = .ok (.putfield 49, 3) := getB' kX0_init_4 0 rfl
theorem dX0_init_103 : decode cX0_init 103 = .ok (.aload_n 0, 1) := getB' kX0_init_4 1 rfl
theorem dX0_init_104 : decode cX0_init 104 = .ok (.getfield 43, 3) := getB' kX0_init_4 2 rfl
theorem dX0_init_107 : decode cX0_init 107 = .ok (.bipush 10, 2) := getB' kX0_init_4 3 rfl
theorem dX0_init_109 : decode cX0_init 109 = .ok (.invokestatic 52, 3) := getB' kX0_init_4 4 rfl
theorem dX0_init_112 : decode cX0_init 112 = .ok (.aload_n 0, 1) := getB' kX0_init_4 5 rfl
theorem dX0_init_113 : decode cX0_init 113 = .ok (.getfield 34, 3) := getB' kX0_init_4 6 rfl
theorem dX0_init_116 : decode cX0_init 116 = .ok (.iconst (-1), 1) := getB' kX0_init_4 7 rfl
theorem dX0_init_117 : decode cX0_init 117 = .ok (.invokestatic 52, 3) := getB' kX0_init_4 8 rfl
theorem dX0_init_120 : decode cX0_init 120 = .ok (.return_, 1) := getB' kX0_init_4 9 rfl
def LX1_init_0 : List (Nat × Instr × Nat) := [(0, .aload_n 0, 1), (1, .invokespecial 3, 3), (4, .aload_n 0, 1), (5, .bipush 20, 2), (7, .anewarray 9, 3), (10, .putfield 11, 3), (13, .aload_n 0, 1), (14, .iconst 0, 1), (15, .putfield 17, 3), (18, .aload_n 0, 1), (19, .new 21, 3), (22, .dup, 1)]
theorem kX1_init_0 : chkB cX1_init LX1_init_0 = true := by decide +kernel
theorem dX1_init_0 : decode cX1_init 0 = .ok (.aload_n 0, 1) := getB' kX1_init_0 0 rfl
theorem dX1_init_1 : decode cX1_init 1 = .ok (.invokespecial 3, 3) := getB' kX1_init_0 1 rfl
theorem dX1_init_4 : decode cX1_init 4 = .ok (.aload_n 0, 1) := getB' kX1_init_0 2 rfl
theorem dX1_init_5 : decode cX1_init 5 = .ok (.bipush 20, 2) := getB' kX1_init_0 3 rfl
theorem dX1_init_7 : decode cX1_init 7 = .ok (.anewarray 9, 3) := getB' kX1_init_0 4 rfl
theorem dX1_init_10 : decode cX1_init 10 = .ok (.putfield 11, 3) := getB' kX1_init_0 5 rfl
theorem dX1_init_13 : decode cX1_init 13 = .ok (.aload_n 0, 1) := getB' kX1_init_0 6 rfl
theorem dX1_init_14 : decode cX1_init 14 = .ok (.iconst 0, 1) := getB' kX1_init_0 7 rfl
theorem dX1_init_15 : decode cX1_init 15 = .ok (.putfield 17, 3) := getB' kX1_init_0 8 rfl
theorem dX1_init_18 : decode cX1_init 18 = .ok (.aload_n 0, 1) := getB' kX1_init_0 9 rfl
theorem dX1_init_19 : decode cX1_init 19 = .ok (.new 21, 3) := getB' kX1_init_0 10 rfl
theorem dX1_init_22 : decode cX1_init 22 = .ok (.dup, 1) := getB' kX1_init_0 11 rfl
def LX1_init_1 : List (Nat × Instr × Nat) := [(23, .iconst 3, 1), (24, .bipush 20, 2), (26, .invokespecial 23, 3), (29, .putfield 26, 3), (32, .aload_n 0, 1), (33, .bipush 20, 2), (35, .anewarray 9, 3), (38, .putfield 30, 3), (41, .aload_n 0, 1), (42, .bipush 20, 2), (44, .newarray .int, 2), (46, .putfield 33, 3)]
theorem kX1_init_1 : chkB cX1_init LX1_init_1 = true := by decide +kernel
theorem dX1_init_23 : decode cX1_init 23 = .ok (.iconst 3, 1) := getB' kX1_init_1 0 rfl
theorem dX1_init_24 : decode cX1_init 24 = .ok (.bipush 20, 2) := getB' kX1_init_1 1 rfl
theorem dX1_init_26 : decode cX1_init 26 = .ok (.invokespecial 23, 3) := getB' kX1_init_1 2 rfl
theorem dX1_init_29 : decode cX1_init 29 = .ok (.putfield 26, 3) := getB' kX1_init_1 3 rfl
theorem dX1_init_32 : decode cX1_init 32 = .ok (.aload_n 0, 1) := getB' kX1_init_1 4 rfl
theorem dX1_init_33 : decode cX1_init 33 = .ok (.bipush 20, 2) := getB' kX1_init_1 5 rfl
theorem dX1_init_35 : decode cX1_init 35 = .ok (.anewarray 9, 3) := getB' kX1_init_1 6 rfl
theorem dX1_init_38 : decode cX1_init 38 = .ok (.putfield 30, 3) := getB' kX1_init_1 7 rfl
theorem dX1_init_41 : decode cX1_init 41 = .ok (.aload_n 0, 1) := getB' kX1_init_1 8 rfl
theorem dX1_init_42 : decode cX1_init 42 = .ok (.bipush 20, 2) := getB' kX1_init_1 9 rfl
theorem dX1_init_44 : decode cX1_init 44 = .ok (.newarray .int, 2) := getB' kX1_init_1 10 rfl
theorem dX1_init_46 : decode cX1_init 46 = .ok (.putfield 33, 3) := getB' kX1_init_1 11 rfl
def LX1_init_2 : List (Nat × Instr × Nat) := [(49, .aload_n 0, 1), (50, .bipush 20, 2), (52, .newarray .int, 2), (54, .putfield 37, 3), (57, .aload_n 0, 1), (58, .iconst (-1), 1), (59, .putfield 40, 3), (62, .aload_n 0, 1), (63, .iconst (-1), 1), (64, .putfield 43, 3), (67, .aload_n 0, 1), (68, .bipush 14, 2)]
theorem kX1_init_2 : chkB cX1_init LX1_init_2 = true := by decide +kernel
theorem dX1_init_49 : decode cX1_init 49 = .ok (.aload_n 0, 1) := getB' kX1_init_2 0 rfl
theorem dX1_init_50 : decode cX1_init 50 = .ok (.bipush 20, 2) := getB' kX1_init_2 1 rfl
theorem dX1_init_52 : decode cX1_init 52 = .ok (.newarray .int, 2) := getB' kX1_init_2 2 rfl
theorem dX1_init_54 : decode cX1_init 54 = .ok (.putfield 37, 3) := getB' kX1_init_2 3 rfl
theorem dX1_init_57 : decode cX1_init 57 = .ok (.aload_n 0, 1) := getB' kX1_init_2 4 rfl
theorem dX1_init_58 : decode cX1_init 58 = .ok (.iconst (-1), 1) := getB' kX1_init_2 5 rfl
theorem dX1_init_59 : decode cX1_init 59 = .ok (.putfield 40, 3) := getB' kX1_init_2 6 rfl
theorem dX1_init_62 : decode cX1_init 62 = .ok (.aload_n 0, 1) := getB' kX1_init_2 7 rfl
theorem dX1_init_63 : decode cX1_init 63 = .ok (.iconst (-1), 1) := getB' kX1_init_2 8 rfl
theorem dX1_init_64 : decode cX1_init 64 = .ok (.putfield 43, 3) := getB' kX1_init_2 9 rfl
theorem dX1_init_67 : decode cX1_init 67 = .ok (.aload_n 0, 1) := getB' kX1_init_2 10 rfl
theorem dX1_init_68 : decode cX1_init 68 = .ok (.bipush 14, 2) := getB' kX1_init_2 11 rfl
def LX1_init_3 : List (Nat × Instr × Nat) := [(70, .newarray .int, 2), (72, .putfield 46, 3), (75, .aload_n 0, 1), (76, .bipush 32, 2), (78, .newarray .int, 2), (80, .putfield 49, 3), (83, .aload_n 0, 1), (84, .iconst 0, 1), (85, .putfield 52, 3), (88, .aload_n 0, 1), (89, .iconst (-1), 1), (90, .putfield 55, 3)]
theorem kX1_init_3 : chkB cX1_init LX1_init_3 = true := by decide +kernel
theorem dX1_init_70 : decode cX1_init 70 = .ok (.newarray .int, 2) := getB' kX1_init_3 0 rfl
theorem dX1_init_72 : decode cX1_init 72 = .ok (.putfield 46, 3) := getB' kX1_init_3 1 rfl
theorem dX1_init_75 : decode cX1_init 75 = .ok (.aload_n 0, 1) := getB' kX1_init_3 2 rfl
theorem dX1_init_76 : decode cX1_init 76 = .ok (.bipush 32, 2) := getB' kX1_init_3 3 rfl
theorem dX1_init_78 : decode cX1_init 78 = .ok (.newarray .int, 2) := getB' kX1_init_3 4 rfl
theorem dX1_init_80 : decode cX1_init 80 = .ok (.putfield 49, 3) := getB' kX1_init_3 5 rfl
theorem dX1_init_83 : decode cX1_init 83 = .ok (.aload_n 0, 1) := getB' kX1_init_3 6 rfl
theorem dX1_init_84 : decode cX1_init 84 = .ok (.iconst 0, 1) := getB' kX1_init_3 7 rfl
theorem dX1_init_85 : decode cX1_init 85 = .ok (.putfield 52, 3) := getB' kX1_init_3 8 rfl
theorem dX1_init_88 : decode cX1_init 88 = .ok (.aload_n 0, 1) := getB' kX1_init_3 9 rfl
theorem dX1_init_89 : decode cX1_init 89 = .ok (.iconst (-1), 1) := getB' kX1_init_3 10 rfl
theorem dX1_init_90 : decode cX1_init 90 = .ok (.putfield 55, 3) := getB' kX1_init_3 11 rfl
def LX1_init_4 : List (Nat × Instr × Nat) := [(93, .aload_n 0, 1), (94, .iconst (-1), 1), (95, .putfield 58, 3), (98, .return_, 1)]
theorem kX1_init_4 : chkB cX1_init LX1_init_4 = true := by decide +kernel
theorem dX1_init_93 : decode cX1_init 93 = .ok (.aload_n 0, 1) := getB' kX1_init_4 0 rfl
theorem dX1_init_94 : decode cX1_init 94 = .ok (.iconst (-1), 1) := getB' kX1_init_4 1 rfl
theorem dX1_init_95 : decode cX1_init 95 = .ok (.putfield 58, 3) := getB' kX1_init_4 2 rfl
theorem dX1_init_98 : decode cX1_init 98 = .ok (.return_, 1) := getB' kX1_init_4 3 rfl
def LX6_init_0 : List (Nat × Instr × Nat) := [(0, .aload_n 0, 1), (1, .invokespecial 3, 3), (4, .aload_n 0, 1), (5, .new 9, 3), (8, .dup, 1), (9, .iconst 2, 1), (10, .bipush 8, 2), (12, .invokespecial 11, 3), (15, .putfield 14, 3), (18, .aload_n 0, 1), (19, .bipush 24, 2), (21, .newarray .int, 2)]
theorem kX6_init_0 : chkB cX6_init LX6_init_0 = true := by decide +kernel
theorem dX6_init_0 : decode cX6_init 0 = .ok (.aload_n 0, 1) := getB' kX6_init_0 0 rfl
theorem dX6_init_1 : decode cX6_init 1 = .ok (.invokespecial 3, 3) := getB' kX6_init_0 1 rfl
theorem dX6_init_4 : decode cX6_init 4 = .ok (.aload_n 0, 1) := getB' kX6_init_0 2 rfl
theorem dX6_init_5 : decode cX6_init 5 = .ok (.new 9, 3) := getB' kX6_init_0 3 rfl
theorem dX6_init_8 : decode cX6_init 8 = .ok (.dup, 1) := getB' kX6_init_0 4 rfl
theorem dX6_init_9 : decode cX6_init 9 = .ok (.iconst 2, 1) := getB' kX6_init_0 5 rfl
theorem dX6_init_10 : decode cX6_init 10 = .ok (.bipush 8, 2) := getB' kX6_init_0 6 rfl
theorem dX6_init_12 : decode cX6_init 12 = .ok (.invokespecial 11, 3) := getB' kX6_init_0 7 rfl
theorem dX6_init_15 : decode cX6_init 15 = .ok (.putfield 14, 3) := getB' kX6_init_0 8 rfl
theorem dX6_init_18 : decode cX6_init 18 = .ok (.aload_n 0, 1) := getB' kX6_init_0 9 rfl
theorem dX6_init_19 : decode cX6_init 19 = .ok (.bipush 24, 2) := getB' kX6_init_0 10 rfl
theorem dX6_init_21 : decode cX6_init 21 = .ok (.newarray .int, 2) := getB' kX6_init_0 11 rfl
def LX6_init_1 : List (Nat × Instr × Nat) := [(23, .putfield 20, 3), (26, .aload_n 0, 1), (27, .bipush 24, 2), (29, .newarray .int, 2), (31, .putfield 24, 3), (34, .aload_n 0, 1), (35, .bipush 64, 2), (37, .newarray .int, 2), (39, .putfield 27, 3), (42, .aload_n 0, 1), (43, .bipush 24, 2), (45, .newarray .int, 2)]
theorem kX6_init_1 : chkB cX6_init LX6_init_1 = true := by decide +kernel
theorem dX6_init_23 : decode cX6_init 23 = .ok (.putfield 20, 3) := getB' kX6_init_1 0 rfl
theorem dX6_init_26 : decode cX6_init 26 = .ok (.aload_n 0, 1) := getB' kX6_init_1 1 rfl
theorem dX6_init_27 : decode cX6_init 27 = .ok (.bipush 24, 2) := getB' kX6_init_1 2 rfl
theorem dX6_init_29 : decode cX6_init 29 = .ok (.newarray .int, 2) := getB' kX6_init_1 3 rfl
theorem dX6_init_31 : decode cX6_init 31 = .ok (.putfield 24, 3) := getB' kX6_init_1 4 rfl
theorem dX6_init_34 : decode cX6_init 34 = .ok (.aload_n 0, 1) := getB' kX6_init_1 5 rfl
theorem dX6_init_35 : decode cX6_init 35 = .ok (.bipush 64, 2) := getB' kX6_init_1 6 rfl
theorem dX6_init_37 : decode cX6_init 37 = .ok (.newarray .int, 2) := getB' kX6_init_1 7 rfl
theorem dX6_init_39 : decode cX6_init 39 = .ok (.putfield 27, 3) := getB' kX6_init_1 8 rfl
theorem dX6_init_42 : decode cX6_init 42 = .ok (.aload_n 0, 1) := getB' kX6_init_1 9 rfl
theorem dX6_init_43 : decode cX6_init 43 = .ok (.bipush 24, 2) := getB' kX6_init_1 10 rfl
theorem dX6_init_45 : decode cX6_init 45 = .ok (.newarray .int, 2) := getB' kX6_init_1 11 rfl
def LX6_init_2 : List (Nat × Instr × Nat) := [(47, .putfield 30, 3), (50, .aload_n 0, 1), (51, .bipush 8, 2), (53, .newarray .int, 2), (55, .putfield 33, 3), (58, .aload_n 0, 1), (59, .sipush 2048, 3), (62, .newarray .int, 2), (64, .putfield 36, 3), (67, .aload_n 0, 1), (68, .bipush 8, 2), (70, .newarray .int, 2)]
theorem kX6_init_2 : chkB cX6_init LX6_init_2 = true := by decide +kernel
theorem dX6_init_47 : decode cX6_init 47 = .ok (.putfield 30, 3) := getB' kX6_init_2 0 rfl
theorem dX6_init_50 : decode cX6_init 50 = .ok (.aload_n 0, 1) := getB' kX6_init_2 1 rfl
theorem dX6_init_51 : decode cX6_init 51 = .ok (.bipush 8, 2) := getB' kX6_init_2 2 rfl
theorem dX6_init_53 : decode cX6_init 53 = .ok (.newarray .int, 2) := getB' kX6_init_2 3 rfl
theorem dX6_init_55 : decode cX6_init 55 = .ok (.putfield 33, 3) := getB' kX6_init_2 4 rfl
theorem dX6_init_58 : decode cX6_init 58 = .ok (.aload_n 0, 1) := getB' kX6_init_2 5 rfl
theorem dX6_init_59 : decode cX6_init 59 = .ok (.sipush 2048, 3) := getB' kX6_init_2 6 rfl
theorem dX6_init_62 : decode cX6_init 62 = .ok (.newarray .int, 2) := getB' kX6_init_2 7 rfl
theorem dX6_init_64 : decode cX6_init 64 = .ok (.putfield 36, 3) := getB' kX6_init_2 8 rfl
theorem dX6_init_67 : decode cX6_init 67 = .ok (.aload_n 0, 1) := getB' kX6_init_2 9 rfl
theorem dX6_init_68 : decode cX6_init 68 = .ok (.bipush 8, 2) := getB' kX6_init_2 10 rfl
theorem dX6_init_70 : decode cX6_init 70 = .ok (.newarray .int, 2) := getB' kX6_init_2 11 rfl
def LX6_init_3 : List (Nat × Instr × Nat) := [(72, .putfield 39, 3), (75, .aload_n 0, 1), (76, .iconst (-1), 1), (77, .putfield 42, 3), (80, .aload_n 0, 1), (81, .iconst (-1), 1), (82, .putfield 46, 3), (85, .aload_n 0, 1), (86, .getfield 24, 3), (89, .sipush 359, 3), (92, .invokestatic 49, 3), (95, .return_, 1)]
theorem kX6_init_3 : chkB cX6_init LX6_init_3 = true := by decide +kernel
theorem dX6_init_72 : decode cX6_init 72 = .ok (.putfield 39, 3) := getB' kX6_init_3 0 rfl
theorem dX6_init_75 : decode cX6_init 75 = .ok (.aload_n 0, 1) := getB' kX6_init_3 1 rfl
theorem dX6_init_76 : decode cX6_init 76 = .ok (.iconst (-1), 1) := getB' kX6_init_3 2 rfl
theorem dX6_init_77 : decode cX6_init 77 = .ok (.putfield 42, 3) := getB' kX6_init_3 3 rfl
theorem dX6_init_80 : decode cX6_init 80 = .ok (.aload_n 0, 1) := getB' kX6_init_3 4 rfl
theorem dX6_init_81 : decode cX6_init 81 = .ok (.iconst (-1), 1) := getB' kX6_init_3 5 rfl
theorem dX6_init_82 : decode cX6_init 82 = .ok (.putfield 46, 3) := getB' kX6_init_3 6 rfl
theorem dX6_init_85 : decode cX6_init 85 = .ok (.aload_n 0, 1) := getB' kX6_init_3 7 rfl
theorem dX6_init_86 : decode cX6_init 86 = .ok (.getfield 24, 3) := getB' kX6_init_3 8 rfl
theorem dX6_init_89 : decode cX6_init 89 = .ok (.sipush 359, 3) := getB' kX6_init_3 9 rfl
theorem dX6_init_92 : decode cX6_init 92 = .ok (.invokestatic 49, 3) := getB' kX6_init_3 10 rfl
theorem dX6_init_95 : decode cX6_init 95 = .ok (.return_, 1) := getB' kX6_init_3 11 rfl
def LX11_init_0 : List (Nat × Instr × Nat) := [(0, .aload_n 0, 1), (1, .invokespecial 3, 3), (4, .aload_n 0, 1), (5, .new 9, 3), (8, .dup, 1), (9, .invokespecial 11, 3), (12, .putfield 12, 3), (15, .aload_n 0, 1), (16, .new 16, 3), (19, .dup, 1), (20, .invokespecial 18, 3), (23, .putfield 19, 3)]
theorem kX11_init_0 : chkB cX11_init LX11_init_0 = true := by decide +kernel
theorem dX11_init_0 : decode cX11_init 0 = .ok (.aload_n 0, 1) := getB' kX11_init_0 0 rfl
theorem dX11_init_1 : decode cX11_init 1 = .ok (.invokespecial 3, 3) := getB' kX11_init_0 1 rfl
theorem dX11_init_4 : decode cX11_init 4 = .ok (.aload_n 0, 1) := getB' kX11_init_0 2 rfl
theorem dX11_init_5 : decode cX11_init 5 = .ok (.new 9, 3) := getB' kX11_init_0 3 rfl
theorem dX11_init_8 : decode cX11_init 8 = .ok (.dup, 1) := getB' kX11_init_0 4 rfl
theorem dX11_init_9 : decode cX11_init 9 = .ok (.invokespecial 11, 3) := getB' kX11_init_0 5 rfl
theorem dX11_init_12 : decode cX11_init 12 = .ok (.putfield 12, 3) := getB' kX11_init_0 6 rfl
theorem dX11_init_15 : decode cX11_init 15 = .ok (.aload_n 0, 1) := getB' kX11_init_0 7 rfl
theorem dX11_init_16 : decode cX11_init 16 = .ok (.new 16, 3) := getB' kX11_init_0 8 rfl
theorem dX11_init_19 : decode cX11_init 19 = .ok (.dup, 1) := getB' kX11_init_0 9 rfl
theorem dX11_init_20 : decode cX11_init 20 = .ok (.invokespecial 18, 3) := getB' kX11_init_0 10 rfl
theorem dX11_init_23 : decode cX11_init 23 = .ok (.putfield 19, 3) := getB' kX11_init_0 11 rfl
def LX11_init_1 : List (Nat × Instr × Nat) := [(26, .aload_n 0, 1), (27, .new 23, 3), (30, .dup, 1), (31, .invokespecial 25, 3), (34, .putfield 26, 3), (37, .aload_n 0, 1), (38, .bipush 9, 2), (40, .anewarray 30, 3), (43, .putfield 32, 3), (46, .aload_n 0, 1), (47, .iconst 0, 1), (48, .putfield 36, 3)]
theorem kX11_init_1 : chkB cX11_init LX11_init_1 = true := by decide +kernel
theorem dX11_init_26 : decode cX11_init 26 = .ok (.aload_n 0, 1) := getB' kX11_init_1 0 rfl
theorem dX11_init_27 : decode cX11_init 27 = .ok (.new 23, 3) := getB' kX11_init_1 1 rfl
theorem dX11_init_30 : decode cX11_init 30 = .ok (.dup, 1) := getB' kX11_init_1 2 rfl
theorem dX11_init_31 : decode cX11_init 31 = .ok (.invokespecial 25, 3) := getB' kX11_init_1 3 rfl
theorem dX11_init_34 : decode cX11_init 34 = .ok (.putfield 26, 3) := getB' kX11_init_1 4 rfl
theorem dX11_init_37 : decode cX11_init 37 = .ok (.aload_n 0, 1) := getB' kX11_init_1 5 rfl
theorem dX11_init_38 : decode cX11_init 38 = .ok (.bipush 9, 2) := getB' kX11_init_1 6 rfl
theorem dX11_init_40 : decode cX11_init 40 = .ok (.anewarray 30, 3) := getB' kX11_init_1 7 rfl
theorem dX11_init_43 : decode cX11_init 43 = .ok (.putfield 32, 3) := getB' kX11_init_1 8 rfl
theorem dX11_init_46 : decode cX11_init 46 = .ok (.aload_n 0, 1) := getB' kX11_init_1 9 rfl
theorem dX11_init_47 : decode cX11_init 47 = .ok (.iconst 0, 1) := getB' kX11_init_1 10 rfl
theorem dX11_init_48 : decode cX11_init 48 = .ok (.putfield 36, 3) := getB' kX11_init_1 11 rfl
def LX11_init_2 : List (Nat × Instr × Nat) := [(51, .aload_n 0, 1), (52, .bipush 60, 2), (54, .anewarray 40, 3), (57, .putfield 42, 3), (60, .aload_n 0, 1), (61, .iconst 0, 1), (62, .putfield 46, 3), (65, .aload_n 0, 1), (66, .bipush 100, 2), (68, .anewarray 49, 3), (71, .putfield 51, 3), (74, .aload_n 0, 1)]
theorem kX11_init_2 : chkB cX11_init LX11_init_2 = true := by decide +kernel
theorem dX11_init_51 : decode cX11_init 51 = .ok (.aload_n 0, 1) := getB' kX11_init_2 0 rfl
theorem dX11_init_52 : decode cX11_init 52 = .ok (.bipush 60, 2) := getB' kX11_init_2 1 rfl
theorem dX11_init_54 : decode cX11_init 54 = .ok (.anewarray 40, 3) := getB' kX11_init_2 2 rfl
theorem dX11_init_57 : decode cX11_init 57 = .ok (.putfield 42, 3) := getB' kX11_init_2 3 rfl
theorem dX11_init_60 : decode cX11_init 60 = .ok (.aload_n 0, 1) := getB' kX11_init_2 4 rfl
theorem dX11_init_61 : decode cX11_init 61 = .ok (.iconst 0, 1) := getB' kX11_init_2 5 rfl
theorem dX11_init_62 : decode cX11_init 62 = .ok (.putfield 46, 3) := getB' kX11_init_2 6 rfl
theorem dX11_init_65 : decode cX11_init 65 = .ok (.aload_n 0, 1) := getB' kX11_init_2 7 rfl
theorem dX11_init_66 : decode cX11_init 66 = .ok (.bipush 100, 2) := getB' kX11_init_2 8 rfl
theorem dX11_init_68 : decode cX11_init 68 = .ok (.anewarray 49, 3) := getB' kX11_init_2 9 rfl
theorem dX11_init_71 : decode cX11_init 71 = .ok (.putfield 51, 3) := getB' kX11_init_2 10 rfl
theorem dX11_init_74 : decode cX11_init 74 = .ok (.aload_n 0, 1) := getB' kX11_init_2 11 rfl
def LX11_init_3 : List (Nat × Instr × Nat) := [(75, .iconst 0, 1), (76, .putfield 55, 3), (79, .aload_n 0, 1), (80, .bipush 10, 2), (82, .anewarray 58, 3), (85, .putfield 60, 3), (88, .aload_n 0, 1), (89, .iconst 0, 1), (90, .putfield 64, 3), (93, .aload_n 0, 1), (94, .new 67, 3), (97, .dup, 1)]
theorem kX11_init_3 : chkB cX11_init LX11_init_3 = true := by decide +kernel
theorem dX11_init_75 : decode cX11_init 75 = .ok (.iconst 0, 1) := getB' kX11_init_3 0 rfl
theorem dX11_init_76 : decode cX11_init 76 = .ok (.putfield 55, 3) := getB' kX11_init_3 1 rfl
theorem dX11_init_79 : decode cX11_init 79 = .ok (.aload_n 0, 1) := getB' kX11_init_3 2 rfl
theorem dX11_init_80 : decode cX11_init 80 = .ok (.bipush 10, 2) := getB' kX11_init_3 3 rfl
theorem dX11_init_82 : decode cX11_init 82 = .ok (.anewarray 58, 3) := getB' kX11_init_3 4 rfl
theorem dX11_init_85 : decode cX11_init 85 = .ok (.putfield 60, 3) := getB' kX11_init_3 5 rfl
theorem dX11_init_88 : decode cX11_init 88 = .ok (.aload_n 0, 1) := getB' kX11_init_3 6 rfl
theorem dX11_init_89 : decode cX11_init 89 = .ok (.iconst 0, 1) := getB' kX11_init_3 7 rfl
theorem dX11_init_90 : decode cX11_init 90 = .ok (.putfield 64, 3) := getB' kX11_init_3 8 rfl
theorem dX11_init_93 : decode cX11_init 93 = .ok (.aload_n 0, 1) := getB' kX11_init_3 9 rfl
theorem dX11_init_94 : decode cX11_init 94 = .ok (.new 67, 3) := getB' kX11_init_3 10 rfl
theorem dX11_init_97 : decode cX11_init 97 = .ok (.dup, 1) := getB' kX11_init_3 11 rfl
def LX11_init_4 : List (Nat × Instr × Nat) := [(98, .iconst 5, 1), (99, .bipush 40, 2), (101, .invokespecial 69, 3), (104, .putfield 72, 3), (107, .aload_n 0, 1), (108, .new 67, 3), (111, .dup, 1), (112, .iconst 5, 1), (113, .bipush 60, 2), (115, .invokespecial 69, 3), (118, .putfield 76, 3), (121, .aload_n 0, 1)]
theorem kX11_init_4 : chkB cX11_init LX11_init_4 = true := by decide +kernel
theorem dX11_init_98 : decode cX11_init 98 = .ok (.iconst 5, 1) := getB' kX11_init_4 0 rfl
theorem dX11_init_99 : decode cX11_init 99 = .ok (.bipush 40, 2) := getB' kX11_init_4 1 rfl
theorem dX11_init_101 : decode cX11_init 101 = .ok (.invokespecial 69, 3) := getB' kX11_init_4 2 rfl
theorem dX11_init_104 : decode cX11_init 104 = .ok (.putfield 72, 3) := getB' kX11_init_4 3 rfl
theorem dX11_init_107 : decode cX11_init 107 = .ok (.aload_n 0, 1) := getB' kX11_init_4 4 rfl
theorem dX11_init_108 : decode cX11_init 108 = .ok (.new 67, 3) := getB' kX11_init_4 5 rfl
theorem dX11_init_111 : decode cX11_init 111 = .ok (.dup, 1) := getB' kX11_init_4 6 rfl
theorem dX11_init_112 : decode cX11_init 112 = .ok (.iconst 5, 1) := getB' kX11_init_4 7 rfl
theorem dX11_init_113 : decode cX11_init 113 = .ok (.bipush 60, 2) := getB' kX11_init_4 8 rfl
theorem dX11_init_115 : decode cX11_init 115 = .ok (.invokespecial 69, 3) := getB' kX11_init_4 9 rfl
theorem dX11_init_118 : decode cX11_init 118 = .ok (.putfield 76, 3) := getB' kX11_init_4 10 rfl
theorem dX11_init_121 : decode cX11_init 121 = .ok (.aload_n 0, 1) := getB' kX11_init_4 11 rfl
def LX11_init_5 : List (Nat × Instr × Nat) := [(122, .new 67, 3), (125, .dup, 1), (126, .iconst 3, 1), (127, .bipush 10, 2), (129, .invokespecial 69, 3), (132, .putfield 79, 3), (135, .aload_n 0, 1), (136, .new 67, 3), (139, .dup, 1), (140, .iconst 5, 1), (141, .sipush 200, 3), (144, .invokespecial 69, 3)]
theorem kX11_init_5 : chkB cX11_init LX11_init_5 = true := by decide +kernel
theorem dX11_init_122 : decode cX11_init 122 = .ok (.new 67, 3) := getB' kX11_init_5 0 rfl
theorem dX11_init_125 : decode cX11_init 125 = .ok (.dup, 1) := getB' kX11_init_5 1 rfl
theorem dX11_init_126 : decode cX11_init 126 = .ok (.iconst 3, 1) := getB' kX11_init_5 2 rfl
theorem dX11_init_127 : decode cX11_init 127 = .ok (.bipush 10, 2) := getB' kX11_init_5 3 rfl
theorem dX11_init_129 : decode cX11_init 129 = .ok (.invokespecial 69, 3) := getB' kX11_init_5 4 rfl
theorem dX11_init_132 : decode cX11_init 132 = .ok (.putfield 79, 3) := getB' kX11_init_5 5 rfl
theorem dX11_init_135 : decode cX11_init 135 = .ok (.aload_n 0, 1) := getB' kX11_init_5 6 rfl
theorem dX11_init_136 : decode cX11_init 136 = .ok (.new 67, 3) := getB' kX11_init_5 7 rfl
theorem dX11_init_139 : decode cX11_init 139 = .ok (.dup, 1) := getB' kX11_init_5 8 rfl
theorem dX11_init_140 : decode cX11_init 140 = .ok (.iconst 5, 1) := getB' kX11_init_5 9 rfl
theorem dX11_init_141 : decode cX11_init 141 = .ok (.sipush 200, 3) := getB' kX11_init_5 10 rfl
theorem dX11_init_144 : decode cX11_init 144 = .ok (.invokespecial 69, 3) := getB' kX11_init_5 11 rfl
def LX11_init_6 : List (Nat × Instr × Nat) := [(147, .putfield 82, 3), (150, .aload_n 0, 1), (151, .new 67, 3), (154, .dup, 1), (155, .iconst 5, 1), (156, .sipush 200, 3), (159, .invokespecial 69, 3), (162, .putfield 85, 3), (165, .aload_n 0, 1), (166, .new 67, 3), (169, .dup, 1), (170, .iconst 1, 1)]
theorem kX11_init_6 : chkB cX11_init LX11_init_6 = true := by decide +kernel
theorem dX11_init_147 : decode cX11_init 147 = .ok (.putfield 82, 3) := getB' kX11_init_6 0 rfl
theorem dX11_init_150 : decode cX11_init 150 = .ok (.aload_n 0, 1) := getB' kX11_init_6 1 rfl
theorem dX11_init_151 : decode cX11_init 151 = .ok (.new 67, 3) := getB' kX11_init_6 2 rfl
theorem dX11_init_154 : decode cX11_init 154 = .ok (.dup, 1) := getB' kX11_init_6 3 rfl
theorem dX11_init_155 : decode cX11_init 155 = .ok (.iconst 5, 1) := getB' kX11_init_6 4 rfl
theorem dX11_init_156 : decode cX11_init 156 = .ok (.sipush 200, 3) := getB' kX11_init_6 5 rfl
theorem dX11_init_159 : decode cX11_init 159 = .ok (.invokespecial 69, 3) := getB' kX11_init_6 6 rfl
theorem dX11_init_162 : decode cX11_init 162 = .ok (.putfield 85, 3) := getB' kX11_init_6 7 rfl
theorem dX11_init_165 : decode cX11_init 165 = .ok (.aload_n 0, 1) := getB' kX11_init_6 8 rfl
theorem dX11_init_166 : decode cX11_init 166 = .ok (.new 67, 3) := getB' kX11_init_6 9 rfl
theorem dX11_init_169 : decode cX11_init 169 = .ok (.dup, 1) := getB' kX11_init_6 10 rfl
theorem dX11_init_170 : decode cX11_init 170 = .ok (.iconst 1, 1) := getB' kX11_init_6 11 rfl
def LX11_init_7 : List (Nat × Instr × Nat) := [(171, .bipush 7, 2), (173, .invokespecial 69, 3), (176, .putfield 88, 3), (179, .aload_n 0, 1), (180, .new 67, 3), (183, .dup, 1), (184, .iconst 1, 1), (185, .sipush 400, 3), (188, .invokespecial 69, 3), (191, .putfield 91, 3), (194, .aload_n 0, 1), (195, .bipush 11, 2)]
theorem kX11_init_7 : chkB cX11_init LX11_init_7 = true := by decide +kernel
theorem dX11_init_171 : decode cX11_init 171 = .ok (.bipush 7, 2) := getB' kX11_init_7 0 rfl
theorem dX11_init_173 : decode cX11_init 173 = .ok (.invokespecial 69, 3) := getB' kX11_init_7 1 rfl
theorem dX11_init_176 : decode cX11_init 176 = .ok (.putfield 88, 3) := getB' kX11_init_7 2 rfl
theorem dX11_init_179 : decode cX11_init 179 = .ok (.aload_n 0, 1) := getB' kX11_init_7 3 rfl
theorem dX11_init_180 : decode cX11_init 180 = .ok (.new 67, 3) := getB' kX11_init_7 4 rfl
theorem dX11_init_183 : decode cX11_init 183 = .ok (.dup, 1) := getB' kX11_init_7 5 rfl
theorem dX11_init_184 : decode cX11_init 184 = .ok (.iconst 1, 1) := getB' kX11_init_7 6 rfl
theorem dX11_init_185 : decode cX11_init 185 = .ok (.sipush 400, 3) := getB' kX11_init_7 7 rfl
theorem dX11_init_188 : decode cX11_init 188 = .ok (.invokespecial 69, 3) := getB' kX11_init_7 8 rfl
theorem dX11_init_191 : decode cX11_init 191 = .ok (.putfield 91, 3) := getB' kX11_init_7 9 rfl
theorem dX11_init_194 : decode cX11_init 194 = .ok (.aload_n 0, 1) := getB' kX11_init_7 10 rfl
theorem dX11_init_195 : decode cX11_init 195 = .ok (.bipush 11, 2) := getB' kX11_init_7 11 rfl
def LX11_init_8 : List (Nat × Instr × Nat) := [(197, .newarray .int, 2), (199, .putfield 94, 3), (202, .aload_n 0, 1), (203, .bipush 8, 2), (205, .newarray .long, 2), (207, .putfield 98, 3), (210, .aload_n 0, 1), (211, .getfield 94, 3), (214, .bipush 50, 2), (216, .invokestatic 102, 3), (219, .aload_n 0, 1), (220, .getfield 94, 3)]
theorem kX11_init_8 : chkB cX11_init LX11_init_8 = true := by decide +kernel
theorem dX11_init_197 : decode cX11_init 197 = .ok (.newarray .int, 2) := getB' kX11_init_8 0 rfl
theorem dX11_init_199 : decode cX11_init 199 = .ok (.putfield 94, 3) := getB' kX11_init_8 1 rfl
theorem dX11_init_202 : decode cX11_init 202 = .ok (.aload_n 0, 1) := getB' kX11_init_8 2 rfl
theorem dX11_init_203 : decode cX11_init 203 = .ok (.bipush 8, 2) := getB' kX11_init_8 3 rfl
theorem dX11_init_205 : decode cX11_init 205 = .ok (.newarray .long, 2) := getB' kX11_init_8 4 rfl
theorem dX11_init_207 : decode cX11_init 207 = .ok (.putfield 98, 3) := getB' kX11_init_8 5 rfl
theorem dX11_init_210 : decode cX11_init 210 = .ok (.aload_n 0, 1) := getB' kX11_init_8 6 rfl
theorem dX11_init_211 : decode cX11_init 211 = .ok (.getfield 94, 3) := getB' kX11_init_8 7 rfl
theorem dX11_init_214 : decode cX11_init 214 = .ok (.bipush 50, 2) := getB' kX11_init_8 8 rfl
theorem dX11_init_216 : decode cX11_init 216 = .ok (.invokestatic 102, 3) := getB' kX11_init_8 9 rfl
theorem dX11_init_219 : decode cX11_init 219 = .ok (.aload_n 0, 1) := getB' kX11_init_8 10 rfl
theorem dX11_init_220 : decode cX11_init 220 = .ok (.getfield 94, 3) := getB' kX11_init_8 11 rfl
def LX11_init_9 : List (Nat × Instr × Nat) := [(223, .bipush 10, 2), (225, .bipush 100, 2), (227, .invokestatic 108, 3), (230, .return_, 1)]
theorem kX11_init_9 : chkB cX11_init LX11_init_9 = true := by decide +kernel
theorem dX11_init_223 : decode cX11_init 223 = .ok (.bipush 10, 2) := getB' kX11_init_9 0 rfl
theorem dX11_init_225 : decode cX11_init 225 = .ok (.bipush 100, 2) := getB' kX11_init_9 1 rfl
theorem dX11_init_227 : decode cX11_init 227 = .ok (.invokestatic 108, 3) := getB' kX11_init_9 2 rfl
theorem dX11_init_230 : decode cX11_init 230 = .ok (.return_, 1) := getB' kX11_init_9 3 rfl
def LX12_init_0 : List (Nat × Instr × Nat) := [(0, .aload_n 0, 1), (1, .invokespecial 1, 3), (4, .aload_n 0, 1), (5, .bipush 120, 2), (7, .putfield 7, 3), (10, .aload_n 0, 1), (11, .sipush 239, 3), (14, .putfield 13, 3), (17, .aload_n 0, 1), (18, .sipush 144, 3), (21, .newarray .int, 2), (23, .putfield 16, 3)]
theorem kX12_init_0 : chkB cX12_init LX12_init_0 = true := by decide +kernel
theorem dX12_init_0 : decode cX12_init 0 = .ok (.aload_n 0, 1) := getB' kX12_init_0 0 rfl
theorem dX12_init_1 : decode cX12_init 1 = .ok (.invokespecial 1, 3) := getB' kX12_init_0 1 rfl
theorem dX12_init_4 : decode cX12_init 4 = .ok (.aload_n 0, 1) := getB' kX12_init_0 2 rfl
theorem dX12_init_5 : decode cX12_init 5 = .ok (.bipush 120, 2) := getB' kX12_init_0 3 rfl
theorem dX12_init_7 : decode cX12_init 7 = .ok (.putfield 7, 3) := getB' kX12_init_0 4 rfl
theorem dX12_init_10 : decode cX12_init 10 = .ok (.aload_n 0, 1) := getB' kX12_init_0 5 rfl
theorem dX12_init_11 : decode cX12_init 11 = .ok (.sipush 239, 3) := getB' kX12_init_0 6 rfl
theorem dX12_init_14 : decode cX12_init 14 = .ok (.putfield 13, 3) := getB' kX12_init_0 7 rfl
theorem dX12_init_17 : decode cX12_init 17 = .ok (.aload_n 0, 1) := getB' kX12_init_0 8 rfl
theorem dX12_init_18 : decode cX12_init 18 = .ok (.sipush 144, 3) := getB' kX12_init_0 9 rfl
theorem dX12_init_21 : decode cX12_init 21 = .ok (.newarray .int, 2) := getB' kX12_init_0 10 rfl
theorem dX12_init_23 : decode cX12_init 23 = .ok (.putfield 16, 3) := getB' kX12_init_0 11 rfl
def LX12_init_1 : List (Nat × Instr × Nat) := [(26, .aload_n 0, 1), (27, .sipush 144, 3), (30, .newarray .int, 2), (32, .putfield 20, 3), (35, .aload_n 0, 1), (36, .sipush 144, 3), (39, .newarray .int, 2), (41, .putfield 23, 3), (44, .aload_n 0, 1), (45, .sipush 144, 3), (48, .newarray .int, 2), (50, .putfield 26, 3)]
theorem kX12_init_1 : chkB cX12_init LX12_init_1 = true := by decide +kernel
theorem dX12_init_26 : decode cX12_init 26 = .ok (.aload_n 0, 1) := getB' kX12_init_1 0 rfl
theorem dX12_init_27 : decode cX12_init 27 = .ok (.sipush 144, 3) := getB' kX12_init_1 1 rfl
theorem dX12_init_30 : decode cX12_init 30 = .ok (.newarray .int, 2) := getB' kX12_init_1 2 rfl
theorem dX12_init_32 : decode cX12_init 32 = .ok (.putfield 20, 3) := getB' kX12_init_1 3 rfl
theorem dX12_init_35 : decode cX12_init 35 = .ok (.aload_n 0, 1) := getB' kX12_init_1 4 rfl
theorem dX12_init_36 : decode cX12_init 36 = .ok (.sipush 144, 3) := getB' kX12_init_1 5 rfl
theorem dX12_init_39 : decode cX12_init 39 = .ok (.newarray .int, 2) := getB' kX12_init_1 6 rfl
theorem dX12_init_41 : decode cX12_init 41 = .ok (.putfield 23, 3) := getB' kX12_init_1 7 rfl
theorem dX12_init_44 : decode cX12_init 44 = .ok (.aload_n 0, 1) := getB' kX12_init_1 8 rfl
theorem dX12_init_45 : decode cX12_init 45 = .ok (.sipush 144, 3) := getB' kX12_init_1 9 rfl
theorem dX12_init_48 : decode cX12_init 48 = .ok (.newarray .int, 2) := getB' kX12_init_1 10 rfl
theorem dX12_init_50 : decode cX12_init 50 = .ok (.putfield 26, 3) := getB' kX12_init_1 11 rfl
def LX12_init_2 : List (Nat × Instr × Nat) := [(53, .aload_n 0, 1), (54, .bipush 9, 2), (56, .newarray .int, 2), (58, .putfield 29, 3), (61, .aload_n 0, 1), (62, .bipush 9, 2), (64, .newarray .int, 2), (66, .putfield 32, 3), (69, .aload_n 0, 1), (70, .bipush 60, 2), (72, .newarray .int, 2), (74, .putfield 35, 3)]
theorem kX12_init_2 : chkB cX12_init LX12_init_2 = true := by decide +kernel
theorem dX12_init_53 : decode cX12_init 53 = .ok (.aload_n 0, 1) := getB' kX12_init_2 0 rfl
theorem dX12_init_54 : decode cX12_init 54 = .ok (.bipush 9, 2) := getB' kX12_init_2 1 rfl
theorem dX12_init_56 : decode cX12_init 56 = .ok (.newarray .int, 2) := getB' kX12_init_2 2 rfl
theorem dX12_init_58 : decode cX12_init 58 = .ok (.putfield 29, 3) := getB' kX12_init_2 3 rfl
theorem dX12_init_61 : decode cX12_init 61 = .ok (.aload_n 0, 1) := getB' kX12_init_2 4 rfl
theorem dX12_init_62 : decode cX12_init 62 = .ok (.bipush 9, 2) := getB' kX12_init_2 5 rfl
theorem dX12_init_64 : decode cX12_init 64 = .ok (.newarray .int, 2) := getB' kX12_init_2 6 rfl
theorem dX12_init_66 : decode cX12_init 66 = .ok (.putfield 32, 3) := getB' kX12_init_2 7 rfl
theorem dX12_init_69 : decode cX12_init 69 = .ok (.aload_n 0, 1) := getB' kX12_init_2 8 rfl
theorem dX12_init_70 : decode cX12_init 70 = .ok (.bipush 60, 2) := getB' kX12_init_2 9 rfl
theorem dX12_init_72 : decode cX12_init 72 = .ok (.newarray .int, 2) := getB' kX12_init_2 10 rfl
theorem dX12_init_74 : decode cX12_init 74 = .ok (.putfield 35, 3) := getB' kX12_init_2 11 rfl
def LX12_init_3 : List (Nat × Instr × Nat) := [(77, .aload_n 0, 1), (78, .bipush 60, 2), (80, .newarray .int, 2), (82, .putfield 38, 3), (85, .aload_n 0, 1), (86, .bipush 60, 2), (88, .newarray .int, 2), (90, .putfield 41, 3), (93, .aload_n 0, 1), (94, .bipush 60, 2), (96, .newarray .int, 2), (98, .putfield 44, 3)]
theorem kX12_init_3 : chkB cX12_init LX12_init_3 = true := by decide +kernel
theorem dX12_init_77 : decode cX12_init 77 = .ok (.aload_n 0, 1) := getB' kX12_init_3 0 rfl
theorem dX12_init_78 : decode cX12_init 78 = .ok (.bipush 60, 2) := getB' kX12_init_3 1 rfl
theorem dX12_init_80 : decode cX12_init 80 = .ok (.newarray .int, 2) := getB' kX12_init_3 2 rfl
theorem dX12_init_82 : decode cX12_init 82 = .ok (.putfield 38, 3) := getB' kX12_init_3 3 rfl
theorem dX12_init_85 : decode cX12_init 85 = .ok (.aload_n 0, 1) := getB' kX12_init_3 4 rfl
theorem dX12_init_86 : decode cX12_init 86 = .ok (.bipush 60, 2) := getB' kX12_init_3 5 rfl
theorem dX12_init_88 : decode cX12_init 88 = .ok (.newarray .int, 2) := getB' kX12_init_3 6 rfl
theorem dX12_init_90 : decode cX12_init 90 = .ok (.putfield 41, 3) := getB' kX12_init_3 7 rfl
theorem dX12_init_93 : decode cX12_init 93 = .ok (.aload_n 0, 1) := getB' kX12_init_3 8 rfl
theorem dX12_init_94 : decode cX12_init 94 = .ok (.bipush 60, 2) := getB' kX12_init_3 9 rfl
theorem dX12_init_96 : decode cX12_init 96 = .ok (.newarray .int, 2) := getB' kX12_init_3 10 rfl
theorem dX12_init_98 : decode cX12_init 98 = .ok (.putfield 44, 3) := getB' kX12_init_3 11 rfl
def LX12_init_4 : List (Nat × Instr × Nat) := [(101, .aload_n 0, 1), (102, .bipush 60, 2), (104, .newarray .int, 2), (106, .putfield 47, 3), (109, .aload_n 0, 1), (110, .bipush 60, 2), (112, .newarray .int, 2), (114, .putfield 50, 3), (117, .aload_n 0, 1), (118, .bipush 60, 2), (120, .newarray .int, 2), (122, .putfield 53, 3)]
theorem kX12_init_4 : chkB cX12_init LX12_init_4 = true := by decide +kernel
theorem dX12_init_101 : decode cX12_init 101 = .ok (.aload_n 0, 1) := getB' kX12_init_4 0 rfl
theorem dX12_init_102 : decode cX12_init 102 = .ok (.bipush 60, 2) := getB' kX12_init_4 1 rfl
theorem dX12_init_104 : decode cX12_init 104 = .ok (.newarray .int, 2) := getB' kX12_init_4 2 rfl
theorem dX12_init_106 : decode cX12_init 106 = .ok (.putfield 47, 3) := getB' kX12_init_4 3 rfl
theorem dX12_init_109 : decode cX12_init 109 = .ok (.aload_n 0, 1) := getB' kX12_init_4 4 rfl
theorem dX12_init_110 : decode cX12_init 110 = .ok (.bipush 60, 2) := getB' kX12_init_4 5 rfl
theorem dX12_init_112 : decode cX12_init 112 = .ok (.newarray .int, 2) := getB' kX12_init_4 6 rfl
theorem dX12_init_114 : decode cX12_init 114 = .ok (.putfield 50, 3) := getB' kX12_init_4 7 rfl
theorem dX12_init_117 : decode cX12_init 117 = .ok (.aload_n 0, 1) := getB' kX12_init_4 8 rfl
theorem dX12_init_118 : decode cX12_init 118 = .ok (.bipush 60, 2) := getB' kX12_init_4 9 rfl
theorem dX12_init_120 : decode cX12_init 120 = .ok (.newarray .int, 2) := getB' kX12_init_4 10 rfl
theorem dX12_init_122 : decode cX12_init 122 = .ok (.putfield 53, 3) := getB' kX12_init_4 11 rfl
def LX12_init_5 : List (Nat × Instr × Nat) := [(125, .aload_n 0, 1), (126, .bipush 60, 2), (128, .newarray .int, 2), (130, .putfield 56, 3), (133, .aload_n 0, 1), (134, .bipush 60, 2), (136, .newarray .int, 2), (138, .putfield 59, 3), (141, .aload_n 0, 1), (142, .bipush 60, 2), (144, .newarray .int, 2), (146, .putfield 62, 3)]
theorem kX12_init_5 : chkB cX12_init LX12_init_5 = true := by decide +kernel
theorem dX12_init_125 : decode cX12_init 125 = .ok (.aload_n 0, 1) := getB' kX12_init_5 0 rfl
theorem dX12_init_126 : decode cX12_init 126 = .ok (.bipush 60, 2) := getB' kX12_init_5 1 rfl
theorem dX12_init_128 : decode cX12_init 128 = .ok (.newarray .int, 2) := getB' kX12_init_5 2 rfl
theorem dX12_init_130 : decode cX12_init 130 = .ok (.putfield 56, 3) := getB' kX12_init_5 3 rfl
theorem dX12_init_133 : decode cX12_init 133 = .ok (.aload_n 0, 1) := getB' kX12_init_5 4 rfl
theorem dX12_init_134 : decode cX12_init 134 = .ok (.bipush 60, 2) := getB' kX12_init_5 5 rfl
theorem dX12_init_136 : decode cX12_init 136 = .ok (.newarray .int, 2) := getB' kX12_init_5 6 rfl
theorem dX12_init_138 : decode cX12_init 138 = .ok (.putfield 59, 3) := getB' kX12_init_5 7 rfl
theorem dX12_init_141 : decode cX12_init 141 = .ok (.aload_n 0, 1) := getB' kX12_init_5 8 rfl
theorem dX12_init_142 : decode cX12_init 142 = .ok (.bipush 60, 2) := getB' kX12_init_5 9 rfl
theorem dX12_init_144 : decode cX12_init 144 = .ok (.newarray .int, 2) := getB' kX12_init_5 10 rfl
theorem dX12_init_146 : decode cX12_init 146 = .ok (.putfield 62, 3) := getB' kX12_init_5 11 rfl
def LX12_init_6 : List (Nat × Instr × Nat) := [(149, .aload_n 0, 1), (150, .sipush 240, 3), (153, .newarray .int, 2), (155, .putfield 65, 3), (158, .aload_n 0, 1), (159, .bipush 60, 2), (161, .newarray .int, 2), (163, .putfield 68, 3), (166, .aload_n 0, 1), (167, .bipush 60, 2), (169, .newarray .int, 2), (171, .putfield 71, 3)]
theorem kX12_init_6 : chkB cX12_init LX12_init_6 = true := by decide +kernel
theorem dX12_init_149 : decode cX12_init 149 = .ok (.aload_n 0, 1) := getB' kX12_init_6 0 rfl
theorem dX12_init_150 : decode cX12_init 150 = .ok (.sipush 240, 3) := getB' kX12_init_6 1 rfl
theorem dX12_init_153 : decode cX12_init 153 = .ok (.newarray .int, 2) := getB' kX12_init_6 2 rfl
theorem dX12_init_155 : decode cX12_init 155 = .ok (.putfield 65, 3) := getB' kX12_init_6 3 rfl
theorem dX12_init_158 : decode cX12_init 158 = .ok (.aload_n 0, 1) := getB' kX12_init_6 4 rfl
theorem dX12_init_159 : decode cX12_init 159 = .ok (.bipush 60, 2) := getB' kX12_init_6 5 rfl
theorem dX12_init_161 : decode cX12_init 161 = .ok (.newarray .int, 2) := getB' kX12_init_6 6 rfl
theorem dX12_init_163 : decode cX12_init 163 = .ok (.putfield 68, 3) := getB' kX12_init_6 7 rfl
theorem dX12_init_166 : decode cX12_init 166 = .ok (.aload_n 0, 1) := getB' kX12_init_6 8 rfl
theorem dX12_init_167 : decode cX12_init 167 = .ok (.bipush 60, 2) := getB' kX12_init_6 9 rfl
theorem dX12_init_169 : decode cX12_init 169 = .ok (.newarray .int, 2) := getB' kX12_init_6 10 rfl
theorem dX12_init_171 : decode cX12_init 171 = .ok (.putfield 71, 3) := getB' kX12_init_6 11 rfl
def LX12_init_7 : List (Nat × Instr × Nat) := [(174, .aload_n 0, 1), (175, .sipush 600, 3), (178, .newarray .int, 2), (180, .putfield 74, 3), (183, .aload_n 0, 1), (184, .sipush 600, 3), (187, .newarray .int, 2), (189, .putfield 77, 3), (192, .aload_n 0, 1), (193, .bipush 60, 2), (195, .newarray .boolean, 2), (197, .putfield 80, 3)]
theorem kX12_init_7 : chkB cX12_init LX12_init_7 = true := by decide +kernel
theorem dX12_init_174 : decode cX12_init 174 = .ok (.aload_n 0, 1) := getB' kX12_init_7 0 rfl
theorem dX12_init_175 : decode cX12_init 175 = .ok (.sipush 600, 3) := getB' kX12_init_7 1 rfl
theorem dX12_init_178 : decode cX12_init 178 = .ok (.newarray .int, 2) := getB' kX12_init_7 2 rfl
theorem dX12_init_180 : decode cX12_init 180 = .ok (.putfield 74, 3) := getB' kX12_init_7 3 rfl
theorem dX12_init_183 : decode cX12_init 183 = .ok (.aload_n 0, 1) := getB' kX12_init_7 4 rfl
theorem dX12_init_184 : decode cX12_init 184 = .ok (.sipush 600, 3) := getB' kX12_init_7 5 rfl
theorem dX12_init_187 : decode cX12_init 187 = .ok (.newarray .int, 2) := getB' kX12_init_7 6 rfl
theorem dX12_init_189 : decode cX12_init 189 = .ok (.putfield 77, 3) := getB' kX12_init_7 7 rfl
theorem dX12_init_192 : decode cX12_init 192 = .ok (.aload_n 0, 1) := getB' kX12_init_7 8 rfl
theorem dX12_init_193 : decode cX12_init 193 = .ok (.bipush 60, 2) := getB' kX12_init_7 9 rfl
theorem dX12_init_195 : decode cX12_init 195 = .ok (.newarray .boolean, 2) := getB' kX12_init_7 10 rfl
theorem dX12_init_197 : decode cX12_init 197 = .ok (.putfield 80, 3) := getB' kX12_init_7 11 rfl
def LX12_init_8 : List (Nat × Instr × Nat) := [(200, .aload_n 0, 1), (201, .sipush 400, 3), (204, .newarray .byte, 2), (206, .putfield 84, 3), (209, .aload_n 0, 1), (210, .sipush 220, 3), (213, .newarray .int, 2), (215, .putfield 88, 3), (218, .aload_n 0, 1), (219, .sipush 220, 3), (222, .newarray .int, 2), (224, .putfield 91, 3)]
theorem kX12_init_8 : chkB cX12_init LX12_init_8 = true := by decide +kernel
theorem dX12_init_200 : decode cX12_init 200 = .ok (.aload_n 0, 1) := getB' kX12_init_8 0 rfl
theorem dX12_init_201 : decode cX12_init 201 = .ok (.sipush 400, 3) := getB' kX12_init_8 1 rfl
theorem dX12_init_204 : decode cX12_init 204 = .ok (.newarray .byte, 2) := getB' kX12_init_8 2 rfl
theorem dX12_init_206 : decode cX12_init 206 = .ok (.putfield 84, 3) := getB' kX12_init_8 3 rfl
theorem dX12_init_209 : decode cX12_init 209 = .ok (.aload_n 0, 1) := getB' kX12_init_8 4 rfl
theorem dX12_init_210 : decode cX12_init 210 = .ok (.sipush 220, 3) := getB' kX12_init_8 5 rfl
theorem dX12_init_213 : decode cX12_init 213 = .ok (.newarray .int, 2) := getB' kX12_init_8 6 rfl
theorem dX12_init_215 : decode cX12_init 215 = .ok (.putfield 88, 3) := getB' kX12_init_8 7 rfl
theorem dX12_init_218 : decode cX12_init 218 = .ok (.aload_n 0, 1) := getB' kX12_init_8 8 rfl
theorem dX12_init_219 : decode cX12_init 219 = .ok (.sipush 220, 3) := getB' kX12_init_8 9 rfl
theorem dX12_init_222 : decode cX12_init 222 = .ok (.newarray .int, 2) := getB' kX12_init_8 10 rfl
theorem dX12_init_224 : decode cX12_init 224 = .ok (.putfield 91, 3) := getB' kX12_init_8 11 rfl
def LX12_init_9 : List (Nat × Instr × Nat) := [(227, .aload_n 0, 1), (228, .bipush 12, 2), (230, .newarray .int, 2), (232, .putfield 94, 3), (235, .aload_n 0, 1), (236, .bipush 12, 2), (238, .newarray .int, 2), (240, .putfield 97, 3), (243, .aload_n 0, 1), (244, .bipush 12, 2), (246, .newarray .int, 2), (248, .putfield 100, 3)]
theorem kX12_init_9 : chkB cX12_init LX12_init_9 = true := by decide +kernel
theorem dX12_init_227 : decode cX12_init 227 = .ok (.aload_n 0, 1) := getB' kX12_init_9 0 rfl
theorem dX12_init_228 : decode cX12_init 228 = .ok (.bipush 12, 2) := getB' kX12_init_9 1 rfl
theorem dX12_init_230 : decode cX12_init 230 = .ok (.newarray .int, 2) := getB' kX12_init_9 2 rfl
theorem dX12_init_232 : decode cX12_init 232 = .ok (.putfield 94, 3) := getB' kX12_init_9 3 rfl
theorem dX12_init_235 : decode cX12_init 235 = .ok (.aload_n 0, 1) := getB' kX12_init_9 4 rfl
theorem dX12_init_236 : decode cX12_init 236 = .ok (.bipush 12, 2) := getB' kX12_init_9 5 rfl
theorem dX12_init_238 : decode cX12_init 238 = .ok (.newarray .int, 2) := getB' kX12_init_9 6 rfl
theorem dX12_init_240 : decode cX12_init 240 = .ok (.putfield 97, 3) := getB' kX12_init_9 7 rfl
theorem dX12_init_243 : decode cX12_init 243 = .ok (.aload_n 0, 1) := getB' kX12_init_9 8 rfl
theorem dX12_init_244 : decode cX12_init 244 = .ok (.bipush 12, 2) := getB' kX12_init_9 9 rfl
theorem dX12_init_246 : decode cX12_init 246 = .ok (.newarray .int, 2) := getB' kX12_init_9 10 rfl
theorem dX12_init_248 : decode cX12_init 248 = .ok (.putfield 100, 3) := getB' kX12_init_9 11 rfl
def LX12_init_10 : List (Nat × Instr × Nat) := [(251, .aload_n 0, 1), (252, .bipush 12, 2), (254, .newarray .int, 2), (256, .putfield 103, 3), (259, .aload_n 0, 1), (260, .bipush 12, 2), (262, .newarray .int, 2), (264, .putfield 106, 3), (267, .aload_n 0, 1), (268, .bipush 12, 2), (270, .newarray .int, 2), (272, .putfield 109, 3)]
theorem kX12_init_10 : chkB cX12_init LX12_init_10 = true := by decide +kernel
theorem dX12_init_251 : decode cX12_init 251 = .ok (.aload_n 0, 1) := getB' kX12_init_10 0 rfl
theorem dX12_init_252 : decode cX12_init 252 = .ok (.bipush 12, 2) := getB' kX12_init_10 1 rfl
theorem dX12_init_254 : decode cX12_init 254 = .ok (.newarray .int, 2) := getB' kX12_init_10 2 rfl
theorem dX12_init_256 : decode cX12_init 256 = .ok (.putfield 103, 3) := getB' kX12_init_10 3 rfl
theorem dX12_init_259 : decode cX12_init 259 = .ok (.aload_n 0, 1) := getB' kX12_init_10 4 rfl
theorem dX12_init_260 : decode cX12_init 260 = .ok (.bipush 12, 2) := getB' kX12_init_10 5 rfl
theorem dX12_init_262 : decode cX12_init 262 = .ok (.newarray .int, 2) := getB' kX12_init_10 6 rfl
theorem dX12_init_264 : decode cX12_init 264 = .ok (.putfield 106, 3) := getB' kX12_init_10 7 rfl
theorem dX12_init_267 : decode cX12_init 267 = .ok (.aload_n 0, 1) := getB' kX12_init_10 8 rfl
theorem dX12_init_268 : decode cX12_init 268 = .ok (.bipush 12, 2) := getB' kX12_init_10 9 rfl
theorem dX12_init_270 : decode cX12_init 270 = .ok (.newarray .int, 2) := getB' kX12_init_10 10 rfl
theorem dX12_init_272 : decode cX12_init 272 = .ok (.putfield 109, 3) := getB' kX12_init_10 11 rfl
def LX12_init_11 : List (Nat × Instr × Nat) := [(275, .aload_n 0, 1), (276, .sipush 4400, 3), (279, .newarray .int, 2), (281, .putfield 112, 3), (284, .aload_n 0, 1), (285, .bipush 20, 2), (287, .newarray .int, 2), (289, .putfield 115, 3), (292, .aload_n 0, 1), (293, .bipush 20, 2), (295, .newarray .int, 2), (297, .putfield 118, 3)]
theorem kX12_init_11 : chkB cX12_init LX12_init_11 = true := by decide +kernel
theorem dX12_init_275 : decode cX12_init 275 = .ok (.aload_n 0, 1) := getB' kX12_init_11 0 rfl
theorem dX12_init_276 : decode cX12_init 276 = .ok (.sipush 4400, 3) := getB' kX12_init_11 1 rfl
theorem dX12_init_279 : decode cX12_init 279 = .ok (.newarray .int, 2) := getB' kX12_init_11 2 rfl
theorem dX12_init_281 : decode cX12_init 281 = .ok (.putfield 112, 3) := getB' kX12_init_11 3 rfl
theorem dX12_init_284 : decode cX12_init 284 = .ok (.aload_n 0, 1) := getB' kX12_init_11 4 rfl
theorem dX12_init_285 : decode cX12_init 285 = .ok (.bipush 20, 2) := getB' kX12_init_11 5 rfl
theorem dX12_init_287 : decode cX12_init 287 = .ok (.newarray .int, 2) := getB' kX12_init_11 6 rfl
theorem dX12_init_289 : decode cX12_init 289 = .ok (.putfield 115, 3) := getB' kX12_init_11 7 rfl
theorem dX12_init_292 : decode cX12_init 292 = .ok (.aload_n 0, 1) := getB' kX12_init_11 8 rfl
theorem dX12_init_293 : decode cX12_init 293 = .ok (.bipush 20, 2) := getB' kX12_init_11 9 rfl
theorem dX12_init_295 : decode cX12_init 295 = .ok (.newarray .int, 2) := getB' kX12_init_11 10 rfl
theorem dX12_init_297 : decode cX12_init 297 = .ok (.putfield 118, 3) := getB' kX12_init_11 11 rfl
def LX12_init_12 : List (Nat × Instr × Nat) := [(300, .aload_n 0, 1), (301, .bipush 20, 2), (303, .newarray .int, 2), (305, .putfield 121, 3), (308, .aload_n 0, 1), (309, .sipush 240, 3), (312, .newarray .int, 2), (314, .putfield 124, 3), (317, .aload_n 0, 1), (318, .sipush 240, 3), (321, .newarray .int, 2), (323, .putfield 127, 3)]
theorem kX12_init_12 : chkB cX12_init LX12_init_12 = true := by decide +kernel
theorem dX12_init_300 : decode cX12_init 300 = .ok (.aload_n 0, 1) := getB' kX12_init_12 0 rfl
theorem dX12_init_301 : decode cX12_init 301 = .ok (.bipush 20, 2) := getB' kX12_init_12 1 rfl
theorem dX12_init_303 : decode cX12_init 303 = .ok (.newarray .int, 2) := getB' kX12_init_12 2 rfl
theorem dX12_init_305 : decode cX12_init 305 = .ok (.putfield 121, 3) := getB' kX12_init_12 3 rfl
theorem dX12_init_308 : decode cX12_init 308 = .ok (.aload_n 0, 1) := getB' kX12_init_12 4 rfl
theorem dX12_init_309 : decode cX12_init 309 = .ok (.sipush 240, 3) := getB' kX12_init_12 5 rfl
theorem dX12_init_312 : decode cX12_init 312 = .ok (.newarray .int, 2) := getB' kX12_init_12 6 rfl
theorem dX12_init_314 : decode cX12_init 314 = .ok (.putfield 124, 3) := getB' kX12_init_12 7 rfl
theorem dX12_init_317 : decode cX12_init 317 = .ok (.aload_n 0, 1) := getB' kX12_init_12 8 rfl
theorem dX12_init_318 : decode cX12_init 318 = .ok (.sipush 240, 3) := getB' kX12_init_12 9 rfl
theorem dX12_init_321 : decode cX12_init 321 = .ok (.newarray .int, 2) := getB' kX12_init_12 10 rfl
theorem dX12_init_323 : decode cX12_init 323 = .ok (.putfield 127, 3) := getB' kX12_init_12 11 rfl
def LX12_init_13 : List (Nat × Instr × Nat) := [(326, .aload_n 0, 1), (327, .sipush 240, 3), (330, .newarray .int, 2), (332, .putfield 130, 3), (335, .aload_n 0, 1), (336, .sipush 240, 3), (339, .newarray .int, 2), (341, .putfield 133, 3), (344, .aload_n 0, 1), (345, .sipush 240, 3), (348, .newarray .int, 2), (350, .putfield 136, 3)]
theorem kX12_init_13 : chkB cX12_init LX12_init_13 = true := by decide +kernel
theorem dX12_init_326 : decode cX12_init 326 = .ok (.aload_n 0, 1) := getB' kX12_init_13 0 rfl
theorem dX12_init_327 : decode cX12_init 327 = .ok (.sipush 240, 3) := getB' kX12_init_13 1 rfl
theorem dX12_init_330 : decode cX12_init 330 = .ok (.newarray .int, 2) := getB' kX12_init_13 2 rfl
theorem dX12_init_332 : decode cX12_init 332 = .ok (.putfield 130, 3) := getB' kX12_init_13 3 rfl
theorem dX12_init_335 : decode cX12_init 335 = .ok (.aload_n 0, 1) := getB' kX12_init_13 4 rfl
theorem dX12_init_336 : decode cX12_init 336 = .ok (.sipush 240, 3) := getB' kX12_init_13 5 rfl
theorem dX12_init_339 : decode cX12_init 339 = .ok (.newarray .int, 2) := getB' kX12_init_13 6 rfl
theorem dX12_init_341 : decode cX12_init 341 = .ok (.putfield 133, 3) := getB' kX12_init_13 7 rfl
theorem dX12_init_344 : decode cX12_init 344 = .ok (.aload_n 0, 1) := getB' kX12_init_13 8 rfl
theorem dX12_init_345 : decode cX12_init 345 = .ok (.sipush 240, 3) := getB' kX12_init_13 9 rfl
theorem dX12_init_348 : decode cX12_init 348 = .ok (.newarray .int, 2) := getB' kX12_init_13 10 rfl
theorem dX12_init_350 : decode cX12_init 350 = .ok (.putfield 136, 3) := getB' kX12_init_13 11 rfl
def LX12_init_14 : List (Nat × Instr × Nat) := [(353, .aload_n 0, 1), (354, .sipush 240, 3), (357, .newarray .int, 2), (359, .putfield 139, 3), (362, .aload_n 0, 1), (363, .sipush 180, 3), (366, .newarray .int, 2), (368, .putfield 142, 3), (371, .aload_n 0, 1), (372, .sipush 2200, 3), (375, .newarray .int, 2), (377, .putfield 145, 3)]
theorem kX12_init_14 : chkB cX12_init LX12_init_14 = true := by decide +kernel
theorem dX12_init_353 : decode cX12_init 353 = .ok (.aload_n 0, 1) := getB' kX12_init_14 0 rfl
theorem dX12_init_354 : decode cX12_init 354 = .ok (.sipush 240, 3) := getB' kX12_init_14 1 rfl
theorem dX12_init_357 : decode cX12_init 357 = .ok (.newarray .int, 2) := getB' kX12_init_14 2 rfl
theorem dX12_init_359 : decode cX12_init 359 = .ok (.putfield 139, 3) := getB' kX12_init_14 3 rfl
theorem dX12_init_362 : decode cX12_init 362 = .ok (.aload_n 0, 1) := getB' kX12_init_14 4 rfl
theorem dX12_init_363 : decode cX12_init 363 = .ok (.sipush 180, 3) := getB' kX12_init_14 5 rfl
theorem dX12_init_366 : decode cX12_init 366 = .ok (.newarray .int, 2) := getB' kX12_init_14 6 rfl
theorem dX12_init_368 : decode cX12_init 368 = .ok (.putfield 142, 3) := getB' kX12_init_14 7 rfl
theorem dX12_init_371 : decode cX12_init 371 = .ok (.aload_n 0, 1) := getB' kX12_init_14 8 rfl
theorem dX12_init_372 : decode cX12_init 372 = .ok (.sipush 2200, 3) := getB' kX12_init_14 9 rfl
theorem dX12_init_375 : decode cX12_init 375 = .ok (.newarray .int, 2) := getB' kX12_init_14 10 rfl
theorem dX12_init_377 : decode cX12_init 377 = .ok (.putfield 145, 3) := getB' kX12_init_14 11 rfl
def LX12_init_15 : List (Nat × Instr × Nat) := [(380, .aload_n 0, 1), (381, .bipush 20, 2), (383, .newarray .int, 2), (385, .putfield 148, 3), (388, .aload_n 0, 1), (389, .bipush 20, 2), (391, .newarray .int, 2), (393, .putfield 151, 3), (396, .aload_n 0, 1), (397, .bipush 20, 2), (399, .newarray .int, 2), (401, .putfield 154, 3)]
theorem kX12_init_15 : chkB cX12_init LX12_init_15 = true := by decide +kernel
theorem dX12_init_380 : decode cX12_init 380 = .ok (.aload_n 0, 1) := getB' kX12_init_15 0 rfl
theorem dX12_init_381 : decode cX12_init 381 = .ok (.bipush 20, 2) := getB' kX12_init_15 1 rfl
theorem dX12_init_383 : decode cX12_init 383 = .ok (.newarray .int, 2) := getB' kX12_init_15 2 rfl
theorem dX12_init_385 : decode cX12_init 385 = .ok (.putfield 148, 3) := getB' kX12_init_15 3 rfl
theorem dX12_init_388 : decode cX12_init 388 = .ok (.aload_n 0, 1) := getB' kX12_init_15 4 rfl
theorem dX12_init_389 : decode cX12_init 389 = .ok (.bipush 20, 2) := getB' kX12_init_15 5 rfl
theorem dX12_init_391 : decode cX12_init 391 = .ok (.newarray .int, 2) := getB' kX12_init_15 6 rfl
theorem dX12_init_393 : decode cX12_init 393 = .ok (.putfield 151, 3) := getB' kX12_init_15 7 rfl
theorem dX12_init_396 : decode cX12_init 396 = .ok (.aload_n 0, 1) := getB' kX12_init_15 8 rfl
theorem dX12_init_397 : decode cX12_init 397 = .ok (.bipush 20, 2) := getB' kX12_init_15 9 rfl
theorem dX12_init_399 : decode cX12_init 399 = .ok (.newarray .int, 2) := getB' kX12_init_15 10 rfl
theorem dX12_init_401 : decode cX12_init 401 = .ok (.putfield 154, 3) := getB' kX12_init_15 11 rfl
def LX12_init_16 : List (Nat × Instr × Nat) := [(404, .aload_n 0, 1), (405, .bipush 20, 2), (407, .newarray .boolean, 2), (409, .putfield 157, 3), (412, .aload_n 0, 1), (413, .sipush 240, 3), (416, .newarray .boolean, 2), (418, .putfield 160, 3), (421, .aload_n 0, 1), (422, .bipush 100, 2), (424, .newarray .int, 2), (426, .putfield 163, 3)]
theorem kX12_init_16 : chkB cX12_init LX12_init_16 = true := by decide +kernel
theorem dX12_init_404 : decode cX12_init 404 = .ok (.aload_n 0, 1) := getB' kX12_init_16 0 rfl
theorem dX12_init_405 : decode cX12_init 405 = .ok (.bipush 20, 2) := getB' kX12_init_16 1 rfl
theorem dX12_init_407 : decode cX12_init 407 = .ok (.newarray .boolean, 2) := getB' kX12_init_16 2 rfl
theorem dX12_init_409 : decode cX12_init 409 = .ok (.putfield 157, 3) := getB' kX12_init_16 3 rfl
theorem dX12_init_412 : decode cX12_init 412 = .ok (.aload_n 0, 1) := getB' kX12_init_16 4 rfl
theorem dX12_init_413 : decode cX12_init 413 = .ok (.sipush 240, 3) := getB' kX12_init_16 5 rfl
theorem dX12_init_416 : decode cX12_init 416 = .ok (.newarray .boolean, 2) := getB' kX12_init_16 6 rfl
theorem dX12_init_418 : decode cX12_init 418 = .ok (.putfield 160, 3) := getB' kX12_init_16 7 rfl
theorem dX12_init_421 : decode cX12_init 421 = .ok (.aload_n 0, 1) := getB' kX12_init_16 8 rfl
theorem dX12_init_422 : decode cX12_init 422 = .ok (.bipush 100, 2) := getB' kX12_init_16 9 rfl
theorem dX12_init_424 : decode cX12_init 424 = .ok (.newarray .int, 2) := getB' kX12_init_16 10 rfl
theorem dX12_init_426 : decode cX12_init 426 = .ok (.putfield 163, 3) := getB' kX12_init_16 11 rfl
def LX12_init_17 : List (Nat × Instr × Nat) := [(429, .aload_n 0, 1), (430, .bipush 100, 2), (432, .newarray .int, 2), (434, .putfield 166, 3), (437, .aload_n 0, 1), (438, .bipush 100, 2), (440, .newarray .int, 2), (442, .putfield 169, 3), (445, .aload_n 0, 1), (446, .bipush 100, 2), (448, .newarray .int, 2), (450, .putfield 172, 3)]
theorem kX12_init_17 : chkB cX12_init LX12_init_17 = true := by decide +kernel
theorem dX12_init_429 : decode cX12_init 429 = .ok (.aload_n 0, 1) := getB' kX12_init_17 0 rfl
theorem dX12_init_430 : decode cX12_init 430 = .ok (.bipush 100, 2) := getB' kX12_init_17 1 rfl
theorem dX12_init_432 : decode cX12_init 432 = .ok (.newarray .int, 2) := getB' kX12_init_17 2 rfl
theorem dX12_init_434 : decode cX12_init 434 = .ok (.putfield 166, 3) := getB' kX12_init_17 3 rfl
theorem dX12_init_437 : decode cX12_init 437 = .ok (.aload_n 0, 1) := getB' kX12_init_17 4 rfl
theorem dX12_init_438 : decode cX12_init 438 = .ok (.bipush 100, 2) := getB' kX12_init_17 5 rfl
theorem dX12_init_440 : decode cX12_init 440 = .ok (.newarray .int, 2) := getB' kX12_init_17 6 rfl
theorem dX12_init_442 : decode cX12_init 442 = .ok (.putfield 169, 3) := getB' kX12_init_17 7 rfl
theorem dX12_init_445 : decode cX12_init 445 = .ok (.aload_n 0, 1) := getB' kX12_init_17 8 rfl
theorem dX12_init_446 : decode cX12_init 446 = .ok (.bipush 100, 2) := getB' kX12_init_17 9 rfl
theorem dX12_init_448 : decode cX12_init 448 = .ok (.newarray .int, 2) := getB' kX12_init_17 10 rfl
theorem dX12_init_450 : decode cX12_init 450 = .ok (.putfield 172, 3) := getB' kX12_init_17 11 rfl
def LX12_init_18 : List (Nat × Instr × Nat) := [(453, .aload_n 0, 1), (454, .bipush 100, 2), (456, .newarray .int, 2), (458, .putfield 175, 3), (461, .aload_n 0, 1), (462, .bipush 100, 2), (464, .newarray .int, 2), (466, .putfield 178, 3), (469, .aload_n 0, 1), (470, .bipush 100, 2), (472, .newarray .int, 2), (474, .putfield 181, 3)]
theorem kX12_init_18 : chkB cX12_init LX12_init_18 = true := by decide +kernel
theorem dX12_init_453 : decode cX12_init 453 = .ok (.aload_n 0, 1) := getB' kX12_init_18 0 rfl
theorem dX12_init_454 : decode cX12_init 454 = .ok (.bipush 100, 2) := getB' kX12_init_18 1 rfl
theorem dX12_init_456 : decode cX12_init 456 = .ok (.newarray .int, 2) := getB' kX12_init_18 2 rfl
theorem dX12_init_458 : decode cX12_init 458 = .ok (.putfield 175, 3) := getB' kX12_init_18 3 rfl
theorem dX12_init_461 : decode cX12_init 461 = .ok (.aload_n 0, 1) := getB' kX12_init_18 4 rfl
theorem dX12_init_462 : decode cX12_init 462 = .ok (.bipush 100, 2) := getB' kX12_init_18 5 rfl
theorem dX12_init_464 : decode cX12_init 464 = .ok (.newarray .int, 2) := getB' kX12_init_18 6 rfl
theorem dX12_init_466 : decode cX12_init 466 = .ok (.putfield 178, 3) := getB' kX12_init_18 7 rfl
theorem dX12_init_469 : decode cX12_init 469 = .ok (.aload_n 0, 1) := getB' kX12_init_18 8 rfl
theorem dX12_init_470 : decode cX12_init 470 = .ok (.bipush 100, 2) := getB' kX12_init_18 9 rfl
theorem dX12_init_472 : decode cX12_init 472 = .ok (.newarray .int, 2) := getB' kX12_init_18 10 rfl
theorem dX12_init_474 : decode cX12_init 474 = .ok (.putfield 181, 3) := getB' kX12_init_18 11 rfl
def LX12_init_19 : List (Nat × Instr × Nat) := [(477, .aload_n 0, 1), (478, .bipush 100, 2), (480, .newarray .int, 2), (482, .putfield 184, 3), (485, .aload_n 0, 1), (486, .bipush 100, 2), (488, .newarray .int, 2), (490, .putfield 187, 3), (493, .aload_n 0, 1), (494, .bipush 100, 2), (496, .newarray .int, 2), (498, .putfield 190, 3)]
theorem kX12_init_19 : chkB cX12_init LX12_init_19 = true := by decide +kernel
theorem dX12_init_477 : decode cX12_init 477 = .ok (.aload_n 0, 1) := getB' kX12_init_19 0 rfl
theorem dX12_init_478 : decode cX12_init 478 = .ok (.bipush 100, 2) := getB' kX12_init_19 1 rfl
theorem dX12_init_480 : decode cX12_init 480 = .ok (.newarray .int, 2) := getB' kX12_init_19 2 rfl
theorem dX12_init_482 : decode cX12_init 482 = .ok (.putfield 184, 3) := getB' kX12_init_19 3 rfl
theorem dX12_init_485 : decode cX12_init 485 = .ok (.aload_n 0, 1) := getB' kX12_init_19 4 rfl
theorem dX12_init_486 : decode cX12_init 486 = .ok (.bipush 100, 2) := getB' kX12_init_19 5 rfl
theorem dX12_init_488 : decode cX12_init 488 = .ok (.newarray .int, 2) := getB' kX12_init_19 6 rfl
theorem dX12_init_490 : decode cX12_init 490 = .ok (.putfield 187, 3) := getB' kX12_init_19 7 rfl
theorem dX12_init_493 : decode cX12_init 493 = .ok (.aload_n 0, 1) := getB' kX12_init_19 8 rfl
theorem dX12_init_494 : decode cX12_init 494 = .ok (.bipush 100, 2) := getB' kX12_init_19 9 rfl
theorem dX12_init_496 : decode cX12_init 496 = .ok (.newarray .int, 2) := getB' kX12_init_19 10 rfl
theorem dX12_init_498 : decode cX12_init 498 = .ok (.putfield 190, 3) := getB' kX12_init_19 11 rfl
def LX12_init_20 : List (Nat × Instr × Nat) := [(501, .aload_n 0, 1), (502, .bipush 100, 2), (504, .newarray .int, 2), (506, .putfield 193, 3), (509, .aload_n 0, 1), (510, .bipush 100, 2), (512, .newarray .int, 2), (514, .putfield 196, 3), (517, .aload_n 0, 1), (518, .bipush 100, 2), (520, .newarray .int, 2), (522, .putfield 199, 3)]
theorem kX12_init_20 : chkB cX12_init LX12_init_20 = true := by decide +kernel
theorem dX12_init_501 : decode cX12_init 501 = .ok (.aload_n 0, 1) := getB' kX12_init_20 0 rfl
theorem dX12_init_502 : decode cX12_init 502 = .ok (.bipush 100, 2) := getB' kX12_init_20 1 rfl
theorem dX12_init_504 : decode cX12_init 504 = .ok (.newarray .int, 2) := getB' kX12_init_20 2 rfl
theorem dX12_init_506 : decode cX12_init 506 = .ok (.putfield 193, 3) := getB' kX12_init_20 3 rfl
theorem dX12_init_509 : decode cX12_init 509 = .ok (.aload_n 0, 1) := getB' kX12_init_20 4 rfl
theorem dX12_init_510 : decode cX12_init 510 = .ok (.bipush 100, 2) := getB' kX12_init_20 5 rfl
theorem dX12_init_512 : decode cX12_init 512 = .ok (.newarray .int, 2) := getB' kX12_init_20 6 rfl
theorem dX12_init_514 : decode cX12_init 514 = .ok (.putfield 196, 3) := getB' kX12_init_20 7 rfl
theorem dX12_init_517 : decode cX12_init 517 = .ok (.aload_n 0, 1) := getB' kX12_init_20 8 rfl
theorem dX12_init_518 : decode cX12_init 518 = .ok (.bipush 100, 2) := getB' kX12_init_20 9 rfl
theorem dX12_init_520 : decode cX12_init 520 = .ok (.newarray .int, 2) := getB' kX12_init_20 10 rfl
theorem dX12_init_522 : decode cX12_init 522 = .ok (.putfield 199, 3) := getB' kX12_init_20 11 rfl
def LX12_init_21 : List (Nat × Instr × Nat) := [(525, .aload_n 0, 1), (526, .sipush 900, 3), (529, .newarray .int, 2), (531, .putfield 202, 3), (534, .aload_n 0, 1), (535, .sipush 220, 3), (538, .newarray .int, 2), (540, .putfield 205, 3), (543, .aload_n 0, 1), (544, .bipush 10, 2), (546, .newarray .int, 2), (548, .putfield 208, 3)]
theorem kX12_init_21 : chkB cX12_init LX12_init_21 = true := by decide +kernel
theorem dX12_init_525 : decode cX12_init 525 = .ok (.aload_n 0, 1) := getB' kX12_init_21 0 rfl
theorem dX12_init_526 : decode cX12_init 526 = .ok (.sipush 900, 3) := getB' kX12_init_21 1 rfl
theorem dX12_init_529 : decode cX12_init 529 = .ok (.newarray .int, 2) := getB' kX12_init_21 2 rfl
theorem dX12_init_531 : decode cX12_init 531 = .ok (.putfield 202, 3) := getB' kX12_init_21 3 rfl
theorem dX12_init_534 : decode cX12_init 534 = .ok (.aload_n 0, 1) := getB' kX12_init_21 4 rfl
theorem dX12_init_535 : decode cX12_init 535 = .ok (.sipush 220, 3) := getB' kX12_init_21 5 rfl
theorem dX12_init_538 : decode cX12_init 538 = .ok (.newarray .int, 2) := getB' kX12_init_21 6 rfl
theorem dX12_init_540 : decode cX12_init 540 = .ok (.putfield 205, 3) := getB' kX12_init_21 7 rfl
theorem dX12_init_543 : decode cX12_init 543 = .ok (.aload_n 0, 1) := getB' kX12_init_21 8 rfl
theorem dX12_init_544 : decode cX12_init 544 = .ok (.bipush 10, 2) := getB' kX12_init_21 9 rfl
theorem dX12_init_546 : decode cX12_init 546 = .ok (.newarray .int, 2) := getB' kX12_init_21 10 rfl
theorem dX12_init_548 : decode cX12_init 548 = .ok (.putfield 208, 3) := getB' kX12_init_21 11 rfl
def LX12_init_22 : List (Nat × Instr × Nat) := [(551, .aload_n 0, 1), (552, .bipush 10, 2), (554, .newarray .int, 2), (556, .putfield 211, 3), (559, .aload_n 0, 1), (560, .bipush 10, 2), (562, .newarray .int, 2), (564, .putfield 214, 3), (567, .aload_n 0, 1), (568, .bipush 10, 2), (570, .newarray .int, 2), (572, .putfield 217, 3)]
theorem kX12_init_22 : chkB cX12_init LX12_init_22 = true := by decide +kernel
theorem dX12_init_551 : decode cX12_init 551 = .ok (.aload_n 0, 1) := getB' kX12_init_22 0 rfl
theorem dX12_init_552 : decode cX12_init 552 = .ok (.bipush 10, 2) := getB' kX12_init_22 1 rfl
theorem dX12_init_554 : decode cX12_init 554 = .ok (.newarray .int, 2) := getB' kX12_init_22 2 rfl
theorem dX12_init_556 : decode cX12_init 556 = .ok (.putfield 211, 3) := getB' kX12_init_22 3 rfl
theorem dX12_init_559 : decode cX12_init 559 = .ok (.aload_n 0, 1) := getB' kX12_init_22 4 rfl
theorem dX12_init_560 : decode cX12_init 560 = .ok (.bipush 10, 2) := getB' kX12_init_22 5 rfl
theorem dX12_init_562 : decode cX12_init 562 = .ok (.newarray .int, 2) := getB' kX12_init_22 6 rfl
theorem dX12_init_564 : decode cX12_init 564 = .ok (.putfield 214, 3) := getB' kX12_init_22 7 rfl
theorem dX12_init_567 : decode cX12_init 567 = .ok (.aload_n 0, 1) := getB' kX12_init_22 8 rfl
theorem dX12_init_568 : decode cX12_init 568 = .ok (.bipush 10, 2) := getB' kX12_init_22 9 rfl
theorem dX12_init_570 : decode cX12_init 570 = .ok (.newarray .int, 2) := getB' kX12_init_22 10 rfl
theorem dX12_init_572 : decode cX12_init 572 = .ok (.putfield 217, 3) := getB' kX12_init_22 11 rfl
def LX12_init_23 : List (Nat × Instr × Nat) := [(575, .aload_n 0, 1), (576, .bipush 10, 2), (578, .newarray .int, 2), (580, .putfield 220, 3), (583, .aload_n 0, 1), (584, .bipush 10, 2), (586, .newarray .int, 2), (588, .putfield 223, 3), (591, .aload_n 0, 1), (592, .bipush 10, 2), (594, .newarray .int, 2), (596, .putfield 226, 3)]
theorem kX12_init_23 : chkB cX12_init LX12_init_23 = true := by decide +kernel
theorem dX12_init_575 : decode cX12_init 575 = .ok (.aload_n 0, 1) := getB' kX12_init_23 0 rfl
theorem dX12_init_576 : decode cX12_init 576 = .ok (.bipush 10, 2) := getB' kX12_init_23 1 rfl
theorem dX12_init_578 : decode cX12_init 578 = .ok (.newarray .int, 2) := getB' kX12_init_23 2 rfl
theorem dX12_init_580 : decode cX12_init 580 = .ok (.putfield 220, 3) := getB' kX12_init_23 3 rfl
theorem dX12_init_583 : decode cX12_init 583 = .ok (.aload_n 0, 1) := getB' kX12_init_23 4 rfl
theorem dX12_init_584 : decode cX12_init 584 = .ok (.bipush 10, 2) := getB' kX12_init_23 5 rfl
theorem dX12_init_586 : decode cX12_init 586 = .ok (.newarray .int, 2) := getB' kX12_init_23 6 rfl
theorem dX12_init_588 : decode cX12_init 588 = .ok (.putfield 223, 3) := getB' kX12_init_23 7 rfl
theorem dX12_init_591 : decode cX12_init 591 = .ok (.aload_n 0, 1) := getB' kX12_init_23 8 rfl
theorem dX12_init_592 : decode cX12_init 592 = .ok (.bipush 10, 2) := getB' kX12_init_23 9 rfl
theorem dX12_init_594 : decode cX12_init 594 = .ok (.newarray .int, 2) := getB' kX12_init_23 10 rfl
theorem dX12_init_596 : decode cX12_init 596 = .ok (.putfield 226, 3) := getB' kX12_init_23 11 rfl
def LX12_init_24 : List (Nat × Instr × Nat) := [(599, .aload_n 0, 1), (600, .bipush 10, 2), (602, .newarray .int, 2), (604, .putfield 229, 3), (607, .aload_n 0, 1), (608, .bipush 10, 2), (610, .newarray .int, 2), (612, .putfield 232, 3), (615, .aload_n 0, 1), (616, .bipush 10, 2), (618, .newarray .int, 2), (620, .putfield 235, 3)]
theorem kX12_init_24 : chkB cX12_init LX12_init_24 = true := by decide +kernel
theorem dX12_init_599 : decode cX12_init 599 = .ok (.aload_n 0, 1) := getB' kX12_init_24 0 rfl
theorem dX12_init_600 : decode cX12_init 600 = .ok (.bipush 10, 2) := getB' kX12_init_24 1 rfl
theorem dX12_init_602 : decode cX12_init 602 = .ok (.newarray .int, 2) := getB' kX12_init_24 2 rfl
theorem dX12_init_604 : decode cX12_init 604 = .ok (.putfield 229, 3) := getB' kX12_init_24 3 rfl
theorem dX12_init_607 : decode cX12_init 607 = .ok (.aload_n 0, 1) := getB' kX12_init_24 4 rfl
theorem dX12_init_608 : decode cX12_init 608 = .ok (.bipush 10, 2) := getB' kX12_init_24 5 rfl
theorem dX12_init_610 : decode cX12_init 610 = .ok (.newarray .int, 2) := getB' kX12_init_24 6 rfl
theorem dX12_init_612 : decode cX12_init 612 = .ok (.putfield 232, 3) := getB' kX12_init_24 7 rfl
theorem dX12_init_615 : decode cX12_init 615 = .ok (.aload_n 0, 1) := getB' kX12_init_24 8 rfl
theorem dX12_init_616 : decode cX12_init 616 = .ok (.bipush 10, 2) := getB' kX12_init_24 9 rfl
theorem dX12_init_618 : decode cX12_init 618 = .ok (.newarray .int, 2) := getB' kX12_init_24 10 rfl
theorem dX12_init_620 : decode cX12_init 620 = .ok (.putfield 235, 3) := getB' kX12_init_24 11 rfl
def LX12_init_25 : List (Nat × Instr × Nat) := [(623, .aload_n 0, 1), (624, .bipush 10, 2), (626, .newarray .int, 2), (628, .putfield 238, 3), (631, .aload_n 0, 1), (632, .bipush 48, 2), (634, .newarray .int, 2), (636, .putfield 241, 3), (639, .aload_n 0, 1), (640, .iconst 4, 1), (641, .newarray .int, 2), (643, .putfield 244, 3)]
theorem kX12_init_25 : chkB cX12_init LX12_init_25 = true := by decide +kernel
theorem dX12_init_623 : decode cX12_init 623 = .ok (.aload_n 0, 1) := getB' kX12_init_25 0 rfl
theorem dX12_init_624 : decode cX12_init 624 = .ok (.bipush 10, 2) := getB' kX12_init_25 1 rfl
theorem dX12_init_626 : decode cX12_init 626 = .ok (.newarray .int, 2) := getB' kX12_init_25 2 rfl
theorem dX12_init_628 : decode cX12_init 628 = .ok (.putfield 238, 3) := getB' kX12_init_25 3 rfl
theorem dX12_init_631 : decode cX12_init 631 = .ok (.aload_n 0, 1) := getB' kX12_init_25 4 rfl
theorem dX12_init_632 : decode cX12_init 632 = .ok (.bipush 48, 2) := getB' kX12_init_25 5 rfl
theorem dX12_init_634 : decode cX12_init 634 = .ok (.newarray .int, 2) := getB' kX12_init_25 6 rfl
theorem dX12_init_636 : decode cX12_init 636 = .ok (.putfield 241, 3) := getB' kX12_init_25 7 rfl
theorem dX12_init_639 : decode cX12_init 639 = .ok (.aload_n 0, 1) := getB' kX12_init_25 8 rfl
theorem dX12_init_640 : decode cX12_init 640 = .ok (.iconst 4, 1) := getB' kX12_init_25 9 rfl
theorem dX12_init_641 : decode cX12_init 641 = .ok (.newarray .int, 2) := getB' kX12_init_25 10 rfl
theorem dX12_init_643 : decode cX12_init 643 = .ok (.putfield 244, 3) := getB' kX12_init_25 11 rfl
def LX12_init_26 : List (Nat × Instr × Nat) := [(646, .aload_n 0, 1), (647, .bipush 40, 2), (649, .newarray .int, 2), (651, .putfield 247, 3), (654, .aload_n 0, 1), (655, .bipush 40, 2), (657, .newarray .int, 2), (659, .putfield 250, 3), (662, .aload_n 0, 1), (663, .bipush 40, 2), (665, .newarray .int, 2), (667, .putfield 253, 3)]
theorem kX12_init_26 : chkB cX12_init LX12_init_26 = true := by decide +kernel
theorem dX12_init_646 : decode cX12_init 646 = .ok (.aload_n 0, 1) := getB' kX12_init_26 0 rfl
theorem dX12_init_647 : decode cX12_init 647 = .ok (.bipush 40, 2) := getB' kX12_init_26 1 rfl
theorem dX12_init_649 : decode cX12_init 649 = .ok (.newarray .int, 2) := getB' kX12_init_26 2 rfl
theorem dX12_init_651 : decode cX12_init 651 = .ok (.putfield 247, 3) := getB' kX12_init_26 3 rfl
theorem dX12_init_654 : decode cX12_init 654 = .ok (.aload_n 0, 1) := getB' kX12_init_26 4 rfl
theorem dX12_init_655 : decode cX12_init 655 = .ok (.bipush 40, 2) := getB' kX12_init_26 5 rfl
theorem dX12_init_657 : decode cX12_init 657 = .ok (.newarray .int, 2) := getB' kX12_init_26 6 rfl
theorem dX12_init_659 : decode cX12_init 659 = .ok (.putfield 250, 3) := getB' kX12_init_26 7 rfl
theorem dX12_init_662 : decode cX12_init 662 = .ok (.aload_n 0, 1) := getB' kX12_init_26 8 rfl
theorem dX12_init_663 : decode cX12_init 663 = .ok (.bipush 40, 2) := getB' kX12_init_26 9 rfl
theorem dX12_init_665 : decode cX12_init 665 = .ok (.newarray .int, 2) := getB' kX12_init_26 10 rfl
theorem dX12_init_667 : decode cX12_init 667 = .ok (.putfield 253, 3) := getB' kX12_init_26 11 rfl
def LX12_init_27 : List (Nat × Instr × Nat) := [(670, .aload_n 0, 1), (671, .bipush 40, 2), (673, .newarray .int, 2), (675, .putfield 256, 3), (678, .aload_n 0, 1), (679, .bipush 40, 2), (681, .newarray .boolean, 2), (683, .putfield 259, 3), (686, .aload_n 0, 1), (687, .bipush 60, 2), (689, .newarray .int, 2), (691, .putfield 262, 3)]
theorem kX12_init_27 : chkB cX12_init LX12_init_27 = true := by decide +kernel
theorem dX12_init_670 : decode cX12_init 670 = .ok (.aload_n 0, 1) := getB' kX12_init_27 0 rfl
theorem dX12_init_671 : decode cX12_init 671 = .ok (.bipush 40, 2) := getB' kX12_init_27 1 rfl
theorem dX12_init_673 : decode cX12_init 673 = .ok (.newarray .int, 2) := getB' kX12_init_27 2 rfl
theorem dX12_init_675 : decode cX12_init 675 = .ok (.putfield 256, 3) := getB' kX12_init_27 3 rfl
theorem dX12_init_678 : decode cX12_init 678 = .ok (.aload_n 0, 1) := getB' kX12_init_27 4 rfl
theorem dX12_init_679 : decode cX12_init 679 = .ok (.bipush 40, 2) := getB' kX12_init_27 5 rfl
theorem dX12_init_681 : decode cX12_init 681 = .ok (.newarray .boolean, 2) := getB' kX12_init_27 6 rfl
theorem dX12_init_683 : decode cX12_init 683 = .ok (.putfield 259, 3) := getB' kX12_init_27 7 rfl
theorem dX12_init_686 : decode cX12_init 686 = .ok (.aload_n 0, 1) := getB' kX12_init_27 8 rfl
theorem dX12_init_687 : decode cX12_init 687 = .ok (.bipush 60, 2) := getB' kX12_init_27 9 rfl
theorem dX12_init_689 : decode cX12_init 689 = .ok (.newarray .int, 2) := getB' kX12_init_27 10 rfl
theorem dX12_init_691 : decode cX12_init 691 = .ok (.putfield 262, 3) := getB' kX12_init_27 11 rfl
def LX12_init_28 : List (Nat × Instr × Nat) := [(694, .aload_n 0, 1), (695, .bipush 60, 2), (697, .newarray .int, 2), (699, .putfield 265, 3), (702, .aload_n 0, 1), (703, .bipush 60, 2), (705, .newarray .int, 2), (707, .putfield 268, 3), (710, .aload_n 0, 1), (711, .bipush 60, 2), (713, .newarray .int, 2), (715, .putfield 271, 3)]
theorem kX12_init_28 : chkB cX12_init LX12_init_28 = true := by decide +kernel
theorem dX12_init_694 : decode cX12_init 694 = .ok (.aload_n 0, 1) := getB' kX12_init_28 0 rfl
theorem dX12_init_695 : decode cX12_init 695 = .ok (.bipush 60, 2) := getB' kX12_init_28 1 rfl
theorem dX12_init_697 : decode cX12_init 697 = .ok (.newarray .int, 2) := getB' kX12_init_28 2 rfl
theorem dX12_init_699 : decode cX12_init 699 = .ok (.putfield 265, 3) := getB' kX12_init_28 3 rfl
theorem dX12_init_702 : decode cX12_init 702 = .ok (.aload_n 0, 1) := getB' kX12_init_28 4 rfl
theorem dX12_init_703 : decode cX12_init 703 = .ok (.bipush 60, 2) := getB' kX12_init_28 5 rfl
theorem dX12_init_705 : decode cX12_init 705 = .ok (.newarray .int, 2) := getB' kX12_init_28 6 rfl
theorem dX12_init_707 : decode cX12_init 707 = .ok (.putfield 268, 3) := getB' kX12_init_28 7 rfl
theorem dX12_init_710 : decode cX12_init 710 = .ok (.aload_n 0, 1) := getB' kX12_init_28 8 rfl
theorem dX12_init_711 : decode cX12_init 711 = .ok (.bipush 60, 2) := getB' kX12_init_28 9 rfl
theorem dX12_init_713 : decode cX12_init 713 = .ok (.newarray .int, 2) := getB' kX12_init_28 10 rfl
theorem dX12_init_715 : decode cX12_init 715 = .ok (.putfield 271, 3) := getB' kX12_init_28 11 rfl
def LX12_init_29 : List (Nat × Instr × Nat) := [(718, .aload_n 0, 1), (719, .bipush 60, 2), (721, .newarray .int, 2), (723, .putfield 274, 3), (726, .aload_n 0, 1), (727, .sipush 144, 3), (730, .newarray .int, 2), (732, .putfield 277, 3), (735, .aload_n 0, 1), (736, .bipush 100, 2), (738, .putfield 280, 3), (741, .aload_n 0, 1)]
theorem kX12_init_29 : chkB cX12_init LX12_init_29 = true := by decide +kernel
theorem dX12_init_718 : decode cX12_init 718 = .ok (.aload_n 0, 1) := getB' kX12_init_29 0 rfl
theorem dX12_init_719 : decode cX12_init 719 = .ok (.bipush 60, 2) := getB' kX12_init_29 1 rfl
theorem dX12_init_721 : decode cX12_init 721 = .ok (.newarray .int, 2) := getB' kX12_init_29 2 rfl
theorem dX12_init_723 : decode cX12_init 723 = .ok (.putfield 274, 3) := getB' kX12_init_29 3 rfl
theorem dX12_init_726 : decode cX12_init 726 = .ok (.aload_n 0, 1) := getB' kX12_init_29 4 rfl
theorem dX12_init_727 : decode cX12_init 727 = .ok (.sipush 144, 3) := getB' kX12_init_29 5 rfl
theorem dX12_init_730 : decode cX12_init 730 = .ok (.newarray .int, 2) := getB' kX12_init_29 6 rfl
theorem dX12_init_732 : decode cX12_init 732 = .ok (.putfield 277, 3) := getB' kX12_init_29 7 rfl
theorem dX12_init_735 : decode cX12_init 735 = .ok (.aload_n 0, 1) := getB' kX12_init_29 8 rfl
theorem dX12_init_736 : decode cX12_init 736 = .ok (.bipush 100, 2) := getB' kX12_init_29 9 rfl
theorem dX12_init_738 : decode cX12_init 738 = .ok (.putfield 280, 3) := getB' kX12_init_29 10 rfl
theorem dX12_init_741 : decode cX12_init 741 = .ok (.aload_n 0, 1) := getB' kX12_init_29 11 rfl
def LX12_init_30 : List (Nat × Instr × Nat) := [(742, .bipush 60, 2), (744, .newarray .int, 2), (746, .putfield 283, 3), (749, .aload_n 0, 1), (750, .sipush 480, 3), (753, .newarray .int, 2), (755, .putfield 286, 3), (758, .aload_n 0, 1), (759, .sipush 480, 3), (762, .newarray .int, 2), (764, .putfield 289, 3), (767, .aload_n 0, 1)]
theorem kX12_init_30 : chkB cX12_init LX12_init_30 = true := by decide +kernel
theorem dX12_init_742 : decode cX12_init 742 = .ok (.bipush 60, 2) := getB' kX12_init_30 0 rfl
theorem dX12_init_744 : decode cX12_init 744 = .ok (.newarray .int, 2) := getB' kX12_init_30 1 rfl
theorem dX12_init_746 : decode cX12_init 746 = .ok (.putfield 283, 3) := getB' kX12_init_30 2 rfl
theorem dX12_init_749 : decode cX12_init 749 = .ok (.aload_n 0, 1) := getB' kX12_init_30 3 rfl
theorem dX12_init_750 : decode cX12_init 750 = .ok (.sipush 480, 3) := getB' kX12_init_30 4 rfl
theorem dX12_init_753 : decode cX12_init 753 = .ok (.newarray .int, 2) := getB' kX12_init_30 5 rfl
theorem dX12_init_755 : decode cX12_init 755 = .ok (.putfield 286, 3) := getB' kX12_init_30 6 rfl
theorem dX12_init_758 : decode cX12_init 758 = .ok (.aload_n 0, 1) := getB' kX12_init_30 7 rfl
theorem dX12_init_759 : decode cX12_init 759 = .ok (.sipush 480, 3) := getB' kX12_init_30 8 rfl
theorem dX12_init_762 : decode cX12_init 762 = .ok (.newarray .int, 2) := getB' kX12_init_30 9 rfl
theorem dX12_init_764 : decode cX12_init 764 = .ok (.putfield 289, 3) := getB' kX12_init_30 10 rfl
theorem dX12_init_767 : decode cX12_init 767 = .ok (.aload_n 0, 1) := getB' kX12_init_30 11 rfl
def LX12_init_31 : List (Nat × Instr × Nat) := [(768, .bipush 10, 2), (770, .newarray .int, 2), (772, .putfield 292, 3), (775, .aload_n 0, 1), (776, .bipush 10, 2), (778, .newarray .int, 2), (780, .putfield 295, 3), (783, .aload_n 0, 1), (784, .bipush 10, 2), (786, .newarray .int, 2), (788, .putfield 298, 3), (791, .aload_n 0, 1)]
theorem kX12_init_31 : chkB cX12_init LX12_init_31 = true := by decide +kernel
theorem dX12_init_768 : decode cX12_init 768 = .ok (.bipush 10, 2) := getB' kX12_init_31 0 rfl
theorem dX12_init_770 : decode cX12_init 770 = .ok (.newarray .int, 2) := getB' kX12_init_31 1 rfl
theorem dX12_init_772 : decode cX12_init 772 = .ok (.putfield 292, 3) := getB' kX12_init_31 2 rfl
theorem dX12_init_775 : decode cX12_init 775 = .ok (.aload_n 0, 1) := getB' kX12_init_31 3 rfl
theorem dX12_init_776 : decode cX12_init 776 = .ok (.bipush 10, 2) := getB' kX12_init_31 4 rfl
theorem dX12_init_778 : decode cX12_init 778 = .ok (.newarray .int, 2) := getB' kX12_init_31 5 rfl
theorem dX12_init_780 : decode cX12_init 780 = .ok (.putfield 295, 3) := getB' kX12_init_31 6 rfl
theorem dX12_init_783 : decode cX12_init 783 = .ok (.aload_n 0, 1) := getB' kX12_init_31 7 rfl
theorem dX12_init_784 : decode cX12_init 784 = .ok (.bipush 10, 2) := getB' kX12_init_31 8 rfl
theorem dX12_init_786 : decode cX12_init 786 = .ok (.newarray .int, 2) := getB' kX12_init_31 9 rfl
theorem dX12_init_788 : decode cX12_init 788 = .ok (.putfield 298, 3) := getB' kX12_init_31 10 rfl
theorem dX12_init_791 : decode cX12_init 791 = .ok (.aload_n 0, 1) := getB' kX12_init_31 11 rfl
def LX12_init_32 : List (Nat × Instr × Nat) := [(792, .bipush 10, 2), (794, .newarray .int, 2), (796, .putfield 301, 3), (799, .aload_n 0, 1), (800, .sipush 200, 3), (803, .newarray .int, 2), (805, .putfield 304, 3), (808, .aload_n 0, 1), (809, .sipush 200, 3), (812, .newarray .int, 2), (814, .putfield 307, 3), (817, .aload_n 0, 1)]
theorem kX12_init_32 : chkB cX12_init LX12_init_32 = true := by decide +kernel
theorem dX12_init_792 : decode cX12_init 792 = .ok (.bipush 10, 2) := getB' kX12_init_32 0 rfl
theorem dX12_init_794 : decode cX12_init 794 = .ok (.newarray .int, 2) := getB' kX12_init_32 1 rfl
theorem dX12_init_796 : decode cX12_init 796 = .ok (.putfield 301, 3) := getB' kX12_init_32 2 rfl
theorem dX12_init_799 : decode cX12_init 799 = .ok (.aload_n 0, 1) := getB' kX12_init_32 3 rfl
theorem dX12_init_800 : decode cX12_init 800 = .ok (.sipush 200, 3) := getB' kX12_init_32 4 rfl
theorem dX12_init_803 : decode cX12_init 803 = .ok (.newarray .int, 2) := getB' kX12_init_32 5 rfl
theorem dX12_init_805 : decode cX12_init 805 = .ok (.putfield 304, 3) := getB' kX12_init_32 6 rfl
theorem dX12_init_808 : decode cX12_init 808 = .ok (.aload_n 0, 1) := getB' kX12_init_32 7 rfl
theorem dX12_init_809 : decode cX12_init 809 = .ok (.sipush 200, 3) := getB' kX12_init_32 8 rfl
theorem dX12_init_812 : decode cX12_init 812 = .ok (.newarray .int, 2) := getB' kX12_init_32 9 rfl
theorem dX12_init_814 : decode cX12_init 814 = .ok (.putfield 307, 3) := getB' kX12_init_32 10 rfl
theorem dX12_init_817 : decode cX12_init 817 = .ok (.aload_n 0, 1) := getB' kX12_init_32 11 rfl
def LX12_init_33 : List (Nat × Instr × Nat) := [(818, .sipush 200, 3), (821, .newarray .int, 2), (823, .putfield 310, 3), (826, .aload_n 0, 1), (827, .sipush 200, 3), (830, .newarray .int, 2), (832, .putfield 313, 3), (835, .aload_n 0, 1), (836, .sipush 200, 3), (839, .newarray .int, 2), (841, .putfield 316, 3), (844, .aload_n 0, 1)]
theorem kX12_init_33 : chkB cX12_init LX12_init_33 = true := by decide +kernel
theorem dX12_init_818 : decode cX12_init 818 = .ok (.sipush 200, 3) := getB' kX12_init_33 0 rfl
theorem dX12_init_821 : decode cX12_init 821 = .ok (.newarray .int, 2) := getB' kX12_init_33 1 rfl
theorem dX12_init_823 : decode cX12_init 823 = .ok (.putfield 310, 3) := getB' kX12_init_33 2 rfl
theorem dX12_init_826 : decode cX12_init 826 = .ok (.aload_n 0, 1) := getB' kX12_init_33 3 rfl
theorem dX12_init_827 : decode cX12_init 827 = .ok (.sipush 200, 3) := getB' kX12_init_33 4 rfl
theorem dX12_init_830 : decode cX12_init 830 = .ok (.newarray .int, 2) := getB' kX12_init_33 5 rfl
theorem dX12_init_832 : decode cX12_init 832 = .ok (.putfield 313, 3) := getB' kX12_init_33 6 rfl
theorem dX12_init_835 : decode cX12_init 835 = .ok (.aload_n 0, 1) := getB' kX12_init_33 7 rfl
theorem dX12_init_836 : decode cX12_init 836 = .ok (.sipush 200, 3) := getB' kX12_init_33 8 rfl
theorem dX12_init_839 : decode cX12_init 839 = .ok (.newarray .int, 2) := getB' kX12_init_33 9 rfl
theorem dX12_init_841 : decode cX12_init 841 = .ok (.putfield 316, 3) := getB' kX12_init_33 10 rfl
theorem dX12_init_844 : decode cX12_init 844 = .ok (.aload_n 0, 1) := getB' kX12_init_33 11 rfl
def LX12_init_34 : List (Nat × Instr × Nat) := [(845, .bipush 7, 2), (847, .newarray .int, 2), (849, .putfield 319, 3), (852, .aload_n 0, 1), (853, .bipush 63, 2), (855, .newarray .boolean, 2), (857, .putfield 322, 3), (860, .aload_n 0, 1), (861, .sipush 441, 3), (864, .newarray .boolean, 2), (866, .putfield 325, 3), (869, .aload_n 0, 1)]
theorem kX12_init_34 : chkB cX12_init LX12_init_34 = true := by decide +kernel
theorem dX12_init_845 : decode cX12_init 845 = .ok (.bipush 7, 2) := getB' kX12_init_34 0 rfl
theorem dX12_init_847 : decode cX12_init 847 = .ok (.newarray .int, 2) := getB' kX12_init_34 1 rfl
theorem dX12_init_849 : decode cX12_init 849 = .ok (.putfield 319, 3) := getB' kX12_init_34 2 rfl
theorem dX12_init_852 : decode cX12_init 852 = .ok (.aload_n 0, 1) := getB' kX12_init_34 3 rfl
theorem dX12_init_853 : decode cX12_init 853 = .ok (.bipush 63, 2) := getB' kX12_init_34 4 rfl
theorem dX12_init_855 : decode cX12_init 855 = .ok (.newarray .boolean, 2) := getB' kX12_init_34 5 rfl
theorem dX12_init_857 : decode cX12_init 857 = .ok (.putfield 322, 3) := getB' kX12_init_34 6 rfl
theorem dX12_init_860 : decode cX12_init 860 = .ok (.aload_n 0, 1) := getB' kX12_init_34 7 rfl
theorem dX12_init_861 : decode cX12_init 861 = .ok (.sipush 441, 3) := getB' kX12_init_34 8 rfl
theorem dX12_init_864 : decode cX12_init 864 = .ok (.newarray .boolean, 2) := getB' kX12_init_34 9 rfl
theorem dX12_init_866 : decode cX12_init 866 = .ok (.putfield 325, 3) := getB' kX12_init_34 10 rfl
theorem dX12_init_869 : decode cX12_init 869 = .ok (.aload_n 0, 1) := getB' kX12_init_34 11 rfl
def LX12_init_35 : List (Nat × Instr × Nat) := [(870, .bipush 8, 2), (872, .newarray .int, 2), (874, .putfield 328, 3), (877, .aload_n 0, 1), (878, .bipush 8, 2), (880, .newarray .int, 2), (882, .putfield 331, 3), (885, .aload_n 0, 1), (886, .bipush 24, 2), (888, .newarray .int, 2), (890, .putfield 334, 3), (893, .aload_n 0, 1)]
theorem kX12_init_35 : chkB cX12_init LX12_init_35 = true := by decide +kernel
theorem dX12_init_870 : decode cX12_init 870 = .ok (.bipush 8, 2) := getB' kX12_init_35 0 rfl
theorem dX12_init_872 : decode cX12_init 872 = .ok (.newarray .int, 2) := getB' kX12_init_35 1 rfl
theorem dX12_init_874 : decode cX12_init 874 = .ok (.putfield 328, 3) := getB' kX12_init_35 2 rfl
theorem dX12_init_877 : decode cX12_init 877 = .ok (.aload_n 0, 1) := getB' kX12_init_35 3 rfl
theorem dX12_init_878 : decode cX12_init 878 = .ok (.bipush 8, 2) := getB' kX12_init_35 4 rfl
theorem dX12_init_880 : decode cX12_init 880 = .ok (.newarray .int, 2) := getB' kX12_init_35 5 rfl
theorem dX12_init_882 : decode cX12_init 882 = .ok (.putfield 331, 3) := getB' kX12_init_35 6 rfl
theorem dX12_init_885 : decode cX12_init 885 = .ok (.aload_n 0, 1) := getB' kX12_init_35 7 rfl
theorem dX12_init_886 : decode cX12_init 886 = .ok (.bipush 24, 2) := getB' kX12_init_35 8 rfl
theorem dX12_init_888 : decode cX12_init 888 = .ok (.newarray .int, 2) := getB' kX12_init_35 9 rfl
theorem dX12_init_890 : decode cX12_init 890 = .ok (.putfield 334, 3) := getB' kX12_init_35 10 rfl
theorem dX12_init_893 : decode cX12_init 893 = .ok (.aload_n 0, 1) := getB' kX12_init_35 11 rfl
def LX12_init_36 : List (Nat × Instr × Nat) := [(894, .bipush 24, 2), (896, .newarray .int, 2), (898, .putfield 337, 3), (901, .aload_n 0, 1), (902, .bipush 8, 2), (904, .newarray .int, 2), (906, .putfield 340, 3), (909, .aload_n 0, 1), (910, .bipush 8, 2), (912, .newarray .int, 2), (914, .putfield 343, 3), (917, .aload_n 0, 1)]
theorem kX12_init_36 : chkB cX12_init LX12_init_36 = true := by decide +kernel
theorem dX12_init_894 : decode cX12_init 894 = .ok (.bipush 24, 2) := getB' kX12_init_36 0 rfl
theorem dX12_init_896 : decode cX12_init 896 = .ok (.newarray .int, 2) := getB' kX12_init_36 1 rfl
theorem dX12_init_898 : decode cX12_init 898 = .ok (.putfield 337, 3) := getB' kX12_init_36 2 rfl
theorem dX12_init_901 : decode cX12_init 901 = .ok (.aload_n 0, 1) := getB' kX12_init_36 3 rfl
theorem dX12_init_902 : decode cX12_init 902 = .ok (.bipush 8, 2) := getB' kX12_init_36 4 rfl
theorem dX12_init_904 : decode cX12_init 904 = .ok (.newarray .int, 2) := getB' kX12_init_36 5 rfl
theorem dX12_init_906 : decode cX12_init 906 = .ok (.putfield 340, 3) := getB' kX12_init_36 6 rfl
theorem dX12_init_909 : decode cX12_init 909 = .ok (.aload_n 0, 1) := getB' kX12_init_36 7 rfl
theorem dX12_init_910 : decode cX12_init 910 = .ok (.bipush 8, 2) := getB' kX12_init_36 8 rfl
theorem dX12_init_912 : decode cX12_init 912 = .ok (.newarray .int, 2) := getB' kX12_init_36 9 rfl
theorem dX12_init_914 : decode cX12_init 914 = .ok (.putfield 343, 3) := getB' kX12_init_36 10 rfl
theorem dX12_init_917 : decode cX12_init 917 = .ok (.aload_n 0, 1) := getB' kX12_init_36 11 rfl
def LX12_init_37 : List (Nat × Instr × Nat) := [(918, .sipush 200, 3), (921, .newarray .int, 2), (923, .putfield 346, 3), (926, .aload_n 0, 1), (927, .sipush 200, 3), (930, .newarray .int, 2), (932, .putfield 349, 3), (935, .aload_n 0, 1), (936, .sipush 200, 3), (939, .newarray .int, 2), (941, .putfield 352, 3), (944, .aload_n 0, 1)]
theorem kX12_init_37 : chkB cX12_init LX12_init_37 = true := by decide +kernel
theorem dX12_init_918 : decode cX12_init 918 = .ok (.sipush 200, 3) := getB' kX12_init_37 0 rfl
theorem dX12_init_921 : decode cX12_init 921 = .ok (.newarray .int, 2) := getB' kX12_init_37 1 rfl
theorem dX12_init_923 : decode cX12_init 923 = .ok (.putfield 346, 3) := getB' kX12_init_37 2 rfl
theorem dX12_init_926 : decode cX12_init 926 = .ok (.aload_n 0, 1) := getB' kX12_init_37 3 rfl
theorem dX12_init_927 : decode cX12_init 927 = .ok (.sipush 200, 3) := getB' kX12_init_37 4 rfl
theorem dX12_init_930 : decode cX12_init 930 = .ok (.newarray .int, 2) := getB' kX12_init_37 5 rfl
theorem dX12_init_932 : decode cX12_init 932 = .ok (.putfield 349, 3) := getB' kX12_init_37 6 rfl
theorem dX12_init_935 : decode cX12_init 935 = .ok (.aload_n 0, 1) := getB' kX12_init_37 7 rfl
theorem dX12_init_936 : decode cX12_init 936 = .ok (.sipush 200, 3) := getB' kX12_init_37 8 rfl
theorem dX12_init_939 : decode cX12_init 939 = .ok (.newarray .int, 2) := getB' kX12_init_37 9 rfl
theorem dX12_init_941 : decode cX12_init 941 = .ok (.putfield 352, 3) := getB' kX12_init_37 10 rfl
theorem dX12_init_944 : decode cX12_init 944 = .ok (.aload_n 0, 1) := getB' kX12_init_37 11 rfl
def LX12_init_38 : List (Nat × Instr × Nat) := [(945, .sipush 200, 3), (948, .newarray .int, 2), (950, .putfield 355, 3), (953, .aload_n 0, 1), (954, .sipush 200, 3), (957, .newarray .boolean, 2), (959, .putfield 358, 3), (962, .aload_n 0, 1), (963, .bipush 8, 2), (965, .bipush 8, 2), (967, .invokevirtual 361, 3), (970, .iconst 0, 1)]
theorem kX12_init_38 : chkB cX12_init LX12_init_38 = true := by decide +kernel
theorem dX12_init_945 : decode cX12_init 945 = .ok (.sipush 200, 3) := getB' kX12_init_38 0 rfl
theorem dX12_init_948 : decode cX12_init 948 = .ok (.newarray .int, 2) := getB' kX12_init_38 1 rfl
theorem dX12_init_950 : decode cX12_init 950 = .ok (.putfield 355, 3) := getB' kX12_init_38 2 rfl
theorem dX12_init_953 : decode cX12_init 953 = .ok (.aload_n 0, 1) := getB' kX12_init_38 3 rfl
theorem dX12_init_954 : decode cX12_init 954 = .ok (.sipush 200, 3) := getB' kX12_init_38 4 rfl
theorem dX12_init_957 : decode cX12_init 957 = .ok (.newarray .boolean, 2) := getB' kX12_init_38 5 rfl
theorem dX12_init_959 : decode cX12_init 959 = .ok (.putfield 358, 3) := getB' kX12_init_38 6 rfl
theorem dX12_init_962 : decode cX12_init 962 = .ok (.aload_n 0, 1) := getB' kX12_init_38 7 rfl
theorem dX12_init_963 : decode cX12_init 963 = .ok (.bipush 8, 2) := getB' kX12_init_38 8 rfl
theorem dX12_init_965 : decode cX12_init 965 = .ok (.bipush 8, 2) := getB' kX12_init_38 9 rfl
theorem dX12_init_967 : decode cX12_init 967 = .ok (.invokevirtual 361, 3) := getB' kX12_init_38 10 rfl
theorem dX12_init_970 : decode cX12_init 970 = .ok (.iconst 0, 1) := getB' kX12_init_38 11 rfl
def LX12_init_39 : List (Nat × Instr × Nat) := [(971, .istore_n 1, 1), (972, .iload_n 1, 1), (973, .iconst 4, 1), (974, .if_icmp .ge 17, 3), (977, .aload_n 0, 1), (978, .getfield 244, 3), (981, .iload_n 1, 1), (982, .bipush 10, 2), (984, .iastore, 1), (985, .iinc 1 1, 3), (988, .goto (-16), 3), (991, .iconst 0, 1)]
theorem kX12_init_39 : chkB cX12_init LX12_init_39 = true := by decide +kernel
theorem dX12_init_971 : decode cX12_init 971 = .ok (.istore_n 1, 1) := getB' kX12_init_39 0 rfl
theorem dX12_init_972 : decode cX12_init 972 = .ok (.iload_n 1, 1) := getB' kX12_init_39 1 rfl
theorem dX12_init_973 : decode cX12_init 973 = .ok (.iconst 4, 1) := getB' kX12_init_39 2 rfl
theorem dX12_init_974 : decode cX12_init 974 = .ok (.if_icmp .ge 17, 3) := getB' kX12_init_39 3 rfl
theorem dX12_init_977 : decode cX12_init 977 = .ok (.aload_n 0, 1) := getB' kX12_init_39 4 rfl
theorem dX12_init_978 : decode cX12_init 978 = .ok (.getfield 244, 3) := getB' kX12_init_39 5 rfl
theorem dX12_init_981 : decode cX12_init 981 = .ok (.iload_n 1, 1) := getB' kX12_init_39 6 rfl
theorem dX12_init_982 : decode cX12_init 982 = .ok (.bipush 10, 2) := getB' kX12_init_39 7 rfl
theorem dX12_init_984 : decode cX12_init 984 = .ok (.iastore, 1) := getB' kX12_init_39 8 rfl
theorem dX12_init_985 : decode cX12_init 985 = .ok (.iinc 1 1, 3) := getB' kX12_init_39 9 rfl
theorem dX12_init_988 : decode cX12_init 988 = .ok (.goto (-16), 3) := getB' kX12_init_39 10 rfl
theorem dX12_init_991 : decode cX12_init 991 = .ok (.iconst 0, 1) := getB' kX12_init_39 11 rfl
def LX12_init_40 : List (Nat × Instr × Nat) := [(992, .istore_n 1, 1), (993, .iload_n 1, 1), (994, .bipush 10, 2), (996, .if_icmp .ge 17, 3), (999, .aload_n 0, 1), (1000, .getfield 301, 3), (1003, .iload_n 1, 1), (1004, .bipush 50, 2), (1006, .iastore, 1), (1007, .iinc 1 1, 3), (1010, .goto (-17), 3), (1013, .iconst 0, 1)]
theorem kX12_init_40 : chkB cX12_init LX12_init_40 = true := by decide +kernel
theorem dX12_init_992 : decode cX12_init 992 = .ok (.istore_n 1, 1) := getB' kX12_init_40 0 rfl
theorem dX12_init_993 : decode cX12_init 993 = .ok (.iload_n 1, 1) := getB' kX12_init_40 1 rfl
theorem dX12_init_994 : decode cX12_init 994 = .ok (.bipush 10, 2) := getB' kX12_init_40 2 rfl
theorem dX12_init_996 : decode cX12_init 996 = .ok (.if_icmp .ge 17, 3) := getB' kX12_init_40 3 rfl
theorem dX12_init_999 : decode cX12_init 999 = .ok (.aload_n 0, 1) := getB' kX12_init_40 4 rfl
theorem dX12_init_1000 : decode cX12_init 1000 = .ok (.getfield 301, 3) := getB' kX12_init_40 5 rfl
theorem dX12_init_1003 : decode cX12_init 1003 = .ok (.iload_n 1, 1) := getB' kX12_init_40 6 rfl
theorem dX12_init_1004 : decode cX12_init 1004 = .ok (.bipush 50, 2) := getB' kX12_init_40 7 rfl
theorem dX12_init_1006 : decode cX12_init 1006 = .ok (.iastore, 1) := getB' kX12_init_40 8 rfl
theorem dX12_init_1007 : decode cX12_init 1007 = .ok (.iinc 1 1, 3) := getB' kX12_init_40 9 rfl
theorem dX12_init_1010 : decode cX12_init 1010 = .ok (.goto (-17), 3) := getB' kX12_init_40 10 rfl
theorem dX12_init_1013 : decode cX12_init 1013 = .ok (.iconst 0, 1) := getB' kX12_init_40 11 rfl
def LX12_init_41 : List (Nat × Instr × Nat) := [(1014, .istore_n 1, 1), (1015, .iload_n 1, 1), (1016, .bipush 24, 2), (1018, .if_icmp .ge 18, 3), (1021, .aload_n 0, 1), (1022, .getfield 337, 3), (1025, .iload_n 1, 1), (1026, .sipush 359, 3), (1029, .iastore, 1), (1030, .iinc 1 1, 3), (1033, .goto (-18), 3), (1036, .iconst 0, 1)]
theorem kX12_init_41 : chkB cX12_init LX12_init_41 = true := by decide +kernel
theorem dX12_init_1014 : decode cX12_init 1014 = .ok (.istore_n 1, 1) := getB' kX12_init_41 0 rfl
theorem dX12_init_1015 : decode cX12_init 1015 = .ok (.iload_n 1, 1) := getB' kX12_init_41 1 rfl
theorem dX12_init_1016 : decode cX12_init 1016 = .ok (.bipush 24, 2) := getB' kX12_init_41 2 rfl
theorem dX12_init_1018 : decode cX12_init 1018 = .ok (.if_icmp .ge 18, 3) := getB' kX12_init_41 3 rfl
theorem dX12_init_1021 : decode cX12_init 1021 = .ok (.aload_n 0, 1) := getB' kX12_init_41 4 rfl
theorem dX12_init_1022 : decode cX12_init 1022 = .ok (.getfield 337, 3) := getB' kX12_init_41 5 rfl
theorem dX12_init_1025 : decode cX12_init 1025 = .ok (.iload_n 1, 1) := getB' kX12_init_41 6 rfl
theorem dX12_init_1026 : decode cX12_init 1026 = .ok (.sipush 359, 3) := getB' kX12_init_41 7 rfl
theorem dX12_init_1029 : decode cX12_init 1029 = .ok (.iastore, 1) := getB' kX12_init_41 8 rfl
theorem dX12_init_1030 : decode cX12_init 1030 = .ok (.iinc 1 1, 3) := getB' kX12_init_41 9 rfl
theorem dX12_init_1033 : decode cX12_init 1033 = .ok (.goto (-18), 3) := getB' kX12_init_41 10 rfl
theorem dX12_init_1036 : decode cX12_init 1036 = .ok (.iconst 0, 1) := getB' kX12_init_41 11 rfl
def LX12_init_42 : List (Nat × Instr × Nat) := [(1037, .istore_n 1, 1), (1038, .iload_n 1, 1), (1039, .sipush 600, 3), (1042, .if_icmp .ge 16, 3), (1045, .aload_n 0, 1), (1046, .getfield 77, 3), (1049, .iload_n 1, 1), (1050, .iconst (-1), 1), (1051, .iastore, 1), (1052, .iinc 1 1, 3), (1055, .goto (-17), 3), (1058, .return_, 1)]
theorem kX12_init_42 : chkB cX12_init LX12_init_42 = true := by decide +kernel
theorem dX12_init_1037 : decode cX12_init 1037 = .ok (.istore_n 1, 1) := getB' kX12_init_42 0 rfl
theorem dX12_init_1038 : decode cX12_init 1038 = .ok (.iload_n 1, 1) := getB' kX12_init_42 1 rfl
theorem dX12_init_1039 : decode cX12_init 1039 = .ok (.sipush 600, 3) := getB' kX12_init_42 2 rfl
theorem dX12_init_1042 : decode cX12_init 1042 = .ok (.if_icmp .ge 16, 3) := getB' kX12_init_42 3 rfl
theorem dX12_init_1045 : decode cX12_init 1045 = .ok (.aload_n 0, 1) := getB' kX12_init_42 4 rfl
theorem dX12_init_1046 : decode cX12_init 1046 = .ok (.getfield 77, 3) := getB' kX12_init_42 5 rfl
theorem dX12_init_1049 : decode cX12_init 1049 = .ok (.iload_n 1, 1) := getB' kX12_init_42 6 rfl
theorem dX12_init_1050 : decode cX12_init 1050 = .ok (.iconst (-1), 1) := getB' kX12_init_42 7 rfl
theorem dX12_init_1051 : decode cX12_init 1051 = .ok (.iastore, 1) := getB' kX12_init_42 8 rfl
theorem dX12_init_1052 : decode cX12_init 1052 = .ok (.iinc 1 1, 3) := getB' kX12_init_42 9 rfl
theorem dX12_init_1055 : decode cX12_init 1055 = .ok (.goto (-17), 3) := getB' kX12_init_42 10 rfl
theorem dX12_init_1058 : decode cX12_init 1058 = .ok (.return_, 1) := getB' kX12_init_42 11 rfl
