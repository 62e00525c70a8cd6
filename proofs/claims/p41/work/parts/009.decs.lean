def bX12_text_0 : List UInt8 := [27, 184, 1, 153, 153, 0, 42, 28, 27, 17, 14, 15, 184, 1, 115, 153, 0, 31, 29, 4, 17, 0, 200, 184, 1, 115, 153, 0, 20, 29, 42, 180]
theorem kX12_text_0 (j : Nat) {b : UInt8} (hj : bX12_text_0[j]? = some b) : AtB cX12_text (0 + j) b := at_of32 (by decide +kernel) j hj
def bX12_text_1 : List UInt8 := [1, 180, 163, 0, 12, 42, 180, 2, 23, 16, 20, 160, 0, 5, 2, 172, 42, 3, 181, 1, 187, 42, 29, 181, 1, 190, 42, 3, 181, 1, 210, 42]
theorem kX12_text_1 (j : Nat) {b : UInt8} (hj : bX12_text_1[j]? = some b) : AtB cX12_text (32 + j) b := at_of32 (by decide +kernel) j hj
def bX12_text_2 : List UInt8 := [3, 181, 2, 14, 42, 182, 2, 26, 54, 4, 21, 4, 153, 0, 40, 42, 180, 1, 187, 42, 180, 1, 190, 162, 0, 29, 42, 16, 59, 182, 2, 20]
theorem kX12_text_2 (j : Nat) {b : UInt8} (hj : bX12_text_2[j]? = some b) : AtB cX12_text (64 + j) b := at_of32 (by decide +kernel) j hj
def bX12_text_3 : List UInt8 := [153, 0, 14, 42, 182, 2, 26, 153, 0, 7, 4, 167, 0, 4, 3, 54, 4, 167, 255, 217, 42, 3, 181, 1, 180, 21, 4, 154, 0, 8, 42, 180]
theorem kX12_text_3 (j : Nat) {b : UInt8} (hj : bX12_text_3[j]? = some b) : AtB cX12_text (96 + j) b := at_of32 (by decide +kernel) j hj
def bX12_text_4 : List UInt8 := [1, 197, 172, 42, 180, 0, 118, 42, 180, 2, 23, 27, 79, 42, 180, 0, 121, 42, 180, 2, 23, 28, 79, 42, 180, 0, 115, 42, 180, 2, 23, 42]
theorem kX12_text_4 (j : Nat) {b : UInt8} (hj : bX12_text_4[j]? = some b) : AtB cX12_text (128 + j) b := at_of32 (by decide +kernel) j hj
def bX12_text_5 : List UInt8 := [180, 2, 14, 79, 3, 54, 5, 21, 5, 42, 180, 1, 210, 162, 0, 32, 42, 180, 0, 112, 17, 0, 220, 42, 180, 2, 23, 104, 21, 5, 96, 42]
theorem kX12_text_5 (j : Nat) {b : UInt8} (hj : bX12_text_5[j]? = some b) : AtB cX12_text (160 + j) b := at_of32 (by decide +kernel) j hj
def bX12_text_6 : List UInt8 := [180, 0, 88, 21, 5, 46, 79, 132, 5, 1, 167, 255, 221, 3, 54, 5, 21, 5, 42, 180, 2, 14, 162, 0, 123, 16, 12, 42, 180, 2, 23, 104]
theorem kX12_text_6 (j : Nat) {b : UInt8} (hj : bX12_text_6[j]? = some b) : AtB cX12_text (192 + j) b := at_of32 (by decide +kernel) j hj
def bX12_text_7 : List UInt8 := [21, 5, 96, 54, 6, 42, 180, 0, 124, 21, 6, 42, 180, 0, 94, 21, 5, 46, 79, 42, 180, 0, 127, 21, 6, 17, 0, 220, 42, 180, 2, 23]
theorem kX12_text_7 (j : Nat) {b : UInt8} (hj : bX12_text_7[j]? = some b) : AtB cX12_text (224 + j) b := at_of32 (by decide +kernel) j hj
def bX12_text_8 : List UInt8 := [104, 42, 180, 0, 97, 21, 5, 46, 96, 79, 42, 180, 0, 130, 21, 6, 17, 0, 220, 42, 180, 2, 23, 104, 42, 180, 0, 100, 21, 5, 46, 96]
theorem kX12_text_8 (j : Nat) {b : UInt8} (hj : bX12_text_8[j]? = some b) : AtB cX12_text (256 + j) b := at_of32 (by decide +kernel) j hj
def bX12_text_9 : List UInt8 := [79, 42, 180, 0, 133, 21, 6, 42, 180, 0, 103, 21, 5, 46, 79, 42, 180, 0, 136, 21, 6, 42, 180, 0, 106, 21, 5, 46, 79, 42, 180, 0]
theorem kX12_text_9 (j : Nat) {b : UInt8} (hj : bX12_text_9[j]? = some b) : AtB cX12_text (288 + j) b := at_of32 (by decide +kernel) j hj
def bX12_text_10 : List UInt8 := [139, 21, 6, 42, 180, 0, 109, 21, 5, 46, 79, 132, 5, 1, 167, 255, 130, 3, 54, 5, 21, 5, 16, 9, 162, 0, 25, 42, 180, 0, 142, 16]
theorem kX12_text_10 (j : Nat) {b : UInt8} (hj : bX12_text_10[j]? = some b) : AtB cX12_text (320 + j) b := at_of32 (by decide +kernel) j hj
def bX12_text_11 : List UInt8 := [20, 21, 5, 104, 42, 180, 2, 23, 96, 2, 79, 132, 5, 1, 167, 255, 230, 42, 42, 180, 2, 23, 4, 96, 181, 2, 23, 42, 180, 2, 23, 4]
theorem kX12_text_11 (j : Nat) {b : UInt8} (hj : bX12_text_11[j]? = some b) : AtB cX12_text (352 + j) b := at_of32 (by decide +kernel) j hj
def bX12_text_12 : List UInt8 := [100, 172]
theorem kX12_text_12 (j : Nat) {b : UInt8} (hj : bX12_text_12[j]? = some b) : AtB cX12_text (384 + j) b := at_of32 (by decide +kernel) j hj
theorem dX12_text_0 : decode cX12_text 0 = .ok (.iload_n 1, 1) := dq_27 (kX12_text_0 0 rfl)
theorem dX12_text_1 : decode cX12_text 1 = .ok (.invokestatic 409, 3) := dq_184 (kX12_text_0 1 rfl) (kX12_text_0 2 rfl) (kX12_text_0 3 rfl) rfl
theorem dX12_text_4 : decode cX12_text 4 = .ok (.ifCond .eq 42, 3) := dq_153 (kX12_text_0 4 rfl) (kX12_text_0 5 rfl) (kX12_text_0 6 rfl) (by decide)
theorem dX12_text_7 : decode cX12_text 7 = .ok (.iload_n 2, 1) := dq_28 (kX12_text_0 7 rfl)
theorem dX12_text_8 : decode cX12_text 8 = .ok (.iload_n 1, 1) := dq_27 (kX12_text_0 8 rfl)
theorem dX12_text_9 : decode cX12_text 9 = .ok (.sipush 3599, 3) := dq_17 (kX12_text_0 9 rfl) (kX12_text_0 10 rfl) (kX12_text_0 11 rfl) (by decide)
theorem dX12_text_12 : decode cX12_text 12 = .ok (.invokestatic 371, 3) := dq_184 (kX12_text_0 12 rfl) (kX12_text_0 13 rfl) (kX12_text_0 14 rfl) rfl
theorem dX12_text_15 : decode cX12_text 15 = .ok (.ifCond .eq 31, 3) := dq_153 (kX12_text_0 15 rfl) (kX12_text_0 16 rfl) (kX12_text_0 17 rfl) (by decide)
theorem dX12_text_18 : decode cX12_text 18 = .ok (.iload_n 3, 1) := dq_29 (kX12_text_0 18 rfl)
theorem dX12_text_19 : decode cX12_text 19 = .ok (.iconst 1, 1) := dq_4 (kX12_text_0 19 rfl)
theorem dX12_text_20 : decode cX12_text 20 = .ok (.sipush 200, 3) := dq_17 (kX12_text_0 20 rfl) (kX12_text_0 21 rfl) (kX12_text_0 22 rfl) (by decide)
theorem dX12_text_23 : decode cX12_text 23 = .ok (.invokestatic 371, 3) := dq_184 (kX12_text_0 23 rfl) (kX12_text_0 24 rfl) (kX12_text_0 25 rfl) rfl
theorem dX12_text_26 : decode cX12_text 26 = .ok (.ifCond .eq 20, 3) := dq_153 (kX12_text_0 26 rfl) (kX12_text_0 27 rfl) (kX12_text_0 28 rfl) (by decide)
theorem dX12_text_29 : decode cX12_text 29 = .ok (.iload_n 3, 1) := dq_29 (kX12_text_0 29 rfl)
theorem dX12_text_30 : decode cX12_text 30 = .ok (.aload_n 0, 1) := dq_42 (kX12_text_0 30 rfl)
theorem dX12_text_31 : decode cX12_text 31 = .ok (.getfield 436, 3) := dq_180 (kX12_text_0 31 rfl) (kX12_text_1 0 rfl) (kX12_text_1 1 rfl) rfl
theorem dX12_text_34 : decode cX12_text 34 = .ok (.if_icmp .gt 12, 3) := dq_163 (kX12_text_1 2 rfl) (kX12_text_1 3 rfl) (kX12_text_1 4 rfl) (by decide)
theorem dX12_text_37 : decode cX12_text 37 = .ok (.aload_n 0, 1) := dq_42 (kX12_text_1 5 rfl)
theorem dX12_text_38 : decode cX12_text 38 = .ok (.getfield 535, 3) := dq_180 (kX12_text_1 6 rfl) (kX12_text_1 7 rfl) (kX12_text_1 8 rfl) rfl
theorem dX12_text_41 : decode cX12_text 41 = .ok (.bipush 20, 2) := dq_16 (kX12_text_1 9 rfl) (kX12_text_1 10 rfl) (by decide)
theorem dX12_text_43 : decode cX12_text 43 = .ok (.if_icmp .ne 5, 3) := dq_160 (kX12_text_1 11 rfl) (kX12_text_1 12 rfl) (kX12_text_1 13 rfl) (by decide)
theorem dX12_text_46 : decode cX12_text 46 = .ok (.iconst (-1), 1) := dq_2 (kX12_text_1 14 rfl)
theorem dX12_text_47 : decode cX12_text 47 = .ok (.ireturn, 1) := dq_172 (kX12_text_1 15 rfl)
theorem dX12_text_48 : decode cX12_text 48 = .ok (.aload_n 0, 1) := dq_42 (kX12_text_1 16 rfl)
theorem dX12_text_49 : decode cX12_text 49 = .ok (.iconst 0, 1) := dq_3 (kX12_text_1 17 rfl)
theorem dX12_text_50 : decode cX12_text 50 = .ok (.putfield 443, 3) := dq_181 (kX12_text_1 18 rfl) (kX12_text_1 19 rfl) (kX12_text_1 20 rfl) rfl
theorem dX12_text_53 : decode cX12_text 53 = .ok (.aload_n 0, 1) := dq_42 (kX12_text_1 21 rfl)
theorem dX12_text_54 : decode cX12_text 54 = .ok (.iload_n 3, 1) := dq_29 (kX12_text_1 22 rfl)
theorem dX12_text_55 : decode cX12_text 55 = .ok (.putfield 446, 3) := dq_181 (kX12_text_1 23 rfl) (kX12_text_1 24 rfl) (kX12_text_1 25 rfl) rfl
theorem dX12_text_58 : decode cX12_text 58 = .ok (.aload_n 0, 1) := dq_42 (kX12_text_1 26 rfl)
theorem dX12_text_59 : decode cX12_text 59 = .ok (.iconst 0, 1) := dq_3 (kX12_text_1 27 rfl)
theorem dX12_text_60 : decode cX12_text 60 = .ok (.putfield 466, 3) := dq_181 (kX12_text_1 28 rfl) (kX12_text_1 29 rfl) (kX12_text_1 30 rfl) rfl
theorem dX12_text_63 : decode cX12_text 63 = .ok (.aload_n 0, 1) := dq_42 (kX12_text_1 31 rfl)
theorem dX12_text_64 : decode cX12_text 64 = .ok (.iconst 0, 1) := dq_3 (kX12_text_2 0 rfl)
theorem dX12_text_65 : decode cX12_text 65 = .ok (.putfield 526, 3) := dq_181 (kX12_text_2 1 rfl) (kX12_text_2 2 rfl) (kX12_text_2 3 rfl) rfl
theorem dX12_text_68 : decode cX12_text 68 = .ok (.aload_n 0, 1) := dq_42 (kX12_text_2 4 rfl)
theorem dX12_text_69 : decode cX12_text 69 = .ok (.invokevirtual 538, 3) := dq_182 (kX12_text_2 5 rfl) (kX12_text_2 6 rfl) (kX12_text_2 7 rfl) rfl
theorem dX12_text_72 : decode cX12_text 72 = .ok (.istore 4, 2) := dq_54 (kX12_text_2 8 rfl) (kX12_text_2 9 rfl) rfl
theorem dX12_text_74 : decode cX12_text 74 = .ok (.iload 4, 2) := dq_21 (kX12_text_2 10 rfl) (kX12_text_2 11 rfl) rfl
theorem dX12_text_76 : decode cX12_text 76 = .ok (.ifCond .eq 40, 3) := dq_153 (kX12_text_2 12 rfl) (kX12_text_2 13 rfl) (kX12_text_2 14 rfl) (by decide)
theorem dX12_text_79 : decode cX12_text 79 = .ok (.aload_n 0, 1) := dq_42 (kX12_text_2 15 rfl)
theorem dX12_text_80 : decode cX12_text 80 = .ok (.getfield 443, 3) := dq_180 (kX12_text_2 16 rfl) (kX12_text_2 17 rfl) (kX12_text_2 18 rfl) rfl
theorem dX12_text_83 : decode cX12_text 83 = .ok (.aload_n 0, 1) := dq_42 (kX12_text_2 19 rfl)
theorem dX12_text_84 : decode cX12_text 84 = .ok (.getfield 446, 3) := dq_180 (kX12_text_2 20 rfl) (kX12_text_2 21 rfl) (kX12_text_2 22 rfl) rfl
theorem dX12_text_87 : decode cX12_text 87 = .ok (.if_icmp .ge 29, 3) := dq_162 (kX12_text_2 23 rfl) (kX12_text_2 24 rfl) (kX12_text_2 25 rfl) (by decide)
theorem dX12_text_90 : decode cX12_text 90 = .ok (.aload_n 0, 1) := dq_42 (kX12_text_2 26 rfl)
theorem dX12_text_91 : decode cX12_text 91 = .ok (.bipush 59, 2) := dq_16 (kX12_text_2 27 rfl) (kX12_text_2 28 rfl) (by decide)
theorem dX12_text_93 : decode cX12_text 93 = .ok (.invokevirtual 532, 3) := dq_182 (kX12_text_2 29 rfl) (kX12_text_2 30 rfl) (kX12_text_2 31 rfl) rfl
theorem dX12_text_96 : decode cX12_text 96 = .ok (.ifCond .eq 14, 3) := dq_153 (kX12_text_3 0 rfl) (kX12_text_3 1 rfl) (kX12_text_3 2 rfl) (by decide)
theorem dX12_text_99 : decode cX12_text 99 = .ok (.aload_n 0, 1) := dq_42 (kX12_text_3 3 rfl)
theorem dX12_text_100 : decode cX12_text 100 = .ok (.invokevirtual 538, 3) := dq_182 (kX12_text_3 4 rfl) (kX12_text_3 5 rfl) (kX12_text_3 6 rfl) rfl
theorem dX12_text_103 : decode cX12_text 103 = .ok (.ifCond .eq 7, 3) := dq_153 (kX12_text_3 7 rfl) (kX12_text_3 8 rfl) (kX12_text_3 9 rfl) (by decide)
theorem dX12_text_106 : decode cX12_text 106 = .ok (.iconst 1, 1) := dq_4 (kX12_text_3 10 rfl)
theorem dX12_text_107 : decode cX12_text 107 = .ok (.goto 4, 3) := dq_167 (kX12_text_3 11 rfl) (kX12_text_3 12 rfl) (kX12_text_3 13 rfl) (by decide)
theorem dX12_text_110 : decode cX12_text 110 = .ok (.iconst 0, 1) := dq_3 (kX12_text_3 14 rfl)
theorem dX12_text_111 : decode cX12_text 111 = .ok (.istore 4, 2) := dq_54 (kX12_text_3 15 rfl) (kX12_text_3 16 rfl) rfl
theorem dX12_text_113 : decode cX12_text 113 = .ok (.goto (-39), 3) := dq_167 (kX12_text_3 17 rfl) (kX12_text_3 18 rfl) (kX12_text_3 19 rfl) (by decide)
theorem dX12_text_116 : decode cX12_text 116 = .ok (.aload_n 0, 1) := dq_42 (kX12_text_3 20 rfl)
theorem dX12_text_117 : decode cX12_text 117 = .ok (.iconst 0, 1) := dq_3 (kX12_text_3 21 rfl)
theorem dX12_text_118 : decode cX12_text 118 = .ok (.putfield 436, 3) := dq_181 (kX12_text_3 22 rfl) (kX12_text_3 23 rfl) (kX12_text_3 24 rfl) rfl
theorem dX12_text_121 : decode cX12_text 121 = .ok (.iload 4, 2) := dq_21 (kX12_text_3 25 rfl) (kX12_text_3 26 rfl) rfl
theorem dX12_text_123 : decode cX12_text 123 = .ok (.ifCond .ne 8, 3) := dq_154 (kX12_text_3 27 rfl) (kX12_text_3 28 rfl) (kX12_text_3 29 rfl) (by decide)
theorem dX12_text_126 : decode cX12_text 126 = .ok (.aload_n 0, 1) := dq_42 (kX12_text_3 30 rfl)
theorem dX12_text_127 : decode cX12_text 127 = .ok (.getfield 453, 3) := dq_180 (kX12_text_3 31 rfl) (kX12_text_4 0 rfl) (kX12_text_4 1 rfl) rfl
theorem dX12_text_130 : decode cX12_text 130 = .ok (.ireturn, 1) := dq_172 (kX12_text_4 2 rfl)
theorem dX12_text_131 : decode cX12_text 131 = .ok (.aload_n 0, 1) := dq_42 (kX12_text_4 3 rfl)
theorem dX12_text_132 : decode cX12_text 132 = .ok (.getfield 118, 3) := dq_180 (kX12_text_4 4 rfl) (kX12_text_4 5 rfl) (kX12_text_4 6 rfl) rfl
theorem dX12_text_135 : decode cX12_text 135 = .ok (.aload_n 0, 1) := dq_42 (kX12_text_4 7 rfl)
theorem dX12_text_136 : decode cX12_text 136 = .ok (.getfield 535, 3) := dq_180 (kX12_text_4 8 rfl) (kX12_text_4 9 rfl) (kX12_text_4 10 rfl) rfl
theorem dX12_text_139 : decode cX12_text 139 = .ok (.iload_n 1, 1) := dq_27 (kX12_text_4 11 rfl)
theorem dX12_text_140 : decode cX12_text 140 = .ok (.iastore, 1) := dq_79 (kX12_text_4 12 rfl)
theorem dX12_text_141 : decode cX12_text 141 = .ok (.aload_n 0, 1) := dq_42 (kX12_text_4 13 rfl)
theorem dX12_text_142 : decode cX12_text 142 = .ok (.getfield 121, 3) := dq_180 (kX12_text_4 14 rfl) (kX12_text_4 15 rfl) (kX12_text_4 16 rfl) rfl
theorem dX12_text_145 : decode cX12_text 145 = .ok (.aload_n 0, 1) := dq_42 (kX12_text_4 17 rfl)
theorem dX12_text_146 : decode cX12_text 146 = .ok (.getfield 535, 3) := dq_180 (kX12_text_4 18 rfl) (kX12_text_4 19 rfl) (kX12_text_4 20 rfl) rfl
theorem dX12_text_149 : decode cX12_text 149 = .ok (.iload_n 2, 1) := dq_28 (kX12_text_4 21 rfl)
theorem dX12_text_150 : decode cX12_text 150 = .ok (.iastore, 1) := dq_79 (kX12_text_4 22 rfl)
theorem dX12_text_151 : decode cX12_text 151 = .ok (.aload_n 0, 1) := dq_42 (kX12_text_4 23 rfl)
theorem dX12_text_152 : decode cX12_text 152 = .ok (.getfield 115, 3) := dq_180 (kX12_text_4 24 rfl) (kX12_text_4 25 rfl) (kX12_text_4 26 rfl) rfl
theorem dX12_text_155 : decode cX12_text 155 = .ok (.aload_n 0, 1) := dq_42 (kX12_text_4 27 rfl)
theorem dX12_text_156 : decode cX12_text 156 = .ok (.getfield 535, 3) := dq_180 (kX12_text_4 28 rfl) (kX12_text_4 29 rfl) (kX12_text_4 30 rfl) rfl
theorem dX12_text_159 : decode cX12_text 159 = .ok (.aload_n 0, 1) := dq_42 (kX12_text_4 31 rfl)
theorem dX12_text_160 : decode cX12_text 160 = .ok (.getfield 526, 3) := dq_180 (kX12_text_5 0 rfl) (kX12_text_5 1 rfl) (kX12_text_5 2 rfl) rfl
theorem dX12_text_163 : decode cX12_text 163 = .ok (.iastore, 1) := dq_79 (kX12_text_5 3 rfl)
theorem dX12_text_164 : decode cX12_text 164 = .ok (.iconst 0, 1) := dq_3 (kX12_text_5 4 rfl)
theorem dX12_text_165 : decode cX12_text 165 = .ok (.istore 5, 2) := dq_54 (kX12_text_5 5 rfl) (kX12_text_5 6 rfl) rfl
theorem dX12_text_167 : decode cX12_text 167 = .ok (.iload 5, 2) := dq_21 (kX12_text_5 7 rfl) (kX12_text_5 8 rfl) rfl
theorem dX12_text_169 : decode cX12_text 169 = .ok (.aload_n 0, 1) := dq_42 (kX12_text_5 9 rfl)
theorem dX12_text_170 : decode cX12_text 170 = .ok (.getfield 466, 3) := dq_180 (kX12_text_5 10 rfl) (kX12_text_5 11 rfl) (kX12_text_5 12 rfl) rfl
theorem dX12_text_173 : decode cX12_text 173 = .ok (.if_icmp .ge 32, 3) := dq_162 (kX12_text_5 13 rfl) (kX12_text_5 14 rfl) (kX12_text_5 15 rfl) (by decide)
theorem dX12_text_176 : decode cX12_text 176 = .ok (.aload_n 0, 1) := dq_42 (kX12_text_5 16 rfl)
theorem dX12_text_177 : decode cX12_text 177 = .ok (.getfield 112, 3) := dq_180 (kX12_text_5 17 rfl) (kX12_text_5 18 rfl) (kX12_text_5 19 rfl) rfl
theorem dX12_text_180 : decode cX12_text 180 = .ok (.sipush 220, 3) := dq_17 (kX12_text_5 20 rfl) (kX12_text_5 21 rfl) (kX12_text_5 22 rfl) (by decide)
theorem dX12_text_183 : decode cX12_text 183 = .ok (.aload_n 0, 1) := dq_42 (kX12_text_5 23 rfl)
theorem dX12_text_184 : decode cX12_text 184 = .ok (.getfield 535, 3) := dq_180 (kX12_text_5 24 rfl) (kX12_text_5 25 rfl) (kX12_text_5 26 rfl) rfl
theorem dX12_text_187 : decode cX12_text 187 = .ok (.imul, 1) := dq_104 (kX12_text_5 27 rfl)
theorem dX12_text_188 : decode cX12_text 188 = .ok (.iload 5, 2) := dq_21 (kX12_text_5 28 rfl) (kX12_text_5 29 rfl) rfl
theorem dX12_text_190 : decode cX12_text 190 = .ok (.iadd, 1) := dq_96 (kX12_text_5 30 rfl)
theorem dX12_text_191 : decode cX12_text 191 = .ok (.aload_n 0, 1) := dq_42 (kX12_text_5 31 rfl)
theorem dX12_text_192 : decode cX12_text 192 = .ok (.getfield 88, 3) := dq_180 (kX12_text_6 0 rfl) (kX12_text_6 1 rfl) (kX12_text_6 2 rfl) rfl
theorem dX12_text_195 : decode cX12_text 195 = .ok (.iload 5, 2) := dq_21 (kX12_text_6 3 rfl) (kX12_text_6 4 rfl) rfl
theorem dX12_text_197 : decode cX12_text 197 = .ok (.iaload, 1) := dq_46 (kX12_text_6 5 rfl)
theorem dX12_text_198 : decode cX12_text 198 = .ok (.iastore, 1) := dq_79 (kX12_text_6 6 rfl)
theorem dX12_text_199 : decode cX12_text 199 = .ok (.iinc 5 1, 3) := dq_132 (kX12_text_6 7 rfl) (kX12_text_6 8 rfl) (kX12_text_6 9 rfl) rfl (by decide)
theorem dX12_text_202 : decode cX12_text 202 = .ok (.goto (-35), 3) := dq_167 (kX12_text_6 10 rfl) (kX12_text_6 11 rfl) (kX12_text_6 12 rfl) (by decide)
theorem dX12_text_205 : decode cX12_text 205 = .ok (.iconst 0, 1) := dq_3 (kX12_text_6 13 rfl)
theorem dX12_text_206 : decode cX12_text 206 = .ok (.istore 5, 2) := dq_54 (kX12_text_6 14 rfl) (kX12_text_6 15 rfl) rfl
theorem dX12_text_208 : decode cX12_text 208 = .ok (.iload 5, 2) := dq_21 (kX12_text_6 16 rfl) (kX12_text_6 17 rfl) rfl
theorem dX12_text_210 : decode cX12_text 210 = .ok (.aload_n 0, 1) := dq_42 (kX12_text_6 18 rfl)
theorem dX12_text_211 : decode cX12_text 211 = .ok (.getfield 526, 3) := dq_180 (kX12_text_6 19 rfl) (kX12_text_6 20 rfl) (kX12_text_6 21 rfl) rfl
theorem dX12_text_214 : decode cX12_text 214 = .ok (.if_icmp .ge 123, 3) := dq_162 (kX12_text_6 22 rfl) (kX12_text_6 23 rfl) (kX12_text_6 24 rfl) (by decide)
theorem dX12_text_217 : decode cX12_text 217 = .ok (.bipush 12, 2) := dq_16 (kX12_text_6 25 rfl) (kX12_text_6 26 rfl) (by decide)
theorem dX12_text_219 : decode cX12_text 219 = .ok (.aload_n 0, 1) := dq_42 (kX12_text_6 27 rfl)
theorem dX12_text_220 : decode cX12_text 220 = .ok (.getfield 535, 3) := dq_180 (kX12_text_6 28 rfl) (kX12_text_6 29 rfl) (kX12_text_6 30 rfl) rfl
theorem dX12_text_223 : decode cX12_text 223 = .ok (.imul, 1) := dq_104 (kX12_text_6 31 rfl)
theorem dX12_text_224 : decode cX12_text 224 = .ok (.iload 5, 2) := dq_21 (kX12_text_7 0 rfl) (kX12_text_7 1 rfl) rfl
theorem dX12_text_226 : decode cX12_text 226 = .ok (.iadd, 1) := dq_96 (kX12_text_7 2 rfl)
theorem dX12_text_227 : decode cX12_text 227 = .ok (.istore 6, 2) := dq_54 (kX12_text_7 3 rfl) (kX12_text_7 4 rfl) rfl
theorem dX12_text_229 : decode cX12_text 229 = .ok (.aload_n 0, 1) := dq_42 (kX12_text_7 5 rfl)
theorem dX12_text_230 : decode cX12_text 230 = .ok (.getfield 124, 3) := dq_180 (kX12_text_7 6 rfl) (kX12_text_7 7 rfl) (kX12_text_7 8 rfl) rfl
theorem dX12_text_233 : decode cX12_text 233 = .ok (.iload 6, 2) := dq_21 (kX12_text_7 9 rfl) (kX12_text_7 10 rfl) rfl
theorem dX12_text_235 : decode cX12_text 235 = .ok (.aload_n 0, 1) := dq_42 (kX12_text_7 11 rfl)
theorem dX12_text_236 : decode cX12_text 236 = .ok (.getfield 94, 3) := dq_180 (kX12_text_7 12 rfl) (kX12_text_7 13 rfl) (kX12_text_7 14 rfl) rfl
theorem dX12_text_239 : decode cX12_text 239 = .ok (.iload 5, 2) := dq_21 (kX12_text_7 15 rfl) (kX12_text_7 16 rfl) rfl
theorem dX12_text_241 : decode cX12_text 241 = .ok (.iaload, 1) := dq_46 (kX12_text_7 17 rfl)
theorem dX12_text_242 : decode cX12_text 242 = .ok (.iastore, 1) := dq_79 (kX12_text_7 18 rfl)
theorem dX12_text_243 : decode cX12_text 243 = .ok (.aload_n 0, 1) := dq_42 (kX12_text_7 19 rfl)
theorem dX12_text_244 : decode cX12_text 244 = .ok (.getfield 127, 3) := dq_180 (kX12_text_7 20 rfl) (kX12_text_7 21 rfl) (kX12_text_7 22 rfl) rfl
theorem dX12_text_247 : decode cX12_text 247 = .ok (.iload 6, 2) := dq_21 (kX12_text_7 23 rfl) (kX12_text_7 24 rfl) rfl
theorem dX12_text_249 : decode cX12_text 249 = .ok (.sipush 220, 3) := dq_17 (kX12_text_7 25 rfl) (kX12_text_7 26 rfl) (kX12_text_7 27 rfl) (by decide)
theorem dX12_text_252 : decode cX12_text 252 = .ok (.aload_n 0, 1) := dq_42 (kX12_text_7 28 rfl)
theorem dX12_text_253 : decode cX12_text 253 = .ok (.getfield 535, 3) := dq_180 (kX12_text_7 29 rfl) (kX12_text_7 30 rfl) (kX12_text_7 31 rfl) rfl
theorem dX12_text_256 : decode cX12_text 256 = .ok (.imul, 1) := dq_104 (kX12_text_8 0 rfl)
theorem dX12_text_257 : decode cX12_text 257 = .ok (.aload_n 0, 1) := dq_42 (kX12_text_8 1 rfl)
theorem dX12_text_258 : decode cX12_text 258 = .ok (.getfield 97, 3) := dq_180 (kX12_text_8 2 rfl) (kX12_text_8 3 rfl) (kX12_text_8 4 rfl) rfl
theorem dX12_text_261 : decode cX12_text 261 = .ok (.iload 5, 2) := dq_21 (kX12_text_8 5 rfl) (kX12_text_8 6 rfl) rfl
theorem dX12_text_263 : decode cX12_text 263 = .ok (.iaload, 1) := dq_46 (kX12_text_8 7 rfl)
theorem dX12_text_264 : decode cX12_text 264 = .ok (.iadd, 1) := dq_96 (kX12_text_8 8 rfl)
theorem dX12_text_265 : decode cX12_text 265 = .ok (.iastore, 1) := dq_79 (kX12_text_8 9 rfl)
theorem dX12_text_266 : decode cX12_text 266 = .ok (.aload_n 0, 1) := dq_42 (kX12_text_8 10 rfl)
theorem dX12_text_267 : decode cX12_text 267 = .ok (.getfield 130, 3) := dq_180 (kX12_text_8 11 rfl) (kX12_text_8 12 rfl) (kX12_text_8 13 rfl) rfl
theorem dX12_text_270 : decode cX12_text 270 = .ok (.iload 6, 2) := dq_21 (kX12_text_8 14 rfl) (kX12_text_8 15 rfl) rfl
theorem dX12_text_272 : decode cX12_text 272 = .ok (.sipush 220, 3) := dq_17 (kX12_text_8 16 rfl) (kX12_text_8 17 rfl) (kX12_text_8 18 rfl) (by decide)
theorem dX12_text_275 : decode cX12_text 275 = .ok (.aload_n 0, 1) := dq_42 (kX12_text_8 19 rfl)
theorem dX12_text_276 : decode cX12_text 276 = .ok (.getfield 535, 3) := dq_180 (kX12_text_8 20 rfl) (kX12_text_8 21 rfl) (kX12_text_8 22 rfl) rfl
theorem dX12_text_279 : decode cX12_text 279 = .ok (.imul, 1) := dq_104 (kX12_text_8 23 rfl)
theorem dX12_text_280 : decode cX12_text 280 = .ok (.aload_n 0, 1) := dq_42 (kX12_text_8 24 rfl)
theorem dX12_text_281 : decode cX12_text 281 = .ok (.getfield 100, 3) := dq_180 (kX12_text_8 25 rfl) (kX12_text_8 26 rfl) (kX12_text_8 27 rfl) rfl
theorem dX12_text_284 : decode cX12_text 284 = .ok (.iload 5, 2) := dq_21 (kX12_text_8 28 rfl) (kX12_text_8 29 rfl) rfl
theorem dX12_text_286 : decode cX12_text 286 = .ok (.iaload, 1) := dq_46 (kX12_text_8 30 rfl)
theorem dX12_text_287 : decode cX12_text 287 = .ok (.iadd, 1) := dq_96 (kX12_text_8 31 rfl)
theorem dX12_text_288 : decode cX12_text 288 = .ok (.iastore, 1) := dq_79 (kX12_text_9 0 rfl)
theorem dX12_text_289 : decode cX12_text 289 = .ok (.aload_n 0, 1) := dq_42 (kX12_text_9 1 rfl)
theorem dX12_text_290 : decode cX12_text 290 = .ok (.getfield 133, 3) := dq_180 (kX12_text_9 2 rfl) (kX12_text_9 3 rfl) (kX12_text_9 4 rfl) rfl
theorem dX12_text_293 : decode cX12_text 293 = .ok (.iload 6, 2) := dq_21 (kX12_text_9 5 rfl) (kX12_text_9 6 rfl) rfl
theorem dX12_text_295 : decode cX12_text 295 = .ok (.aload_n 0, 1) := dq_42 (kX12_text_9 7 rfl)
theorem dX12_text_296 : decode cX12_text 296 = .ok (.getfield 103, 3) := dq_180 (kX12_text_9 8 rfl) (kX12_text_9 9 rfl) (kX12_text_9 10 rfl) rfl
theorem dX12_text_299 : decode cX12_text 299 = .ok (.iload 5, 2) := dq_21 (kX12_text_9 11 rfl) (kX12_text_9 12 rfl) rfl
theorem dX12_text_301 : decode cX12_text 301 = .ok (.iaload, 1) := dq_46 (kX12_text_9 13 rfl)
theorem dX12_text_302 : decode cX12_text 302 = .ok (.iastore, 1) := dq_79 (kX12_text_9 14 rfl)
theorem dX12_text_303 : decode cX12_text 303 = .ok (.aload_n 0, 1) := dq_42 (kX12_text_9 15 rfl)
theorem dX12_text_304 : decode cX12_text 304 = .ok (.getfield 136, 3) := dq_180 (kX12_text_9 16 rfl) (kX12_text_9 17 rfl) (kX12_text_9 18 rfl) rfl
theorem dX12_text_307 : decode cX12_text 307 = .ok (.iload 6, 2) := dq_21 (kX12_text_9 19 rfl) (kX12_text_9 20 rfl) rfl
theorem dX12_text_309 : decode cX12_text 309 = .ok (.aload_n 0, 1) := dq_42 (kX12_text_9 21 rfl)
theorem dX12_text_310 : decode cX12_text 310 = .ok (.getfield 106, 3) := dq_180 (kX12_text_9 22 rfl) (kX12_text_9 23 rfl) (kX12_text_9 24 rfl) rfl
theorem dX12_text_313 : decode cX12_text 313 = .ok (.iload 5, 2) := dq_21 (kX12_text_9 25 rfl) (kX12_text_9 26 rfl) rfl
theorem dX12_text_315 : decode cX12_text 315 = .ok (.iaload, 1) := dq_46 (kX12_text_9 27 rfl)
theorem dX12_text_316 : decode cX12_text 316 = .ok (.iastore, 1) := dq_79 (kX12_text_9 28 rfl)
theorem dX12_text_317 : decode cX12_text 317 = .ok (.aload_n 0, 1) := dq_42 (kX12_text_9 29 rfl)
theorem dX12_text_318 : decode cX12_text 318 = .ok (.getfield 139, 3) := dq_180 (kX12_text_9 30 rfl) (kX12_text_9 31 rfl) (kX12_text_10 0 rfl) rfl
theorem dX12_text_321 : decode cX12_text 321 = .ok (.iload 6, 2) := dq_21 (kX12_text_10 1 rfl) (kX12_text_10 2 rfl) rfl
theorem dX12_text_323 : decode cX12_text 323 = .ok (.aload_n 0, 1) := dq_42 (kX12_text_10 3 rfl)
theorem dX12_text_324 : decode cX12_text 324 = .ok (.getfield 109, 3) := dq_180 (kX12_text_10 4 rfl) (kX12_text_10 5 rfl) (kX12_text_10 6 rfl) rfl
theorem dX12_text_327 : decode cX12_text 327 = .ok (.iload 5, 2) := dq_21 (kX12_text_10 7 rfl) (kX12_text_10 8 rfl) rfl
theorem dX12_text_329 : decode cX12_text 329 = .ok (.iaload, 1) := dq_46 (kX12_text_10 9 rfl)
theorem dX12_text_330 : decode cX12_text 330 = .ok (.iastore, 1) := dq_79 (kX12_text_10 10 rfl)
theorem dX12_text_331 : decode cX12_text 331 = .ok (.iinc 5 1, 3) := dq_132 (kX12_text_10 11 rfl) (kX12_text_10 12 rfl) (kX12_text_10 13 rfl) rfl (by decide)
theorem dX12_text_334 : decode cX12_text 334 = .ok (.goto (-126), 3) := dq_167 (kX12_text_10 14 rfl) (kX12_text_10 15 rfl) (kX12_text_10 16 rfl) (by decide)
theorem dX12_text_337 : decode cX12_text 337 = .ok (.iconst 0, 1) := dq_3 (kX12_text_10 17 rfl)
theorem dX12_text_338 : decode cX12_text 338 = .ok (.istore 5, 2) := dq_54 (kX12_text_10 18 rfl) (kX12_text_10 19 rfl) rfl
theorem dX12_text_340 : decode cX12_text 340 = .ok (.iload 5, 2) := dq_21 (kX12_text_10 20 rfl) (kX12_text_10 21 rfl) rfl
theorem dX12_text_342 : decode cX12_text 342 = .ok (.bipush 9, 2) := dq_16 (kX12_text_10 22 rfl) (kX12_text_10 23 rfl) (by decide)
theorem dX12_text_344 : decode cX12_text 344 = .ok (.if_icmp .ge 25, 3) := dq_162 (kX12_text_10 24 rfl) (kX12_text_10 25 rfl) (kX12_text_10 26 rfl) (by decide)
theorem dX12_text_347 : decode cX12_text 347 = .ok (.aload_n 0, 1) := dq_42 (kX12_text_10 27 rfl)
theorem dX12_text_348 : decode cX12_text 348 = .ok (.getfield 142, 3) := dq_180 (kX12_text_10 28 rfl) (kX12_text_10 29 rfl) (kX12_text_10 30 rfl) rfl
theorem dX12_text_351 : decode cX12_text 351 = .ok (.bipush 20, 2) := dq_16 (kX12_text_10 31 rfl) (kX12_text_11 0 rfl) (by decide)
theorem dX12_text_353 : decode cX12_text 353 = .ok (.iload 5, 2) := dq_21 (kX12_text_11 1 rfl) (kX12_text_11 2 rfl) rfl
theorem dX12_text_355 : decode cX12_text 355 = .ok (.imul, 1) := dq_104 (kX12_text_11 3 rfl)
theorem dX12_text_356 : decode cX12_text 356 = .ok (.aload_n 0, 1) := dq_42 (kX12_text_11 4 rfl)
theorem dX12_text_357 : decode cX12_text 357 = .ok (.getfield 535, 3) := dq_180 (kX12_text_11 5 rfl) (kX12_text_11 6 rfl) (kX12_text_11 7 rfl) rfl
theorem dX12_text_360 : decode cX12_text 360 = .ok (.iadd, 1) := dq_96 (kX12_text_11 8 rfl)
theorem dX12_text_361 : decode cX12_text 361 = .ok (.iconst (-1), 1) := dq_2 (kX12_text_11 9 rfl)
theorem dX12_text_362 : decode cX12_text 362 = .ok (.iastore, 1) := dq_79 (kX12_text_11 10 rfl)
theorem dX12_text_363 : decode cX12_text 363 = .ok (.iinc 5 1, 3) := dq_132 (kX12_text_11 11 rfl) (kX12_text_11 12 rfl) (kX12_text_11 13 rfl) rfl (by decide)
theorem dX12_text_366 : decode cX12_text 366 = .ok (.goto (-26), 3) := dq_167 (kX12_text_11 14 rfl) (kX12_text_11 15 rfl) (kX12_text_11 16 rfl) (by decide)
theorem dX12_text_369 : decode cX12_text 369 = .ok (.aload_n 0, 1) := dq_42 (kX12_text_11 17 rfl)
theorem dX12_text_370 : decode cX12_text 370 = .ok (.aload_n 0, 1) := dq_42 (kX12_text_11 18 rfl)
theorem dX12_text_371 : decode cX12_text 371 = .ok (.getfield 535, 3) := dq_180 (kX12_text_11 19 rfl) (kX12_text_11 20 rfl) (kX12_text_11 21 rfl) rfl
theorem dX12_text_374 : decode cX12_text 374 = .ok (.iconst 1, 1) := dq_4 (kX12_text_11 22 rfl)
theorem dX12_text_375 : decode cX12_text 375 = .ok (.iadd, 1) := dq_96 (kX12_text_11 23 rfl)
theorem dX12_text_376 : decode cX12_text 376 = .ok (.putfield 535, 3) := dq_181 (kX12_text_11 24 rfl) (kX12_text_11 25 rfl) (kX12_text_11 26 rfl) rfl
theorem dX12_text_379 : decode cX12_text 379 = .ok (.aload_n 0, 1) := dq_42 (kX12_text_11 27 rfl)
theorem dX12_text_380 : decode cX12_text 380 = .ok (.getfield 535, 3) := dq_180 (kX12_text_11 28 rfl) (kX12_text_11 29 rfl) (kX12_text_11 30 rfl) rfl
theorem dX12_text_383 : decode cX12_text 383 = .ok (.iconst 1, 1) := dq_4 (kX12_text_11 31 rfl)
theorem dX12_text_384 : decode cX12_text 384 = .ok (.isub, 1) := dq_100 (kX12_text_12 0 rfl)
theorem dX12_text_385 : decode cX12_text 385 = .ok (.ireturn, 1) := dq_172 (kX12_text_12 1 rfl)

def bX12_isText_0 : List UInt8 := [27, 155, 0, 15, 27, 42, 180, 2, 23, 162, 0, 7, 4, 167, 0, 4, 3, 172]
theorem kX12_isText_0 (j : Nat) {b : UInt8} (hj : bX12_isText_0[j]? = some b) : AtB cX12_isText (0 + j) b := at_of32 (by decide +kernel) j hj
theorem dX12_isText_0 : decode cX12_isText 0 = .ok (.iload_n 1, 1) := dq_27 (kX12_isText_0 0 rfl)
theorem dX12_isText_1 : decode cX12_isText 1 = .ok (.ifCond .lt 15, 3) := dq_155 (kX12_isText_0 1 rfl) (kX12_isText_0 2 rfl) (kX12_isText_0 3 rfl) (by decide)
theorem dX12_isText_4 : decode cX12_isText 4 = .ok (.iload_n 1, 1) := dq_27 (kX12_isText_0 4 rfl)
theorem dX12_isText_5 : decode cX12_isText 5 = .ok (.aload_n 0, 1) := dq_42 (kX12_isText_0 5 rfl)
theorem dX12_isText_6 : decode cX12_isText 6 = .ok (.getfield 535, 3) := dq_180 (kX12_isText_0 6 rfl) (kX12_isText_0 7 rfl) (kX12_isText_0 8 rfl) rfl
theorem dX12_isText_9 : decode cX12_isText 9 = .ok (.if_icmp .ge 7, 3) := dq_162 (kX12_isText_0 9 rfl) (kX12_isText_0 10 rfl) (kX12_isText_0 11 rfl) (by decide)
theorem dX12_isText_12 : decode cX12_isText 12 = .ok (.iconst 1, 1) := dq_4 (kX12_isText_0 12 rfl)
theorem dX12_isText_13 : decode cX12_isText 13 = .ok (.goto 4, 3) := dq_167 (kX12_isText_0 13 rfl) (kX12_isText_0 14 rfl) (kX12_isText_0 15 rfl) (by decide)
theorem dX12_isText_16 : decode cX12_isText 16 = .ok (.iconst 0, 1) := dq_3 (kX12_isText_0 16 rfl)
theorem dX12_isText_17 : decode cX12_isText 17 = .ok (.ireturn, 1) := dq_172 (kX12_isText_0 17 rfl)

def bX12_isClause_0 : List UInt8 := [42, 27, 182, 2, 29, 153, 0, 21, 28, 155, 0, 17, 28, 42, 180, 0, 115, 27, 46, 162, 0, 7, 4, 167, 0, 4, 3, 172]
theorem kX12_isClause_0 (j : Nat) {b : UInt8} (hj : bX12_isClause_0[j]? = some b) : AtB cX12_isClause (0 + j) b := at_of32 (by decide +kernel) j hj
theorem dX12_isClause_0 : decode cX12_isClause 0 = .ok (.aload_n 0, 1) := dq_42 (kX12_isClause_0 0 rfl)
theorem dX12_isClause_1 : decode cX12_isClause 1 = .ok (.iload_n 1, 1) := dq_27 (kX12_isClause_0 1 rfl)
theorem dX12_isClause_2 : decode cX12_isClause 2 = .ok (.invokevirtual 541, 3) := dq_182 (kX12_isClause_0 2 rfl) (kX12_isClause_0 3 rfl) (kX12_isClause_0 4 rfl) rfl
theorem dX12_isClause_5 : decode cX12_isClause 5 = .ok (.ifCond .eq 21, 3) := dq_153 (kX12_isClause_0 5 rfl) (kX12_isClause_0 6 rfl) (kX12_isClause_0 7 rfl) (by decide)
theorem dX12_isClause_8 : decode cX12_isClause 8 = .ok (.iload_n 2, 1) := dq_28 (kX12_isClause_0 8 rfl)
theorem dX12_isClause_9 : decode cX12_isClause 9 = .ok (.ifCond .lt 17, 3) := dq_155 (kX12_isClause_0 9 rfl) (kX12_isClause_0 10 rfl) (kX12_isClause_0 11 rfl) (by decide)
theorem dX12_isClause_12 : decode cX12_isClause 12 = .ok (.iload_n 2, 1) := dq_28 (kX12_isClause_0 12 rfl)
theorem dX12_isClause_13 : decode cX12_isClause 13 = .ok (.aload_n 0, 1) := dq_42 (kX12_isClause_0 13 rfl)
theorem dX12_isClause_14 : decode cX12_isClause 14 = .ok (.getfield 115, 3) := dq_180 (kX12_isClause_0 14 rfl) (kX12_isClause_0 15 rfl) (kX12_isClause_0 16 rfl) rfl
theorem dX12_isClause_17 : decode cX12_isClause 17 = .ok (.iload_n 1, 1) := dq_27 (kX12_isClause_0 17 rfl)
theorem dX12_isClause_18 : decode cX12_isClause 18 = .ok (.iaload, 1) := dq_46 (kX12_isClause_0 18 rfl)
theorem dX12_isClause_19 : decode cX12_isClause 19 = .ok (.if_icmp .ge 7, 3) := dq_162 (kX12_isClause_0 19 rfl) (kX12_isClause_0 20 rfl) (kX12_isClause_0 21 rfl) (by decide)
theorem dX12_isClause_22 : decode cX12_isClause 22 = .ok (.iconst 1, 1) := dq_4 (kX12_isClause_0 22 rfl)
theorem dX12_isClause_23 : decode cX12_isClause 23 = .ok (.goto 4, 3) := dq_167 (kX12_isClause_0 23 rfl) (kX12_isClause_0 24 rfl) (kX12_isClause_0 25 rfl) (by decide)
theorem dX12_isClause_26 : decode cX12_isClause 26 = .ok (.iconst 0, 1) := dq_3 (kX12_isClause_0 26 rfl)
theorem dX12_isClause_27 : decode cX12_isClause 27 = .ok (.ireturn, 1) := dq_172 (kX12_isClause_0 27 rfl)

def bX12_yes_0 : List UInt8 := [42, 27, 182, 1, 150, 153, 0, 30, 42, 28, 182, 2, 29, 153, 0, 22, 28, 153, 0, 18, 42, 180, 0, 142, 16, 20, 27, 104, 28, 96, 46, 2]
theorem kX12_yes_0 (j : Nat) {b : UInt8} (hj : bX12_yes_0[j]? = some b) : AtB cX12_yes (0 + j) b := at_of32 (by decide +kernel) j hj
def bX12_yes_1 : List UInt8 := [159, 0, 5, 3, 172, 42, 180, 0, 142, 16, 20, 27, 104, 28, 96, 42, 180, 1, 140, 79, 4, 172]
theorem kX12_yes_1 (j : Nat) {b : UInt8} (hj : bX12_yes_1[j]? = some b) : AtB cX12_yes (32 + j) b := at_of32 (by decide +kernel) j hj
theorem dX12_yes_0 : decode cX12_yes 0 = .ok (.aload_n 0, 1) := dq_42 (kX12_yes_0 0 rfl)
theorem dX12_yes_1 : decode cX12_yes 1 = .ok (.iload_n 1, 1) := dq_27 (kX12_yes_0 1 rfl)
theorem dX12_yes_2 : decode cX12_yes 2 = .ok (.invokevirtual 406, 3) := dq_182 (kX12_yes_0 2 rfl) (kX12_yes_0 3 rfl) (kX12_yes_0 4 rfl) rfl
theorem dX12_yes_5 : decode cX12_yes 5 = .ok (.ifCond .eq 30, 3) := dq_153 (kX12_yes_0 5 rfl) (kX12_yes_0 6 rfl) (kX12_yes_0 7 rfl) (by decide)
theorem dX12_yes_8 : decode cX12_yes 8 = .ok (.aload_n 0, 1) := dq_42 (kX12_yes_0 8 rfl)
theorem dX12_yes_9 : decode cX12_yes 9 = .ok (.iload_n 2, 1) := dq_28 (kX12_yes_0 9 rfl)
theorem dX12_yes_10 : decode cX12_yes 10 = .ok (.invokevirtual 541, 3) := dq_182 (kX12_yes_0 10 rfl) (kX12_yes_0 11 rfl) (kX12_yes_0 12 rfl) rfl
theorem dX12_yes_13 : decode cX12_yes 13 = .ok (.ifCond .eq 22, 3) := dq_153 (kX12_yes_0 13 rfl) (kX12_yes_0 14 rfl) (kX12_yes_0 15 rfl) (by decide)
theorem dX12_yes_16 : decode cX12_yes 16 = .ok (.iload_n 2, 1) := dq_28 (kX12_yes_0 16 rfl)
theorem dX12_yes_17 : decode cX12_yes 17 = .ok (.ifCond .eq 18, 3) := dq_153 (kX12_yes_0 17 rfl) (kX12_yes_0 18 rfl) (kX12_yes_0 19 rfl) (by decide)
theorem dX12_yes_20 : decode cX12_yes 20 = .ok (.aload_n 0, 1) := dq_42 (kX12_yes_0 20 rfl)
theorem dX12_yes_21 : decode cX12_yes 21 = .ok (.getfield 142, 3) := dq_180 (kX12_yes_0 21 rfl) (kX12_yes_0 22 rfl) (kX12_yes_0 23 rfl) rfl
theorem dX12_yes_24 : decode cX12_yes 24 = .ok (.bipush 20, 2) := dq_16 (kX12_yes_0 24 rfl) (kX12_yes_0 25 rfl) (by decide)
theorem dX12_yes_26 : decode cX12_yes 26 = .ok (.iload_n 1, 1) := dq_27 (kX12_yes_0 26 rfl)
theorem dX12_yes_27 : decode cX12_yes 27 = .ok (.imul, 1) := dq_104 (kX12_yes_0 27 rfl)
theorem dX12_yes_28 : decode cX12_yes 28 = .ok (.iload_n 2, 1) := dq_28 (kX12_yes_0 28 rfl)
theorem dX12_yes_29 : decode cX12_yes 29 = .ok (.iadd, 1) := dq_96 (kX12_yes_0 29 rfl)
theorem dX12_yes_30 : decode cX12_yes 30 = .ok (.iaload, 1) := dq_46 (kX12_yes_0 30 rfl)
theorem dX12_yes_31 : decode cX12_yes 31 = .ok (.iconst (-1), 1) := dq_2 (kX12_yes_0 31 rfl)
theorem dX12_yes_32 : decode cX12_yes 32 = .ok (.if_icmp .eq 5, 3) := dq_159 (kX12_yes_1 0 rfl) (kX12_yes_1 1 rfl) (kX12_yes_1 2 rfl) (by decide)
theorem dX12_yes_35 : decode cX12_yes 35 = .ok (.iconst 0, 1) := dq_3 (kX12_yes_1 3 rfl)
theorem dX12_yes_36 : decode cX12_yes 36 = .ok (.ireturn, 1) := dq_172 (kX12_yes_1 4 rfl)
theorem dX12_yes_37 : decode cX12_yes 37 = .ok (.aload_n 0, 1) := dq_42 (kX12_yes_1 5 rfl)
theorem dX12_yes_38 : decode cX12_yes 38 = .ok (.getfield 142, 3) := dq_180 (kX12_yes_1 6 rfl) (kX12_yes_1 7 rfl) (kX12_yes_1 8 rfl) rfl
theorem dX12_yes_41 : decode cX12_yes 41 = .ok (.bipush 20, 2) := dq_16 (kX12_yes_1 9 rfl) (kX12_yes_1 10 rfl) (by decide)
theorem dX12_yes_43 : decode cX12_yes 43 = .ok (.iload_n 1, 1) := dq_27 (kX12_yes_1 11 rfl)
theorem dX12_yes_44 : decode cX12_yes 44 = .ok (.imul, 1) := dq_104 (kX12_yes_1 12 rfl)
theorem dX12_yes_45 : decode cX12_yes 45 = .ok (.iload_n 2, 1) := dq_28 (kX12_yes_1 13 rfl)
theorem dX12_yes_46 : decode cX12_yes 46 = .ok (.iadd, 1) := dq_96 (kX12_yes_1 14 rfl)
theorem dX12_yes_47 : decode cX12_yes 47 = .ok (.aload_n 0, 1) := dq_42 (kX12_yes_1 15 rfl)
theorem dX12_yes_48 : decode cX12_yes 48 = .ok (.getfield 396, 3) := dq_180 (kX12_yes_1 16 rfl) (kX12_yes_1 17 rfl) (kX12_yes_1 18 rfl) rfl
theorem dX12_yes_51 : decode cX12_yes 51 = .ok (.iastore, 1) := dq_79 (kX12_yes_1 19 rfl)
theorem dX12_yes_52 : decode cX12_yes 52 = .ok (.iconst 1, 1) := dq_4 (kX12_yes_1 20 rfl)
theorem dX12_yes_53 : decode cX12_yes 53 = .ok (.ireturn, 1) := dq_172 (kX12_yes_1 21 rfl)

def bX12_reading_0 : List UInt8 := [42, 27, 182, 1, 150, 153, 0, 58, 42, 28, 29, 182, 2, 32, 153, 0, 49, 42, 180, 0, 124, 16, 12, 28, 104, 29, 96, 46, 184, 2, 8, 153]
theorem kX12_reading_0 (j : Nat) {b : UInt8} (hj : bX12_reading_0[j]? = some b) : AtB cX12_reading (0 + j) b := at_of32 (by decide +kernel) j hj
def bX12_reading_1 : List UInt8 := [0, 32, 21, 4, 4, 16, 100, 184, 1, 115, 153, 0, 21, 21, 4, 42, 180, 1, 180, 163, 0, 12, 42, 180, 2, 35, 16, 20, 160, 0, 5, 2]
theorem kX12_reading_1 (j : Nat) {b : UInt8} (hj : bX12_reading_1[j]? = some b) : AtB cX12_reading (32 + j) b := at_of32 (by decide +kernel) j hj
def bX12_reading_2 : List UInt8 := [172, 42, 3, 181, 1, 187, 42, 21, 4, 181, 1, 190, 42, 3, 181, 1, 210, 42, 182, 2, 17, 153, 0, 30, 42, 180, 1, 187, 42, 180, 1, 190]
theorem kX12_reading_2 (j : Nat) {b : UInt8} (hj : bX12_reading_2[j]? = some b) : AtB cX12_reading (64 + j) b := at_of32 (by decide +kernel) j hj
def bX12_reading_3 : List UInt8 := [159, 0, 15, 42, 4, 42, 180, 1, 187, 182, 1, 200, 153, 0, 7, 4, 167, 0, 4, 3, 54, 5, 42, 3, 181, 1, 180, 21, 5, 154, 0, 8]
theorem kX12_reading_3 (j : Nat) {b : UInt8} (hj : bX12_reading_3[j]? = some b) : AtB cX12_reading (96 + j) b := at_of32 (by decide +kernel) j hj
def bX12_reading_4 : List UInt8 := [42, 180, 1, 197, 172, 42, 180, 0, 151, 42, 180, 2, 35, 27, 79, 42, 180, 0, 154, 42, 180, 2, 35, 16, 12, 28, 104, 29, 96, 79, 42, 180]
theorem kX12_reading_4 (j : Nat) {b : UInt8} (hj : bX12_reading_4[j]? = some b) : AtB cX12_reading (128 + j) b := at_of32 (by decide +kernel) j hj
def bX12_reading_5 : List UInt8 := [0, 148, 42, 180, 2, 35, 42, 180, 1, 210, 79, 3, 54, 6, 21, 6, 42, 180, 1, 210, 162, 0, 31, 42, 180, 0, 145, 16, 110, 42, 180, 2]
theorem kX12_reading_5 (j : Nat) {b : UInt8} (hj : bX12_reading_5[j]? = some b) : AtB cX12_reading (160 + j) b := at_of32 (by decide +kernel) j hj
def bX12_reading_6 : List UInt8 := [35, 104, 21, 6, 96, 42, 180, 0, 88, 21, 6, 46, 79, 132, 6, 1, 167, 255, 222, 42, 42, 180, 2, 35, 4, 96, 181, 2, 35, 3, 172]
theorem kX12_reading_6 (j : Nat) {b : UInt8} (hj : bX12_reading_6[j]? = some b) : AtB cX12_reading (192 + j) b := at_of32 (by decide +kernel) j hj
theorem dX12_reading_0 : decode cX12_reading 0 = .ok (.aload_n 0, 1) := dq_42 (kX12_reading_0 0 rfl)
theorem dX12_reading_1 : decode cX12_reading 1 = .ok (.iload_n 1, 1) := dq_27 (kX12_reading_0 1 rfl)
theorem dX12_reading_2 : decode cX12_reading 2 = .ok (.invokevirtual 406, 3) := dq_182 (kX12_reading_0 2 rfl) (kX12_reading_0 3 rfl) (kX12_reading_0 4 rfl) rfl
theorem dX12_reading_5 : decode cX12_reading 5 = .ok (.ifCond .eq 58, 3) := dq_153 (kX12_reading_0 5 rfl) (kX12_reading_0 6 rfl) (kX12_reading_0 7 rfl) (by decide)
theorem dX12_reading_8 : decode cX12_reading 8 = .ok (.aload_n 0, 1) := dq_42 (kX12_reading_0 8 rfl)
theorem dX12_reading_9 : decode cX12_reading 9 = .ok (.iload_n 2, 1) := dq_28 (kX12_reading_0 9 rfl)
theorem dX12_reading_10 : decode cX12_reading 10 = .ok (.iload_n 3, 1) := dq_29 (kX12_reading_0 10 rfl)
theorem dX12_reading_11 : decode cX12_reading 11 = .ok (.invokevirtual 544, 3) := dq_182 (kX12_reading_0 11 rfl) (kX12_reading_0 12 rfl) (kX12_reading_0 13 rfl) rfl
theorem dX12_reading_14 : decode cX12_reading 14 = .ok (.ifCond .eq 49, 3) := dq_153 (kX12_reading_0 14 rfl) (kX12_reading_0 15 rfl) (kX12_reading_0 16 rfl) (by decide)
theorem dX12_reading_17 : decode cX12_reading 17 = .ok (.aload_n 0, 1) := dq_42 (kX12_reading_0 17 rfl)
theorem dX12_reading_18 : decode cX12_reading 18 = .ok (.getfield 124, 3) := dq_180 (kX12_reading_0 18 rfl) (kX12_reading_0 19 rfl) (kX12_reading_0 20 rfl) rfl
theorem dX12_reading_21 : decode cX12_reading 21 = .ok (.bipush 12, 2) := dq_16 (kX12_reading_0 21 rfl) (kX12_reading_0 22 rfl) (by decide)
theorem dX12_reading_23 : decode cX12_reading 23 = .ok (.iload_n 2, 1) := dq_28 (kX12_reading_0 23 rfl)
theorem dX12_reading_24 : decode cX12_reading 24 = .ok (.imul, 1) := dq_104 (kX12_reading_0 24 rfl)
theorem dX12_reading_25 : decode cX12_reading 25 = .ok (.iload_n 3, 1) := dq_29 (kX12_reading_0 25 rfl)
theorem dX12_reading_26 : decode cX12_reading 26 = .ok (.iadd, 1) := dq_96 (kX12_reading_0 26 rfl)
theorem dX12_reading_27 : decode cX12_reading 27 = .ok (.iaload, 1) := dq_46 (kX12_reading_0 27 rfl)
theorem dX12_reading_28 : decode cX12_reading 28 = .ok (.invokestatic 520, 3) := dq_184 (kX12_reading_0 28 rfl) (kX12_reading_0 29 rfl) (kX12_reading_0 30 rfl) rfl
theorem dX12_reading_31 : decode cX12_reading 31 = .ok (.ifCond .eq 32, 3) := dq_153 (kX12_reading_0 31 rfl) (kX12_reading_1 0 rfl) (kX12_reading_1 1 rfl) (by decide)
theorem dX12_reading_34 : decode cX12_reading 34 = .ok (.iload 4, 2) := dq_21 (kX12_reading_1 2 rfl) (kX12_reading_1 3 rfl) rfl
theorem dX12_reading_36 : decode cX12_reading 36 = .ok (.iconst 1, 1) := dq_4 (kX12_reading_1 4 rfl)
theorem dX12_reading_37 : decode cX12_reading 37 = .ok (.bipush 100, 2) := dq_16 (kX12_reading_1 5 rfl) (kX12_reading_1 6 rfl) (by decide)
theorem dX12_reading_39 : decode cX12_reading 39 = .ok (.invokestatic 371, 3) := dq_184 (kX12_reading_1 7 rfl) (kX12_reading_1 8 rfl) (kX12_reading_1 9 rfl) rfl
theorem dX12_reading_42 : decode cX12_reading 42 = .ok (.ifCond .eq 21, 3) := dq_153 (kX12_reading_1 10 rfl) (kX12_reading_1 11 rfl) (kX12_reading_1 12 rfl) (by decide)
theorem dX12_reading_45 : decode cX12_reading 45 = .ok (.iload 4, 2) := dq_21 (kX12_reading_1 13 rfl) (kX12_reading_1 14 rfl) rfl
theorem dX12_reading_47 : decode cX12_reading 47 = .ok (.aload_n 0, 1) := dq_42 (kX12_reading_1 15 rfl)
theorem dX12_reading_48 : decode cX12_reading 48 = .ok (.getfield 436, 3) := dq_180 (kX12_reading_1 16 rfl) (kX12_reading_1 17 rfl) (kX12_reading_1 18 rfl) rfl
theorem dX12_reading_51 : decode cX12_reading 51 = .ok (.if_icmp .gt 12, 3) := dq_163 (kX12_reading_1 19 rfl) (kX12_reading_1 20 rfl) (kX12_reading_1 21 rfl) (by decide)
theorem dX12_reading_54 : decode cX12_reading 54 = .ok (.aload_n 0, 1) := dq_42 (kX12_reading_1 22 rfl)
theorem dX12_reading_55 : decode cX12_reading 55 = .ok (.getfield 547, 3) := dq_180 (kX12_reading_1 23 rfl) (kX12_reading_1 24 rfl) (kX12_reading_1 25 rfl) rfl
theorem dX12_reading_58 : decode cX12_reading 58 = .ok (.bipush 20, 2) := dq_16 (kX12_reading_1 26 rfl) (kX12_reading_1 27 rfl) (by decide)
theorem dX12_reading_60 : decode cX12_reading 60 = .ok (.if_icmp .ne 5, 3) := dq_160 (kX12_reading_1 28 rfl) (kX12_reading_1 29 rfl) (kX12_reading_1 30 rfl) (by decide)
theorem dX12_reading_63 : decode cX12_reading 63 = .ok (.iconst (-1), 1) := dq_2 (kX12_reading_1 31 rfl)
theorem dX12_reading_64 : decode cX12_reading 64 = .ok (.ireturn, 1) := dq_172 (kX12_reading_2 0 rfl)
theorem dX12_reading_65 : decode cX12_reading 65 = .ok (.aload_n 0, 1) := dq_42 (kX12_reading_2 1 rfl)
theorem dX12_reading_66 : decode cX12_reading 66 = .ok (.iconst 0, 1) := dq_3 (kX12_reading_2 2 rfl)
theorem dX12_reading_67 : decode cX12_reading 67 = .ok (.putfield 443, 3) := dq_181 (kX12_reading_2 3 rfl) (kX12_reading_2 4 rfl) (kX12_reading_2 5 rfl) rfl
theorem dX12_reading_70 : decode cX12_reading 70 = .ok (.aload_n 0, 1) := dq_42 (kX12_reading_2 6 rfl)
theorem dX12_reading_71 : decode cX12_reading 71 = .ok (.iload 4, 2) := dq_21 (kX12_reading_2 7 rfl) (kX12_reading_2 8 rfl) rfl
theorem dX12_reading_73 : decode cX12_reading 73 = .ok (.putfield 446, 3) := dq_181 (kX12_reading_2 9 rfl) (kX12_reading_2 10 rfl) (kX12_reading_2 11 rfl) rfl
theorem dX12_reading_76 : decode cX12_reading 76 = .ok (.aload_n 0, 1) := dq_42 (kX12_reading_2 12 rfl)
theorem dX12_reading_77 : decode cX12_reading 77 = .ok (.iconst 0, 1) := dq_3 (kX12_reading_2 13 rfl)
theorem dX12_reading_78 : decode cX12_reading 78 = .ok (.putfield 466, 3) := dq_181 (kX12_reading_2 14 rfl) (kX12_reading_2 15 rfl) (kX12_reading_2 16 rfl) rfl
theorem dX12_reading_81 : decode cX12_reading 81 = .ok (.aload_n 0, 1) := dq_42 (kX12_reading_2 17 rfl)
theorem dX12_reading_82 : decode cX12_reading 82 = .ok (.invokevirtual 529, 3) := dq_182 (kX12_reading_2 18 rfl) (kX12_reading_2 19 rfl) (kX12_reading_2 20 rfl) rfl
theorem dX12_reading_85 : decode cX12_reading 85 = .ok (.ifCond .eq 30, 3) := dq_153 (kX12_reading_2 21 rfl) (kX12_reading_2 22 rfl) (kX12_reading_2 23 rfl) (by decide)
theorem dX12_reading_88 : decode cX12_reading 88 = .ok (.aload_n 0, 1) := dq_42 (kX12_reading_2 24 rfl)
theorem dX12_reading_89 : decode cX12_reading 89 = .ok (.getfield 443, 3) := dq_180 (kX12_reading_2 25 rfl) (kX12_reading_2 26 rfl) (kX12_reading_2 27 rfl) rfl
theorem dX12_reading_92 : decode cX12_reading 92 = .ok (.aload_n 0, 1) := dq_42 (kX12_reading_2 28 rfl)
theorem dX12_reading_93 : decode cX12_reading 93 = .ok (.getfield 446, 3) := dq_180 (kX12_reading_2 29 rfl) (kX12_reading_2 30 rfl) (kX12_reading_2 31 rfl) rfl
theorem dX12_reading_96 : decode cX12_reading 96 = .ok (.if_icmp .eq 15, 3) := dq_159 (kX12_reading_3 0 rfl) (kX12_reading_3 1 rfl) (kX12_reading_3 2 rfl) (by decide)
theorem dX12_reading_99 : decode cX12_reading 99 = .ok (.aload_n 0, 1) := dq_42 (kX12_reading_3 3 rfl)
theorem dX12_reading_100 : decode cX12_reading 100 = .ok (.iconst 1, 1) := dq_4 (kX12_reading_3 4 rfl)
theorem dX12_reading_101 : decode cX12_reading 101 = .ok (.aload_n 0, 1) := dq_42 (kX12_reading_3 5 rfl)
theorem dX12_reading_102 : decode cX12_reading 102 = .ok (.getfield 443, 3) := dq_180 (kX12_reading_3 6 rfl) (kX12_reading_3 7 rfl) (kX12_reading_3 8 rfl) rfl
theorem dX12_reading_105 : decode cX12_reading 105 = .ok (.invokevirtual 456, 3) := dq_182 (kX12_reading_3 9 rfl) (kX12_reading_3 10 rfl) (kX12_reading_3 11 rfl) rfl
theorem dX12_reading_108 : decode cX12_reading 108 = .ok (.ifCond .eq 7, 3) := dq_153 (kX12_reading_3 12 rfl) (kX12_reading_3 13 rfl) (kX12_reading_3 14 rfl) (by decide)
theorem dX12_reading_111 : decode cX12_reading 111 = .ok (.iconst 1, 1) := dq_4 (kX12_reading_3 15 rfl)
theorem dX12_reading_112 : decode cX12_reading 112 = .ok (.goto 4, 3) := dq_167 (kX12_reading_3 16 rfl) (kX12_reading_3 17 rfl) (kX12_reading_3 18 rfl) (by decide)
theorem dX12_reading_115 : decode cX12_reading 115 = .ok (.iconst 0, 1) := dq_3 (kX12_reading_3 19 rfl)
theorem dX12_reading_116 : decode cX12_reading 116 = .ok (.istore 5, 2) := dq_54 (kX12_reading_3 20 rfl) (kX12_reading_3 21 rfl) rfl
theorem dX12_reading_118 : decode cX12_reading 118 = .ok (.aload_n 0, 1) := dq_42 (kX12_reading_3 22 rfl)
theorem dX12_reading_119 : decode cX12_reading 119 = .ok (.iconst 0, 1) := dq_3 (kX12_reading_3 23 rfl)
theorem dX12_reading_120 : decode cX12_reading 120 = .ok (.putfield 436, 3) := dq_181 (kX12_reading_3 24 rfl) (kX12_reading_3 25 rfl) (kX12_reading_3 26 rfl) rfl
theorem dX12_reading_123 : decode cX12_reading 123 = .ok (.iload 5, 2) := dq_21 (kX12_reading_3 27 rfl) (kX12_reading_3 28 rfl) rfl
theorem dX12_reading_125 : decode cX12_reading 125 = .ok (.ifCond .ne 8, 3) := dq_154 (kX12_reading_3 29 rfl) (kX12_reading_3 30 rfl) (kX12_reading_3 31 rfl) (by decide)
theorem dX12_reading_128 : decode cX12_reading 128 = .ok (.aload_n 0, 1) := dq_42 (kX12_reading_4 0 rfl)
theorem dX12_reading_129 : decode cX12_reading 129 = .ok (.getfield 453, 3) := dq_180 (kX12_reading_4 1 rfl) (kX12_reading_4 2 rfl) (kX12_reading_4 3 rfl) rfl
theorem dX12_reading_132 : decode cX12_reading 132 = .ok (.ireturn, 1) := dq_172 (kX12_reading_4 4 rfl)
theorem dX12_reading_133 : decode cX12_reading 133 = .ok (.aload_n 0, 1) := dq_42 (kX12_reading_4 5 rfl)
theorem dX12_reading_134 : decode cX12_reading 134 = .ok (.getfield 151, 3) := dq_180 (kX12_reading_4 6 rfl) (kX12_reading_4 7 rfl) (kX12_reading_4 8 rfl) rfl
theorem dX12_reading_137 : decode cX12_reading 137 = .ok (.aload_n 0, 1) := dq_42 (kX12_reading_4 9 rfl)
theorem dX12_reading_138 : decode cX12_reading 138 = .ok (.getfield 547, 3) := dq_180 (kX12_reading_4 10 rfl) (kX12_reading_4 11 rfl) (kX12_reading_4 12 rfl) rfl
theorem dX12_reading_141 : decode cX12_reading 141 = .ok (.iload_n 1, 1) := dq_27 (kX12_reading_4 13 rfl)
theorem dX12_reading_142 : decode cX12_reading 142 = .ok (.iastore, 1) := dq_79 (kX12_reading_4 14 rfl)
theorem dX12_reading_143 : decode cX12_reading 143 = .ok (.aload_n 0, 1) := dq_42 (kX12_reading_4 15 rfl)
theorem dX12_reading_144 : decode cX12_reading 144 = .ok (.getfield 154, 3) := dq_180 (kX12_reading_4 16 rfl) (kX12_reading_4 17 rfl) (kX12_reading_4 18 rfl) rfl
theorem dX12_reading_147 : decode cX12_reading 147 = .ok (.aload_n 0, 1) := dq_42 (kX12_reading_4 19 rfl)
theorem dX12_reading_148 : decode cX12_reading 148 = .ok (.getfield 547, 3) := dq_180 (kX12_reading_4 20 rfl) (kX12_reading_4 21 rfl) (kX12_reading_4 22 rfl) rfl
theorem dX12_reading_151 : decode cX12_reading 151 = .ok (.bipush 12, 2) := dq_16 (kX12_reading_4 23 rfl) (kX12_reading_4 24 rfl) (by decide)
theorem dX12_reading_153 : decode cX12_reading 153 = .ok (.iload_n 2, 1) := dq_28 (kX12_reading_4 25 rfl)
theorem dX12_reading_154 : decode cX12_reading 154 = .ok (.imul, 1) := dq_104 (kX12_reading_4 26 rfl)
theorem dX12_reading_155 : decode cX12_reading 155 = .ok (.iload_n 3, 1) := dq_29 (kX12_reading_4 27 rfl)
theorem dX12_reading_156 : decode cX12_reading 156 = .ok (.iadd, 1) := dq_96 (kX12_reading_4 28 rfl)
theorem dX12_reading_157 : decode cX12_reading 157 = .ok (.iastore, 1) := dq_79 (kX12_reading_4 29 rfl)
theorem dX12_reading_158 : decode cX12_reading 158 = .ok (.aload_n 0, 1) := dq_42 (kX12_reading_4 30 rfl)
theorem dX12_reading_159 : decode cX12_reading 159 = .ok (.getfield 148, 3) := dq_180 (kX12_reading_4 31 rfl) (kX12_reading_5 0 rfl) (kX12_reading_5 1 rfl) rfl
theorem dX12_reading_162 : decode cX12_reading 162 = .ok (.aload_n 0, 1) := dq_42 (kX12_reading_5 2 rfl)
theorem dX12_reading_163 : decode cX12_reading 163 = .ok (.getfield 547, 3) := dq_180 (kX12_reading_5 3 rfl) (kX12_reading_5 4 rfl) (kX12_reading_5 5 rfl) rfl
theorem dX12_reading_166 : decode cX12_reading 166 = .ok (.aload_n 0, 1) := dq_42 (kX12_reading_5 6 rfl)
theorem dX12_reading_167 : decode cX12_reading 167 = .ok (.getfield 466, 3) := dq_180 (kX12_reading_5 7 rfl) (kX12_reading_5 8 rfl) (kX12_reading_5 9 rfl) rfl
theorem dX12_reading_170 : decode cX12_reading 170 = .ok (.iastore, 1) := dq_79 (kX12_reading_5 10 rfl)
theorem dX12_reading_171 : decode cX12_reading 171 = .ok (.iconst 0, 1) := dq_3 (kX12_reading_5 11 rfl)
theorem dX12_reading_172 : decode cX12_reading 172 = .ok (.istore 6, 2) := dq_54 (kX12_reading_5 12 rfl) (kX12_reading_5 13 rfl) rfl
theorem dX12_reading_174 : decode cX12_reading 174 = .ok (.iload 6, 2) := dq_21 (kX12_reading_5 14 rfl) (kX12_reading_5 15 rfl) rfl
theorem dX12_reading_176 : decode cX12_reading 176 = .ok (.aload_n 0, 1) := dq_42 (kX12_reading_5 16 rfl)
theorem dX12_reading_177 : decode cX12_reading 177 = .ok (.getfield 466, 3) := dq_180 (kX12_reading_5 17 rfl) (kX12_reading_5 18 rfl) (kX12_reading_5 19 rfl) rfl
theorem dX12_reading_180 : decode cX12_reading 180 = .ok (.if_icmp .ge 31, 3) := dq_162 (kX12_reading_5 20 rfl) (kX12_reading_5 21 rfl) (kX12_reading_5 22 rfl) (by decide)
theorem dX12_reading_183 : decode cX12_reading 183 = .ok (.aload_n 0, 1) := dq_42 (kX12_reading_5 23 rfl)
theorem dX12_reading_184 : decode cX12_reading 184 = .ok (.getfield 145, 3) := dq_180 (kX12_reading_5 24 rfl) (kX12_reading_5 25 rfl) (kX12_reading_5 26 rfl) rfl
theorem dX12_reading_187 : decode cX12_reading 187 = .ok (.bipush 110, 2) := dq_16 (kX12_reading_5 27 rfl) (kX12_reading_5 28 rfl) (by decide)
theorem dX12_reading_189 : decode cX12_reading 189 = .ok (.aload_n 0, 1) := dq_42 (kX12_reading_5 29 rfl)
theorem dX12_reading_190 : decode cX12_reading 190 = .ok (.getfield 547, 3) := dq_180 (kX12_reading_5 30 rfl) (kX12_reading_5 31 rfl) (kX12_reading_6 0 rfl) rfl
theorem dX12_reading_193 : decode cX12_reading 193 = .ok (.imul, 1) := dq_104 (kX12_reading_6 1 rfl)
theorem dX12_reading_194 : decode cX12_reading 194 = .ok (.iload 6, 2) := dq_21 (kX12_reading_6 2 rfl) (kX12_reading_6 3 rfl) rfl
theorem dX12_reading_196 : decode cX12_reading 196 = .ok (.iadd, 1) := dq_96 (kX12_reading_6 4 rfl)
theorem dX12_reading_197 : decode cX12_reading 197 = .ok (.aload_n 0, 1) := dq_42 (kX12_reading_6 5 rfl)
theorem dX12_reading_198 : decode cX12_reading 198 = .ok (.getfield 88, 3) := dq_180 (kX12_reading_6 6 rfl) (kX12_reading_6 7 rfl) (kX12_reading_6 8 rfl) rfl
theorem dX12_reading_201 : decode cX12_reading 201 = .ok (.iload 6, 2) := dq_21 (kX12_reading_6 9 rfl) (kX12_reading_6 10 rfl) rfl
theorem dX12_reading_203 : decode cX12_reading 203 = .ok (.iaload, 1) := dq_46 (kX12_reading_6 11 rfl)
theorem dX12_reading_204 : decode cX12_reading 204 = .ok (.iastore, 1) := dq_79 (kX12_reading_6 12 rfl)
theorem dX12_reading_205 : decode cX12_reading 205 = .ok (.iinc 6 1, 3) := dq_132 (kX12_reading_6 13 rfl) (kX12_reading_6 14 rfl) (kX12_reading_6 15 rfl) rfl (by decide)
theorem dX12_reading_208 : decode cX12_reading 208 = .ok (.goto (-34), 3) := dq_167 (kX12_reading_6 16 rfl) (kX12_reading_6 17 rfl) (kX12_reading_6 18 rfl) (by decide)
theorem dX12_reading_211 : decode cX12_reading 211 = .ok (.aload_n 0, 1) := dq_42 (kX12_reading_6 19 rfl)
theorem dX12_reading_212 : decode cX12_reading 212 = .ok (.aload_n 0, 1) := dq_42 (kX12_reading_6 20 rfl)
theorem dX12_reading_213 : decode cX12_reading 213 = .ok (.getfield 547, 3) := dq_180 (kX12_reading_6 21 rfl) (kX12_reading_6 22 rfl) (kX12_reading_6 23 rfl) rfl
theorem dX12_reading_216 : decode cX12_reading 216 = .ok (.iconst 1, 1) := dq_4 (kX12_reading_6 24 rfl)
theorem dX12_reading_217 : decode cX12_reading 217 = .ok (.iadd, 1) := dq_96 (kX12_reading_6 25 rfl)
theorem dX12_reading_218 : decode cX12_reading 218 = .ok (.putfield 547, 3) := dq_181 (kX12_reading_6 26 rfl) (kX12_reading_6 27 rfl) (kX12_reading_6 28 rfl) rfl
theorem dX12_reading_221 : decode cX12_reading 221 = .ok (.iconst 0, 1) := dq_3 (kX12_reading_6 29 rfl)
theorem dX12_reading_222 : decode cX12_reading 222 = .ok (.ireturn, 1) := dq_172 (kX12_reading_6 30 rfl)

def bX12_strikes_0 : List UInt8 := [3, 61, 28, 16, 12, 27, 104, 162, 0, 16, 42, 180, 0, 160, 28, 3, 84, 132, 2, 1, 167, 255, 238, 27, 4, 100, 61, 28, 155, 0, 101, 3]
theorem kX12_strikes_0 (j : Nat) {b : UInt8} (hj : bX12_strikes_0[j]? = some b) : AtB cX12_strikes (0 + j) b := at_of32 (by decide +kernel) j hj
def bX12_strikes_1 : List UInt8 := [62, 29, 42, 180, 0, 115, 28, 46, 162, 0, 83, 42, 180, 0, 157, 28, 51, 153, 0, 74, 16, 12, 28, 104, 29, 96, 54, 4, 42, 180, 0, 124]
theorem kX12_strikes_1 (j : Nat) {b : UInt8} (hj : bX12_strikes_1[j]? = some b) : AtB cX12_strikes (32 + j) b := at_of32 (by decide +kernel) j hj
def bX12_strikes_2 : List UInt8 := [21, 4, 46, 16, 120, 160, 0, 48, 42, 180, 0, 160, 21, 4, 51, 154, 0, 38, 42, 180, 0, 136, 21, 4, 46, 28, 162, 0, 27, 42, 180, 0]
theorem kX12_strikes_2 (j : Nat) {b : UInt8} (hj : bX12_strikes_2[j]? = some b) : AtB cX12_strikes (64 + j) b := at_of32 (by decide +kernel) j hj
def bX12_strikes_3 : List UInt8 := [160, 16, 12, 42, 180, 0, 136, 21, 4, 46, 104, 42, 180, 0, 139, 21, 4, 46, 96, 4, 84, 132, 3, 1, 167, 255, 169, 132, 2, 255, 167, 255]
theorem kX12_strikes_3 (j : Nat) {b : UInt8} (hj : bX12_strikes_3[j]? = some b) : AtB cX12_strikes (96 + j) b := at_of32 (by decide +kernel) j hj
def bX12_strikes_4 : List UInt8 := [157, 177]
theorem kX12_strikes_4 (j : Nat) {b : UInt8} (hj : bX12_strikes_4[j]? = some b) : AtB cX12_strikes (128 + j) b := at_of32 (by decide +kernel) j hj
theorem dX12_strikes_0 : decode cX12_strikes 0 = .ok (.iconst 0, 1) := dq_3 (kX12_strikes_0 0 rfl)
theorem dX12_strikes_1 : decode cX12_strikes 1 = .ok (.istore_n 2, 1) := dq_61 (kX12_strikes_0 1 rfl)
theorem dX12_strikes_2 : decode cX12_strikes 2 = .ok (.iload_n 2, 1) := dq_28 (kX12_strikes_0 2 rfl)
theorem dX12_strikes_3 : decode cX12_strikes 3 = .ok (.bipush 12, 2) := dq_16 (kX12_strikes_0 3 rfl) (kX12_strikes_0 4 rfl) (by decide)
theorem dX12_strikes_5 : decode cX12_strikes 5 = .ok (.iload_n 1, 1) := dq_27 (kX12_strikes_0 5 rfl)
theorem dX12_strikes_6 : decode cX12_strikes 6 = .ok (.imul, 1) := dq_104 (kX12_strikes_0 6 rfl)
theorem dX12_strikes_7 : decode cX12_strikes 7 = .ok (.if_icmp .ge 16, 3) := dq_162 (kX12_strikes_0 7 rfl) (kX12_strikes_0 8 rfl) (kX12_strikes_0 9 rfl) (by decide)
theorem dX12_strikes_10 : decode cX12_strikes 10 = .ok (.aload_n 0, 1) := dq_42 (kX12_strikes_0 10 rfl)
theorem dX12_strikes_11 : decode cX12_strikes 11 = .ok (.getfield 160, 3) := dq_180 (kX12_strikes_0 11 rfl) (kX12_strikes_0 12 rfl) (kX12_strikes_0 13 rfl) rfl
theorem dX12_strikes_14 : decode cX12_strikes 14 = .ok (.iload_n 2, 1) := dq_28 (kX12_strikes_0 14 rfl)
theorem dX12_strikes_15 : decode cX12_strikes 15 = .ok (.iconst 0, 1) := dq_3 (kX12_strikes_0 15 rfl)
theorem dX12_strikes_16 : decode cX12_strikes 16 = .ok (.bastore, 1) := dq_84 (kX12_strikes_0 16 rfl)
theorem dX12_strikes_17 : decode cX12_strikes 17 = .ok (.iinc 2 1, 3) := dq_132 (kX12_strikes_0 17 rfl) (kX12_strikes_0 18 rfl) (kX12_strikes_0 19 rfl) rfl (by decide)
theorem dX12_strikes_20 : decode cX12_strikes 20 = .ok (.goto (-18), 3) := dq_167 (kX12_strikes_0 20 rfl) (kX12_strikes_0 21 rfl) (kX12_strikes_0 22 rfl) (by decide)
theorem dX12_strikes_23 : decode cX12_strikes 23 = .ok (.iload_n 1, 1) := dq_27 (kX12_strikes_0 23 rfl)
theorem dX12_strikes_24 : decode cX12_strikes 24 = .ok (.iconst 1, 1) := dq_4 (kX12_strikes_0 24 rfl)
theorem dX12_strikes_25 : decode cX12_strikes 25 = .ok (.isub, 1) := dq_100 (kX12_strikes_0 25 rfl)
theorem dX12_strikes_26 : decode cX12_strikes 26 = .ok (.istore_n 2, 1) := dq_61 (kX12_strikes_0 26 rfl)
theorem dX12_strikes_27 : decode cX12_strikes 27 = .ok (.iload_n 2, 1) := dq_28 (kX12_strikes_0 27 rfl)
theorem dX12_strikes_28 : decode cX12_strikes 28 = .ok (.ifCond .lt 101, 3) := dq_155 (kX12_strikes_0 28 rfl) (kX12_strikes_0 29 rfl) (kX12_strikes_0 30 rfl) (by decide)
theorem dX12_strikes_31 : decode cX12_strikes 31 = .ok (.iconst 0, 1) := dq_3 (kX12_strikes_0 31 rfl)
theorem dX12_strikes_32 : decode cX12_strikes 32 = .ok (.istore_n 3, 1) := dq_62 (kX12_strikes_1 0 rfl)
theorem dX12_strikes_33 : decode cX12_strikes 33 = .ok (.iload_n 3, 1) := dq_29 (kX12_strikes_1 1 rfl)
theorem dX12_strikes_34 : decode cX12_strikes 34 = .ok (.aload_n 0, 1) := dq_42 (kX12_strikes_1 2 rfl)
theorem dX12_strikes_35 : decode cX12_strikes 35 = .ok (.getfield 115, 3) := dq_180 (kX12_strikes_1 3 rfl) (kX12_strikes_1 4 rfl) (kX12_strikes_1 5 rfl) rfl
theorem dX12_strikes_38 : decode cX12_strikes 38 = .ok (.iload_n 2, 1) := dq_28 (kX12_strikes_1 6 rfl)
theorem dX12_strikes_39 : decode cX12_strikes 39 = .ok (.iaload, 1) := dq_46 (kX12_strikes_1 7 rfl)
theorem dX12_strikes_40 : decode cX12_strikes 40 = .ok (.if_icmp .ge 83, 3) := dq_162 (kX12_strikes_1 8 rfl) (kX12_strikes_1 9 rfl) (kX12_strikes_1 10 rfl) (by decide)
theorem dX12_strikes_43 : decode cX12_strikes 43 = .ok (.aload_n 0, 1) := dq_42 (kX12_strikes_1 11 rfl)
theorem dX12_strikes_44 : decode cX12_strikes 44 = .ok (.getfield 157, 3) := dq_180 (kX12_strikes_1 12 rfl) (kX12_strikes_1 13 rfl) (kX12_strikes_1 14 rfl) rfl
theorem dX12_strikes_47 : decode cX12_strikes 47 = .ok (.iload_n 2, 1) := dq_28 (kX12_strikes_1 15 rfl)
theorem dX12_strikes_48 : decode cX12_strikes 48 = .ok (.baload, 1) := dq_51 (kX12_strikes_1 16 rfl)
theorem dX12_strikes_49 : decode cX12_strikes 49 = .ok (.ifCond .eq 74, 3) := dq_153 (kX12_strikes_1 17 rfl) (kX12_strikes_1 18 rfl) (kX12_strikes_1 19 rfl) (by decide)
theorem dX12_strikes_52 : decode cX12_strikes 52 = .ok (.bipush 12, 2) := dq_16 (kX12_strikes_1 20 rfl) (kX12_strikes_1 21 rfl) (by decide)
theorem dX12_strikes_54 : decode cX12_strikes 54 = .ok (.iload_n 2, 1) := dq_28 (kX12_strikes_1 22 rfl)
theorem dX12_strikes_55 : decode cX12_strikes 55 = .ok (.imul, 1) := dq_104 (kX12_strikes_1 23 rfl)
theorem dX12_strikes_56 : decode cX12_strikes 56 = .ok (.iload_n 3, 1) := dq_29 (kX12_strikes_1 24 rfl)
theorem dX12_strikes_57 : decode cX12_strikes 57 = .ok (.iadd, 1) := dq_96 (kX12_strikes_1 25 rfl)
theorem dX12_strikes_58 : decode cX12_strikes 58 = .ok (.istore 4, 2) := dq_54 (kX12_strikes_1 26 rfl) (kX12_strikes_1 27 rfl) rfl
theorem dX12_strikes_60 : decode cX12_strikes 60 = .ok (.aload_n 0, 1) := dq_42 (kX12_strikes_1 28 rfl)
theorem dX12_strikes_61 : decode cX12_strikes 61 = .ok (.getfield 124, 3) := dq_180 (kX12_strikes_1 29 rfl) (kX12_strikes_1 30 rfl) (kX12_strikes_1 31 rfl) rfl
theorem dX12_strikes_64 : decode cX12_strikes 64 = .ok (.iload 4, 2) := dq_21 (kX12_strikes_2 0 rfl) (kX12_strikes_2 1 rfl) rfl
theorem dX12_strikes_66 : decode cX12_strikes 66 = .ok (.iaload, 1) := dq_46 (kX12_strikes_2 2 rfl)
theorem dX12_strikes_67 : decode cX12_strikes 67 = .ok (.bipush 120, 2) := dq_16 (kX12_strikes_2 3 rfl) (kX12_strikes_2 4 rfl) (by decide)
theorem dX12_strikes_69 : decode cX12_strikes 69 = .ok (.if_icmp .ne 48, 3) := dq_160 (kX12_strikes_2 5 rfl) (kX12_strikes_2 6 rfl) (kX12_strikes_2 7 rfl) (by decide)
theorem dX12_strikes_72 : decode cX12_strikes 72 = .ok (.aload_n 0, 1) := dq_42 (kX12_strikes_2 8 rfl)
theorem dX12_strikes_73 : decode cX12_strikes 73 = .ok (.getfield 160, 3) := dq_180 (kX12_strikes_2 9 rfl) (kX12_strikes_2 10 rfl) (kX12_strikes_2 11 rfl) rfl
theorem dX12_strikes_76 : decode cX12_strikes 76 = .ok (.iload 4, 2) := dq_21 (kX12_strikes_2 12 rfl) (kX12_strikes_2 13 rfl) rfl
theorem dX12_strikes_78 : decode cX12_strikes 78 = .ok (.baload, 1) := dq_51 (kX12_strikes_2 14 rfl)
theorem dX12_strikes_79 : decode cX12_strikes 79 = .ok (.ifCond .ne 38, 3) := dq_154 (kX12_strikes_2 15 rfl) (kX12_strikes_2 16 rfl) (kX12_strikes_2 17 rfl) (by decide)
theorem dX12_strikes_82 : decode cX12_strikes 82 = .ok (.aload_n 0, 1) := dq_42 (kX12_strikes_2 18 rfl)
theorem dX12_strikes_83 : decode cX12_strikes 83 = .ok (.getfield 136, 3) := dq_180 (kX12_strikes_2 19 rfl) (kX12_strikes_2 20 rfl) (kX12_strikes_2 21 rfl) rfl
theorem dX12_strikes_86 : decode cX12_strikes 86 = .ok (.iload 4, 2) := dq_21 (kX12_strikes_2 22 rfl) (kX12_strikes_2 23 rfl) rfl
theorem dX12_strikes_88 : decode cX12_strikes 88 = .ok (.iaload, 1) := dq_46 (kX12_strikes_2 24 rfl)
theorem dX12_strikes_89 : decode cX12_strikes 89 = .ok (.iload_n 2, 1) := dq_28 (kX12_strikes_2 25 rfl)
theorem dX12_strikes_90 : decode cX12_strikes 90 = .ok (.if_icmp .ge 27, 3) := dq_162 (kX12_strikes_2 26 rfl) (kX12_strikes_2 27 rfl) (kX12_strikes_2 28 rfl) (by decide)
theorem dX12_strikes_93 : decode cX12_strikes 93 = .ok (.aload_n 0, 1) := dq_42 (kX12_strikes_2 29 rfl)
theorem dX12_strikes_94 : decode cX12_strikes 94 = .ok (.getfield 160, 3) := dq_180 (kX12_strikes_2 30 rfl) (kX12_strikes_2 31 rfl) (kX12_strikes_3 0 rfl) rfl
theorem dX12_strikes_97 : decode cX12_strikes 97 = .ok (.bipush 12, 2) := dq_16 (kX12_strikes_3 1 rfl) (kX12_strikes_3 2 rfl) (by decide)
theorem dX12_strikes_99 : decode cX12_strikes 99 = .ok (.aload_n 0, 1) := dq_42 (kX12_strikes_3 3 rfl)
theorem dX12_strikes_100 : decode cX12_strikes 100 = .ok (.getfield 136, 3) := dq_180 (kX12_strikes_3 4 rfl) (kX12_strikes_3 5 rfl) (kX12_strikes_3 6 rfl) rfl
theorem dX12_strikes_103 : decode cX12_strikes 103 = .ok (.iload 4, 2) := dq_21 (kX12_strikes_3 7 rfl) (kX12_strikes_3 8 rfl) rfl
theorem dX12_strikes_105 : decode cX12_strikes 105 = .ok (.iaload, 1) := dq_46 (kX12_strikes_3 9 rfl)
theorem dX12_strikes_106 : decode cX12_strikes 106 = .ok (.imul, 1) := dq_104 (kX12_strikes_3 10 rfl)
theorem dX12_strikes_107 : decode cX12_strikes 107 = .ok (.aload_n 0, 1) := dq_42 (kX12_strikes_3 11 rfl)
theorem dX12_strikes_108 : decode cX12_strikes 108 = .ok (.getfield 139, 3) := dq_180 (kX12_strikes_3 12 rfl) (kX12_strikes_3 13 rfl) (kX12_strikes_3 14 rfl) rfl
theorem dX12_strikes_111 : decode cX12_strikes 111 = .ok (.iload 4, 2) := dq_21 (kX12_strikes_3 15 rfl) (kX12_strikes_3 16 rfl) rfl
theorem dX12_strikes_113 : decode cX12_strikes 113 = .ok (.iaload, 1) := dq_46 (kX12_strikes_3 17 rfl)
theorem dX12_strikes_114 : decode cX12_strikes 114 = .ok (.iadd, 1) := dq_96 (kX12_strikes_3 18 rfl)
theorem dX12_strikes_115 : decode cX12_strikes 115 = .ok (.iconst 1, 1) := dq_4 (kX12_strikes_3 19 rfl)
theorem dX12_strikes_116 : decode cX12_strikes 116 = .ok (.bastore, 1) := dq_84 (kX12_strikes_3 20 rfl)
theorem dX12_strikes_117 : decode cX12_strikes 117 = .ok (.iinc 3 1, 3) := dq_132 (kX12_strikes_3 21 rfl) (kX12_strikes_3 22 rfl) (kX12_strikes_3 23 rfl) rfl (by decide)
theorem dX12_strikes_120 : decode cX12_strikes 120 = .ok (.goto (-87), 3) := dq_167 (kX12_strikes_3 24 rfl) (kX12_strikes_3 25 rfl) (kX12_strikes_3 26 rfl) (by decide)
theorem dX12_strikes_123 : decode cX12_strikes 123 = .ok (.iinc 2 (-1), 3) := dq_132 (kX12_strikes_3 27 rfl) (kX12_strikes_3 28 rfl) (kX12_strikes_3 29 rfl) rfl (by decide)
theorem dX12_strikes_126 : decode cX12_strikes 126 = .ok (.goto (-99), 3) := dq_167 (kX12_strikes_3 30 rfl) (kX12_strikes_3 31 rfl) (kX12_strikes_4 0 rfl) (by decide)
theorem dX12_strikes_129 : decode cX12_strikes 129 = .ok (.return_, 1) := dq_177 (kX12_strikes_4 1 rfl)

def bX12_numberBy_0 : List UInt8 := [21, 4, 4, 100, 54, 5, 21, 5, 155, 0, 102, 42, 180, 0, 115, 21, 5, 46, 4, 100, 54, 6, 21, 6, 155, 0, 80, 42, 180, 0, 157, 21]
theorem kX12_numberBy_0 (j : Nat) {b : UInt8} (hj : bX12_numberBy_0[j]? = some b) : AtB cX12_numberBy (0 + j) b := at_of32 (by decide +kernel) j hj
def bX12_numberBy_1 : List UInt8 := [5, 51, 153, 0, 70, 16, 12, 21, 5, 104, 21, 6, 96, 54, 7, 42, 180, 0, 124, 21, 7, 46, 27, 160, 0, 43, 42, 180, 0, 160, 21, 7]
theorem kX12_numberBy_1 (j : Nat) {b : UInt8} (hj : bX12_numberBy_1[j]? = some b) : AtB cX12_numberBy (32 + j) b := at_of32 (by decide +kernel) j hj
def bX12_numberBy_2 : List UInt8 := [51, 154, 0, 33, 42, 180, 0, 136, 21, 7, 46, 28, 160, 0, 22, 42, 180, 0, 139, 21, 7, 46, 29, 160, 0, 11, 42, 180, 0, 133, 21, 7]
theorem kX12_numberBy_2 (j : Nat) {b : UInt8} (hj : bX12_numberBy_2[j]? = some b) : AtB cX12_numberBy (64 + j) b := at_of32 (by decide +kernel) j hj
def bX12_numberBy_3 : List UInt8 := [46, 172, 132, 6, 255, 167, 255, 177, 132, 5, 255, 167, 255, 155, 2, 172]
theorem kX12_numberBy_3 (j : Nat) {b : UInt8} (hj : bX12_numberBy_3[j]? = some b) : AtB cX12_numberBy (96 + j) b := at_of32 (by decide +kernel) j hj
theorem dX12_numberBy_0 : decode cX12_numberBy 0 = .ok (.iload 4, 2) := dq_21 (kX12_numberBy_0 0 rfl) (kX12_numberBy_0 1 rfl) rfl
theorem dX12_numberBy_2 : decode cX12_numberBy 2 = .ok (.iconst 1, 1) := dq_4 (kX12_numberBy_0 2 rfl)
theorem dX12_numberBy_3 : decode cX12_numberBy 3 = .ok (.isub, 1) := dq_100 (kX12_numberBy_0 3 rfl)
theorem dX12_numberBy_4 : decode cX12_numberBy 4 = .ok (.istore 5, 2) := dq_54 (kX12_numberBy_0 4 rfl) (kX12_numberBy_0 5 rfl) rfl
theorem dX12_numberBy_6 : decode cX12_numberBy 6 = .ok (.iload 5, 2) := dq_21 (kX12_numberBy_0 6 rfl) (kX12_numberBy_0 7 rfl) rfl
theorem dX12_numberBy_8 : decode cX12_numberBy 8 = .ok (.ifCond .lt 102, 3) := dq_155 (kX12_numberBy_0 8 rfl) (kX12_numberBy_0 9 rfl) (kX12_numberBy_0 10 rfl) (by decide)
theorem dX12_numberBy_11 : decode cX12_numberBy 11 = .ok (.aload_n 0, 1) := dq_42 (kX12_numberBy_0 11 rfl)
theorem dX12_numberBy_12 : decode cX12_numberBy 12 = .ok (.getfield 115, 3) := dq_180 (kX12_numberBy_0 12 rfl) (kX12_numberBy_0 13 rfl) (kX12_numberBy_0 14 rfl) rfl
theorem dX12_numberBy_15 : decode cX12_numberBy 15 = .ok (.iload 5, 2) := dq_21 (kX12_numberBy_0 15 rfl) (kX12_numberBy_0 16 rfl) rfl
theorem dX12_numberBy_17 : decode cX12_numberBy 17 = .ok (.iaload, 1) := dq_46 (kX12_numberBy_0 17 rfl)
theorem dX12_numberBy_18 : decode cX12_numberBy 18 = .ok (.iconst 1, 1) := dq_4 (kX12_numberBy_0 18 rfl)
theorem dX12_numberBy_19 : decode cX12_numberBy 19 = .ok (.isub, 1) := dq_100 (kX12_numberBy_0 19 rfl)
theorem dX12_numberBy_20 : decode cX12_numberBy 20 = .ok (.istore 6, 2) := dq_54 (kX12_numberBy_0 20 rfl) (kX12_numberBy_0 21 rfl) rfl
theorem dX12_numberBy_22 : decode cX12_numberBy 22 = .ok (.iload 6, 2) := dq_21 (kX12_numberBy_0 22 rfl) (kX12_numberBy_0 23 rfl) rfl
theorem dX12_numberBy_24 : decode cX12_numberBy 24 = .ok (.ifCond .lt 80, 3) := dq_155 (kX12_numberBy_0 24 rfl) (kX12_numberBy_0 25 rfl) (kX12_numberBy_0 26 rfl) (by decide)
theorem dX12_numberBy_27 : decode cX12_numberBy 27 = .ok (.aload_n 0, 1) := dq_42 (kX12_numberBy_0 27 rfl)
theorem dX12_numberBy_28 : decode cX12_numberBy 28 = .ok (.getfield 157, 3) := dq_180 (kX12_numberBy_0 28 rfl) (kX12_numberBy_0 29 rfl) (kX12_numberBy_0 30 rfl) rfl
theorem dX12_numberBy_31 : decode cX12_numberBy 31 = .ok (.iload 5, 2) := dq_21 (kX12_numberBy_0 31 rfl) (kX12_numberBy_1 0 rfl) rfl
theorem dX12_numberBy_33 : decode cX12_numberBy 33 = .ok (.baload, 1) := dq_51 (kX12_numberBy_1 1 rfl)
theorem dX12_numberBy_34 : decode cX12_numberBy 34 = .ok (.ifCond .eq 70, 3) := dq_153 (kX12_numberBy_1 2 rfl) (kX12_numberBy_1 3 rfl) (kX12_numberBy_1 4 rfl) (by decide)
theorem dX12_numberBy_37 : decode cX12_numberBy 37 = .ok (.bipush 12, 2) := dq_16 (kX12_numberBy_1 5 rfl) (kX12_numberBy_1 6 rfl) (by decide)
theorem dX12_numberBy_39 : decode cX12_numberBy 39 = .ok (.iload 5, 2) := dq_21 (kX12_numberBy_1 7 rfl) (kX12_numberBy_1 8 rfl) rfl
theorem dX12_numberBy_41 : decode cX12_numberBy 41 = .ok (.imul, 1) := dq_104 (kX12_numberBy_1 9 rfl)
theorem dX12_numberBy_42 : decode cX12_numberBy 42 = .ok (.iload 6, 2) := dq_21 (kX12_numberBy_1 10 rfl) (kX12_numberBy_1 11 rfl) rfl
theorem dX12_numberBy_44 : decode cX12_numberBy 44 = .ok (.iadd, 1) := dq_96 (kX12_numberBy_1 12 rfl)
theorem dX12_numberBy_45 : decode cX12_numberBy 45 = .ok (.istore 7, 2) := dq_54 (kX12_numberBy_1 13 rfl) (kX12_numberBy_1 14 rfl) rfl
theorem dX12_numberBy_47 : decode cX12_numberBy 47 = .ok (.aload_n 0, 1) := dq_42 (kX12_numberBy_1 15 rfl)
theorem dX12_numberBy_48 : decode cX12_numberBy 48 = .ok (.getfield 124, 3) := dq_180 (kX12_numberBy_1 16 rfl) (kX12_numberBy_1 17 rfl) (kX12_numberBy_1 18 rfl) rfl
theorem dX12_numberBy_51 : decode cX12_numberBy 51 = .ok (.iload 7, 2) := dq_21 (kX12_numberBy_1 19 rfl) (kX12_numberBy_1 20 rfl) rfl
theorem dX12_numberBy_53 : decode cX12_numberBy 53 = .ok (.iaload, 1) := dq_46 (kX12_numberBy_1 21 rfl)
theorem dX12_numberBy_54 : decode cX12_numberBy 54 = .ok (.iload_n 1, 1) := dq_27 (kX12_numberBy_1 22 rfl)
theorem dX12_numberBy_55 : decode cX12_numberBy 55 = .ok (.if_icmp .ne 43, 3) := dq_160 (kX12_numberBy_1 23 rfl) (kX12_numberBy_1 24 rfl) (kX12_numberBy_1 25 rfl) (by decide)
theorem dX12_numberBy_58 : decode cX12_numberBy 58 = .ok (.aload_n 0, 1) := dq_42 (kX12_numberBy_1 26 rfl)
theorem dX12_numberBy_59 : decode cX12_numberBy 59 = .ok (.getfield 160, 3) := dq_180 (kX12_numberBy_1 27 rfl) (kX12_numberBy_1 28 rfl) (kX12_numberBy_1 29 rfl) rfl
theorem dX12_numberBy_62 : decode cX12_numberBy 62 = .ok (.iload 7, 2) := dq_21 (kX12_numberBy_1 30 rfl) (kX12_numberBy_1 31 rfl) rfl
theorem dX12_numberBy_64 : decode cX12_numberBy 64 = .ok (.baload, 1) := dq_51 (kX12_numberBy_2 0 rfl)
theorem dX12_numberBy_65 : decode cX12_numberBy 65 = .ok (.ifCond .ne 33, 3) := dq_154 (kX12_numberBy_2 1 rfl) (kX12_numberBy_2 2 rfl) (kX12_numberBy_2 3 rfl) (by decide)
theorem dX12_numberBy_68 : decode cX12_numberBy 68 = .ok (.aload_n 0, 1) := dq_42 (kX12_numberBy_2 4 rfl)
theorem dX12_numberBy_69 : decode cX12_numberBy 69 = .ok (.getfield 136, 3) := dq_180 (kX12_numberBy_2 5 rfl) (kX12_numberBy_2 6 rfl) (kX12_numberBy_2 7 rfl) rfl
theorem dX12_numberBy_72 : decode cX12_numberBy 72 = .ok (.iload 7, 2) := dq_21 (kX12_numberBy_2 8 rfl) (kX12_numberBy_2 9 rfl) rfl
theorem dX12_numberBy_74 : decode cX12_numberBy 74 = .ok (.iaload, 1) := dq_46 (kX12_numberBy_2 10 rfl)
theorem dX12_numberBy_75 : decode cX12_numberBy 75 = .ok (.iload_n 2, 1) := dq_28 (kX12_numberBy_2 11 rfl)
theorem dX12_numberBy_76 : decode cX12_numberBy 76 = .ok (.if_icmp .ne 22, 3) := dq_160 (kX12_numberBy_2 12 rfl) (kX12_numberBy_2 13 rfl) (kX12_numberBy_2 14 rfl) (by decide)
theorem dX12_numberBy_79 : decode cX12_numberBy 79 = .ok (.aload_n 0, 1) := dq_42 (kX12_numberBy_2 15 rfl)
theorem dX12_numberBy_80 : decode cX12_numberBy 80 = .ok (.getfield 139, 3) := dq_180 (kX12_numberBy_2 16 rfl) (kX12_numberBy_2 17 rfl) (kX12_numberBy_2 18 rfl) rfl
theorem dX12_numberBy_83 : decode cX12_numberBy 83 = .ok (.iload 7, 2) := dq_21 (kX12_numberBy_2 19 rfl) (kX12_numberBy_2 20 rfl) rfl
theorem dX12_numberBy_85 : decode cX12_numberBy 85 = .ok (.iaload, 1) := dq_46 (kX12_numberBy_2 21 rfl)
theorem dX12_numberBy_86 : decode cX12_numberBy 86 = .ok (.iload_n 3, 1) := dq_29 (kX12_numberBy_2 22 rfl)
theorem dX12_numberBy_87 : decode cX12_numberBy 87 = .ok (.if_icmp .ne 11, 3) := dq_160 (kX12_numberBy_2 23 rfl) (kX12_numberBy_2 24 rfl) (kX12_numberBy_2 25 rfl) (by decide)
theorem dX12_numberBy_90 : decode cX12_numberBy 90 = .ok (.aload_n 0, 1) := dq_42 (kX12_numberBy_2 26 rfl)
theorem dX12_numberBy_91 : decode cX12_numberBy 91 = .ok (.getfield 133, 3) := dq_180 (kX12_numberBy_2 27 rfl) (kX12_numberBy_2 28 rfl) (kX12_numberBy_2 29 rfl) rfl
theorem dX12_numberBy_94 : decode cX12_numberBy 94 = .ok (.iload 7, 2) := dq_21 (kX12_numberBy_2 30 rfl) (kX12_numberBy_2 31 rfl) rfl
theorem dX12_numberBy_96 : decode cX12_numberBy 96 = .ok (.iaload, 1) := dq_46 (kX12_numberBy_3 0 rfl)
theorem dX12_numberBy_97 : decode cX12_numberBy 97 = .ok (.ireturn, 1) := dq_172 (kX12_numberBy_3 1 rfl)
theorem dX12_numberBy_98 : decode cX12_numberBy 98 = .ok (.iinc 6 (-1), 3) := dq_132 (kX12_numberBy_3 2 rfl) (kX12_numberBy_3 3 rfl) (kX12_numberBy_3 4 rfl) rfl (by decide)
theorem dX12_numberBy_101 : decode cX12_numberBy 101 = .ok (.goto (-79), 3) := dq_167 (kX12_numberBy_3 5 rfl) (kX12_numberBy_3 6 rfl) (kX12_numberBy_3 7 rfl) (by decide)
theorem dX12_numberBy_104 : decode cX12_numberBy 104 = .ok (.iinc 5 (-1), 3) := dq_132 (kX12_numberBy_3 8 rfl) (kX12_numberBy_3 9 rfl) (kX12_numberBy_3 10 rfl) rfl (by decide)
theorem dX12_numberBy_107 : decode cX12_numberBy 107 = .ok (.goto (-101), 3) := dq_167 (kX12_numberBy_3 11 rfl) (kX12_numberBy_3 12 rfl) (kX12_numberBy_3 13 rfl) (by decide)
theorem dX12_numberBy_110 : decode cX12_numberBy 110 = .ok (.iconst (-1), 1) := dq_2 (kX12_numberBy_3 14 rfl)
theorem dX12_numberBy_111 : decode cX12_numberBy 111 = .ok (.ireturn, 1) := dq_172 (kX12_numberBy_3 15 rfl)

def bX12_binds_0 : List UInt8 := [3, 62, 29, 42, 180, 2, 23, 162, 0, 115, 28, 42, 180, 0, 118, 29, 46, 42, 180, 0, 121, 29, 46, 184, 1, 115, 54, 4, 42, 180, 0, 142]
theorem kX12_binds_0 (j : Nat) {b : UInt8} (hj : bX12_binds_0[j]? = some b) : AtB cX12_binds (0 + j) b := at_of32 (by decide +kernel) j hj
def bX12_binds_1 : List UInt8 := [16, 20, 27, 104, 29, 96, 46, 54, 5, 29, 158, 0, 59, 21, 4, 153, 0, 54, 21, 5, 2, 159, 0, 48, 42, 29, 182, 2, 38, 42, 16, 103]
theorem kX12_binds_1 (j : Nat) {b : UInt8} (hj : bX12_binds_1[j]? = some b) : AtB cX12_binds (32 + j) b := at_of32 (by decide +kernel) j hj
def bX12_binds_2 : List UInt8 := [3, 3, 29, 182, 2, 41, 54, 6, 28, 21, 5, 100, 21, 6, 2, 160, 0, 7, 3, 167, 0, 5, 21, 6, 161, 0, 7, 4, 167, 0, 4, 3]
theorem kX12_binds_2 (j : Nat) {b : UInt8} (hj : bX12_binds_2[j]? = some b) : AtB cX12_binds (64 + j) b := at_of32 (by decide +kernel) j hj
def bX12_binds_3 : List UInt8 := [54, 4, 167, 0, 10, 29, 158, 0, 6, 3, 54, 4, 42, 180, 0, 157, 29, 21, 4, 84, 132, 3, 1, 167, 255, 139, 42, 42, 180, 2, 23, 182]
theorem kX12_binds_3 (j : Nat) {b : UInt8} (hj : bX12_binds_3[j]? = some b) : AtB cX12_binds (96 + j) b := at_of32 (by decide +kernel) j hj
def bX12_binds_4 : List UInt8 := [2, 38, 177]
theorem kX12_binds_4 (j : Nat) {b : UInt8} (hj : bX12_binds_4[j]? = some b) : AtB cX12_binds (128 + j) b := at_of32 (by decide +kernel) j hj
theorem dX12_binds_0 : decode cX12_binds 0 = .ok (.iconst 0, 1) := dq_3 (kX12_binds_0 0 rfl)
theorem dX12_binds_1 : decode cX12_binds 1 = .ok (.istore_n 3, 1) := dq_62 (kX12_binds_0 1 rfl)
theorem dX12_binds_2 : decode cX12_binds 2 = .ok (.iload_n 3, 1) := dq_29 (kX12_binds_0 2 rfl)
theorem dX12_binds_3 : decode cX12_binds 3 = .ok (.aload_n 0, 1) := dq_42 (kX12_binds_0 3 rfl)
theorem dX12_binds_4 : decode cX12_binds 4 = .ok (.getfield 535, 3) := dq_180 (kX12_binds_0 4 rfl) (kX12_binds_0 5 rfl) (kX12_binds_0 6 rfl) rfl
theorem dX12_binds_7 : decode cX12_binds 7 = .ok (.if_icmp .ge 115, 3) := dq_162 (kX12_binds_0 7 rfl) (kX12_binds_0 8 rfl) (kX12_binds_0 9 rfl) (by decide)
theorem dX12_binds_10 : decode cX12_binds 10 = .ok (.iload_n 2, 1) := dq_28 (kX12_binds_0 10 rfl)
theorem dX12_binds_11 : decode cX12_binds 11 = .ok (.aload_n 0, 1) := dq_42 (kX12_binds_0 11 rfl)
theorem dX12_binds_12 : decode cX12_binds 12 = .ok (.getfield 118, 3) := dq_180 (kX12_binds_0 12 rfl) (kX12_binds_0 13 rfl) (kX12_binds_0 14 rfl) rfl
theorem dX12_binds_15 : decode cX12_binds 15 = .ok (.iload_n 3, 1) := dq_29 (kX12_binds_0 15 rfl)
theorem dX12_binds_16 : decode cX12_binds 16 = .ok (.iaload, 1) := dq_46 (kX12_binds_0 16 rfl)
theorem dX12_binds_17 : decode cX12_binds 17 = .ok (.aload_n 0, 1) := dq_42 (kX12_binds_0 17 rfl)
theorem dX12_binds_18 : decode cX12_binds 18 = .ok (.getfield 121, 3) := dq_180 (kX12_binds_0 18 rfl) (kX12_binds_0 19 rfl) (kX12_binds_0 20 rfl) rfl
theorem dX12_binds_21 : decode cX12_binds 21 = .ok (.iload_n 3, 1) := dq_29 (kX12_binds_0 21 rfl)
theorem dX12_binds_22 : decode cX12_binds 22 = .ok (.iaload, 1) := dq_46 (kX12_binds_0 22 rfl)
theorem dX12_binds_23 : decode cX12_binds 23 = .ok (.invokestatic 371, 3) := dq_184 (kX12_binds_0 23 rfl) (kX12_binds_0 24 rfl) (kX12_binds_0 25 rfl) rfl
theorem dX12_binds_26 : decode cX12_binds 26 = .ok (.istore 4, 2) := dq_54 (kX12_binds_0 26 rfl) (kX12_binds_0 27 rfl) rfl
theorem dX12_binds_28 : decode cX12_binds 28 = .ok (.aload_n 0, 1) := dq_42 (kX12_binds_0 28 rfl)
theorem dX12_binds_29 : decode cX12_binds 29 = .ok (.getfield 142, 3) := dq_180 (kX12_binds_0 29 rfl) (kX12_binds_0 30 rfl) (kX12_binds_0 31 rfl) rfl
theorem dX12_binds_32 : decode cX12_binds 32 = .ok (.bipush 20, 2) := dq_16 (kX12_binds_1 0 rfl) (kX12_binds_1 1 rfl) (by decide)
theorem dX12_binds_34 : decode cX12_binds 34 = .ok (.iload_n 1, 1) := dq_27 (kX12_binds_1 2 rfl)
theorem dX12_binds_35 : decode cX12_binds 35 = .ok (.imul, 1) := dq_104 (kX12_binds_1 3 rfl)
theorem dX12_binds_36 : decode cX12_binds 36 = .ok (.iload_n 3, 1) := dq_29 (kX12_binds_1 4 rfl)
theorem dX12_binds_37 : decode cX12_binds 37 = .ok (.iadd, 1) := dq_96 (kX12_binds_1 5 rfl)
theorem dX12_binds_38 : decode cX12_binds 38 = .ok (.iaload, 1) := dq_46 (kX12_binds_1 6 rfl)
theorem dX12_binds_39 : decode cX12_binds 39 = .ok (.istore 5, 2) := dq_54 (kX12_binds_1 7 rfl) (kX12_binds_1 8 rfl) rfl
theorem dX12_binds_41 : decode cX12_binds 41 = .ok (.iload_n 3, 1) := dq_29 (kX12_binds_1 9 rfl)
theorem dX12_binds_42 : decode cX12_binds 42 = .ok (.ifCond .le 59, 3) := dq_158 (kX12_binds_1 10 rfl) (kX12_binds_1 11 rfl) (kX12_binds_1 12 rfl) (by decide)
theorem dX12_binds_45 : decode cX12_binds 45 = .ok (.iload 4, 2) := dq_21 (kX12_binds_1 13 rfl) (kX12_binds_1 14 rfl) rfl
theorem dX12_binds_47 : decode cX12_binds 47 = .ok (.ifCond .eq 54, 3) := dq_153 (kX12_binds_1 15 rfl) (kX12_binds_1 16 rfl) (kX12_binds_1 17 rfl) (by decide)
theorem dX12_binds_50 : decode cX12_binds 50 = .ok (.iload 5, 2) := dq_21 (kX12_binds_1 18 rfl) (kX12_binds_1 19 rfl) rfl
theorem dX12_binds_52 : decode cX12_binds 52 = .ok (.iconst (-1), 1) := dq_2 (kX12_binds_1 20 rfl)
theorem dX12_binds_53 : decode cX12_binds 53 = .ok (.if_icmp .eq 48, 3) := dq_159 (kX12_binds_1 21 rfl) (kX12_binds_1 22 rfl) (kX12_binds_1 23 rfl) (by decide)
theorem dX12_binds_56 : decode cX12_binds 56 = .ok (.aload_n 0, 1) := dq_42 (kX12_binds_1 24 rfl)
theorem dX12_binds_57 : decode cX12_binds 57 = .ok (.iload_n 3, 1) := dq_29 (kX12_binds_1 25 rfl)
theorem dX12_binds_58 : decode cX12_binds 58 = .ok (.invokevirtual 550, 3) := dq_182 (kX12_binds_1 26 rfl) (kX12_binds_1 27 rfl) (kX12_binds_1 28 rfl) rfl
theorem dX12_binds_61 : decode cX12_binds 61 = .ok (.aload_n 0, 1) := dq_42 (kX12_binds_1 29 rfl)
theorem dX12_binds_62 : decode cX12_binds 62 = .ok (.bipush 103, 2) := dq_16 (kX12_binds_1 30 rfl) (kX12_binds_1 31 rfl) (by decide)
theorem dX12_binds_64 : decode cX12_binds 64 = .ok (.iconst 0, 1) := dq_3 (kX12_binds_2 0 rfl)
theorem dX12_binds_65 : decode cX12_binds 65 = .ok (.iconst 0, 1) := dq_3 (kX12_binds_2 1 rfl)
theorem dX12_binds_66 : decode cX12_binds 66 = .ok (.iload_n 3, 1) := dq_29 (kX12_binds_2 2 rfl)
theorem dX12_binds_67 : decode cX12_binds 67 = .ok (.invokevirtual 553, 3) := dq_182 (kX12_binds_2 3 rfl) (kX12_binds_2 4 rfl) (kX12_binds_2 5 rfl) rfl
theorem dX12_binds_70 : decode cX12_binds 70 = .ok (.istore 6, 2) := dq_54 (kX12_binds_2 6 rfl) (kX12_binds_2 7 rfl) rfl
theorem dX12_binds_72 : decode cX12_binds 72 = .ok (.iload_n 2, 1) := dq_28 (kX12_binds_2 8 rfl)
theorem dX12_binds_73 : decode cX12_binds 73 = .ok (.iload 5, 2) := dq_21 (kX12_binds_2 9 rfl) (kX12_binds_2 10 rfl) rfl
theorem dX12_binds_75 : decode cX12_binds 75 = .ok (.isub, 1) := dq_100 (kX12_binds_2 11 rfl)
theorem dX12_binds_76 : decode cX12_binds 76 = .ok (.iload 6, 2) := dq_21 (kX12_binds_2 12 rfl) (kX12_binds_2 13 rfl) rfl
theorem dX12_binds_78 : decode cX12_binds 78 = .ok (.iconst (-1), 1) := dq_2 (kX12_binds_2 14 rfl)
theorem dX12_binds_79 : decode cX12_binds 79 = .ok (.if_icmp .ne 7, 3) := dq_160 (kX12_binds_2 15 rfl) (kX12_binds_2 16 rfl) (kX12_binds_2 17 rfl) (by decide)
theorem dX12_binds_82 : decode cX12_binds 82 = .ok (.iconst 0, 1) := dq_3 (kX12_binds_2 18 rfl)
theorem dX12_binds_83 : decode cX12_binds 83 = .ok (.goto 5, 3) := dq_167 (kX12_binds_2 19 rfl) (kX12_binds_2 20 rfl) (kX12_binds_2 21 rfl) (by decide)
theorem dX12_binds_86 : decode cX12_binds 86 = .ok (.iload 6, 2) := dq_21 (kX12_binds_2 22 rfl) (kX12_binds_2 23 rfl) rfl
theorem dX12_binds_88 : decode cX12_binds 88 = .ok (.if_icmp .lt 7, 3) := dq_161 (kX12_binds_2 24 rfl) (kX12_binds_2 25 rfl) (kX12_binds_2 26 rfl) (by decide)
theorem dX12_binds_91 : decode cX12_binds 91 = .ok (.iconst 1, 1) := dq_4 (kX12_binds_2 27 rfl)
theorem dX12_binds_92 : decode cX12_binds 92 = .ok (.goto 4, 3) := dq_167 (kX12_binds_2 28 rfl) (kX12_binds_2 29 rfl) (kX12_binds_2 30 rfl) (by decide)
theorem dX12_binds_95 : decode cX12_binds 95 = .ok (.iconst 0, 1) := dq_3 (kX12_binds_2 31 rfl)
theorem dX12_binds_96 : decode cX12_binds 96 = .ok (.istore 4, 2) := dq_54 (kX12_binds_3 0 rfl) (kX12_binds_3 1 rfl) rfl
theorem dX12_binds_98 : decode cX12_binds 98 = .ok (.goto 10, 3) := dq_167 (kX12_binds_3 2 rfl) (kX12_binds_3 3 rfl) (kX12_binds_3 4 rfl) (by decide)
theorem dX12_binds_101 : decode cX12_binds 101 = .ok (.iload_n 3, 1) := dq_29 (kX12_binds_3 5 rfl)
theorem dX12_binds_102 : decode cX12_binds 102 = .ok (.ifCond .le 6, 3) := dq_158 (kX12_binds_3 6 rfl) (kX12_binds_3 7 rfl) (kX12_binds_3 8 rfl) (by decide)
theorem dX12_binds_105 : decode cX12_binds 105 = .ok (.iconst 0, 1) := dq_3 (kX12_binds_3 9 rfl)
theorem dX12_binds_106 : decode cX12_binds 106 = .ok (.istore 4, 2) := dq_54 (kX12_binds_3 10 rfl) (kX12_binds_3 11 rfl) rfl
theorem dX12_binds_108 : decode cX12_binds 108 = .ok (.aload_n 0, 1) := dq_42 (kX12_binds_3 12 rfl)
theorem dX12_binds_109 : decode cX12_binds 109 = .ok (.getfield 157, 3) := dq_180 (kX12_binds_3 13 rfl) (kX12_binds_3 14 rfl) (kX12_binds_3 15 rfl) rfl
theorem dX12_binds_112 : decode cX12_binds 112 = .ok (.iload_n 3, 1) := dq_29 (kX12_binds_3 16 rfl)
theorem dX12_binds_113 : decode cX12_binds 113 = .ok (.iload 4, 2) := dq_21 (kX12_binds_3 17 rfl) (kX12_binds_3 18 rfl) rfl
theorem dX12_binds_115 : decode cX12_binds 115 = .ok (.bastore, 1) := dq_84 (kX12_binds_3 19 rfl)
theorem dX12_binds_116 : decode cX12_binds 116 = .ok (.iinc 3 1, 3) := dq_132 (kX12_binds_3 20 rfl) (kX12_binds_3 21 rfl) (kX12_binds_3 22 rfl) rfl (by decide)
theorem dX12_binds_119 : decode cX12_binds 119 = .ok (.goto (-117), 3) := dq_167 (kX12_binds_3 23 rfl) (kX12_binds_3 24 rfl) (kX12_binds_3 25 rfl) (by decide)
theorem dX12_binds_122 : decode cX12_binds 122 = .ok (.aload_n 0, 1) := dq_42 (kX12_binds_3 26 rfl)
theorem dX12_binds_123 : decode cX12_binds 123 = .ok (.aload_n 0, 1) := dq_42 (kX12_binds_3 27 rfl)
theorem dX12_binds_124 : decode cX12_binds 124 = .ok (.getfield 535, 3) := dq_180 (kX12_binds_3 28 rfl) (kX12_binds_3 29 rfl) (kX12_binds_3 30 rfl) rfl
theorem dX12_binds_127 : decode cX12_binds 127 = .ok (.invokevirtual 550, 3) := dq_182 (kX12_binds_3 31 rfl) (kX12_binds_4 0 rfl) (kX12_binds_4 1 rfl) rfl
theorem dX12_binds_130 : decode cX12_binds 130 = .ok (.return_, 1) := dq_177 (kX12_binds_4 2 rfl)

def bX12_counts_0 : List UInt8 := [42, 27, 182, 2, 29, 153, 0, 18, 42, 28, 182, 1, 150, 153, 0, 10, 29, 184, 1, 153, 154, 0, 5, 2, 172, 42, 28, 29, 182, 2, 45, 3]
theorem kX12_counts_0 (j : Nat) {b : UInt8} (hj : bX12_counts_0[j]? = some b) : AtB cX12_counts (0 + j) b := at_of32 (by decide +kernel) j hj
def bX12_counts_1 : List UInt8 := [54, 4, 3, 54, 5, 21, 5, 42, 180, 0, 115, 27, 46, 162, 0, 43, 42, 180, 0, 157, 27, 51, 153, 0, 34, 21, 4, 42, 180, 0, 160, 16]
theorem kX12_counts_1 (j : Nat) {b : UInt8} (hj : bX12_counts_1[j]? = some b) : AtB cX12_counts (32 + j) b := at_of32 (by decide +kernel) j hj
def bX12_counts_2 : List UInt8 := [12, 27, 104, 21, 5, 96, 51, 153, 0, 7, 3, 167, 0, 4, 4, 96, 54, 4, 132, 5, 1, 167, 255, 208, 21, 4, 172]
theorem kX12_counts_2 (j : Nat) {b : UInt8} (hj : bX12_counts_2[j]? = some b) : AtB cX12_counts (64 + j) b := at_of32 (by decide +kernel) j hj
theorem dX12_counts_0 : decode cX12_counts 0 = .ok (.aload_n 0, 1) := dq_42 (kX12_counts_0 0 rfl)
theorem dX12_counts_1 : decode cX12_counts 1 = .ok (.iload_n 1, 1) := dq_27 (kX12_counts_0 1 rfl)
theorem dX12_counts_2 : decode cX12_counts 2 = .ok (.invokevirtual 541, 3) := dq_182 (kX12_counts_0 2 rfl) (kX12_counts_0 3 rfl) (kX12_counts_0 4 rfl) rfl
theorem dX12_counts_5 : decode cX12_counts 5 = .ok (.ifCond .eq 18, 3) := dq_153 (kX12_counts_0 5 rfl) (kX12_counts_0 6 rfl) (kX12_counts_0 7 rfl) (by decide)
theorem dX12_counts_8 : decode cX12_counts 8 = .ok (.aload_n 0, 1) := dq_42 (kX12_counts_0 8 rfl)
theorem dX12_counts_9 : decode cX12_counts 9 = .ok (.iload_n 2, 1) := dq_28 (kX12_counts_0 9 rfl)
theorem dX12_counts_10 : decode cX12_counts 10 = .ok (.invokevirtual 406, 3) := dq_182 (kX12_counts_0 10 rfl) (kX12_counts_0 11 rfl) (kX12_counts_0 12 rfl) rfl
theorem dX12_counts_13 : decode cX12_counts 13 = .ok (.ifCond .eq 10, 3) := dq_153 (kX12_counts_0 13 rfl) (kX12_counts_0 14 rfl) (kX12_counts_0 15 rfl) (by decide)
theorem dX12_counts_16 : decode cX12_counts 16 = .ok (.iload_n 3, 1) := dq_29 (kX12_counts_0 16 rfl)
theorem dX12_counts_17 : decode cX12_counts 17 = .ok (.invokestatic 409, 3) := dq_184 (kX12_counts_0 17 rfl) (kX12_counts_0 18 rfl) (kX12_counts_0 19 rfl) rfl
theorem dX12_counts_20 : decode cX12_counts 20 = .ok (.ifCond .ne 5, 3) := dq_154 (kX12_counts_0 20 rfl) (kX12_counts_0 21 rfl) (kX12_counts_0 22 rfl) (by decide)
theorem dX12_counts_23 : decode cX12_counts 23 = .ok (.iconst (-1), 1) := dq_2 (kX12_counts_0 23 rfl)
theorem dX12_counts_24 : decode cX12_counts 24 = .ok (.ireturn, 1) := dq_172 (kX12_counts_0 24 rfl)
theorem dX12_counts_25 : decode cX12_counts 25 = .ok (.aload_n 0, 1) := dq_42 (kX12_counts_0 25 rfl)
theorem dX12_counts_26 : decode cX12_counts 26 = .ok (.iload_n 2, 1) := dq_28 (kX12_counts_0 26 rfl)
theorem dX12_counts_27 : decode cX12_counts 27 = .ok (.iload_n 3, 1) := dq_29 (kX12_counts_0 27 rfl)
theorem dX12_counts_28 : decode cX12_counts 28 = .ok (.invokevirtual 557, 3) := dq_182 (kX12_counts_0 28 rfl) (kX12_counts_0 29 rfl) (kX12_counts_0 30 rfl) rfl
theorem dX12_counts_31 : decode cX12_counts 31 = .ok (.iconst 0, 1) := dq_3 (kX12_counts_0 31 rfl)
theorem dX12_counts_32 : decode cX12_counts 32 = .ok (.istore 4, 2) := dq_54 (kX12_counts_1 0 rfl) (kX12_counts_1 1 rfl) rfl
theorem dX12_counts_34 : decode cX12_counts 34 = .ok (.iconst 0, 1) := dq_3 (kX12_counts_1 2 rfl)
theorem dX12_counts_35 : decode cX12_counts 35 = .ok (.istore 5, 2) := dq_54 (kX12_counts_1 3 rfl) (kX12_counts_1 4 rfl) rfl
theorem dX12_counts_37 : decode cX12_counts 37 = .ok (.iload 5, 2) := dq_21 (kX12_counts_1 5 rfl) (kX12_counts_1 6 rfl) rfl
theorem dX12_counts_39 : decode cX12_counts 39 = .ok (.aload_n 0, 1) := dq_42 (kX12_counts_1 7 rfl)
theorem dX12_counts_40 : decode cX12_counts 40 = .ok (.getfield 115, 3) := dq_180 (kX12_counts_1 8 rfl) (kX12_counts_1 9 rfl) (kX12_counts_1 10 rfl) rfl
theorem dX12_counts_43 : decode cX12_counts 43 = .ok (.iload_n 1, 1) := dq_27 (kX12_counts_1 11 rfl)
theorem dX12_counts_44 : decode cX12_counts 44 = .ok (.iaload, 1) := dq_46 (kX12_counts_1 12 rfl)
theorem dX12_counts_45 : decode cX12_counts 45 = .ok (.if_icmp .ge 43, 3) := dq_162 (kX12_counts_1 13 rfl) (kX12_counts_1 14 rfl) (kX12_counts_1 15 rfl) (by decide)
theorem dX12_counts_48 : decode cX12_counts 48 = .ok (.aload_n 0, 1) := dq_42 (kX12_counts_1 16 rfl)
theorem dX12_counts_49 : decode cX12_counts 49 = .ok (.getfield 157, 3) := dq_180 (kX12_counts_1 17 rfl) (kX12_counts_1 18 rfl) (kX12_counts_1 19 rfl) rfl
theorem dX12_counts_52 : decode cX12_counts 52 = .ok (.iload_n 1, 1) := dq_27 (kX12_counts_1 20 rfl)
theorem dX12_counts_53 : decode cX12_counts 53 = .ok (.baload, 1) := dq_51 (kX12_counts_1 21 rfl)
theorem dX12_counts_54 : decode cX12_counts 54 = .ok (.ifCond .eq 34, 3) := dq_153 (kX12_counts_1 22 rfl) (kX12_counts_1 23 rfl) (kX12_counts_1 24 rfl) (by decide)
theorem dX12_counts_57 : decode cX12_counts 57 = .ok (.iload 4, 2) := dq_21 (kX12_counts_1 25 rfl) (kX12_counts_1 26 rfl) rfl
theorem dX12_counts_59 : decode cX12_counts 59 = .ok (.aload_n 0, 1) := dq_42 (kX12_counts_1 27 rfl)
theorem dX12_counts_60 : decode cX12_counts 60 = .ok (.getfield 160, 3) := dq_180 (kX12_counts_1 28 rfl) (kX12_counts_1 29 rfl) (kX12_counts_1 30 rfl) rfl
theorem dX12_counts_63 : decode cX12_counts 63 = .ok (.bipush 12, 2) := dq_16 (kX12_counts_1 31 rfl) (kX12_counts_2 0 rfl) (by decide)
theorem dX12_counts_65 : decode cX12_counts 65 = .ok (.iload_n 1, 1) := dq_27 (kX12_counts_2 1 rfl)
theorem dX12_counts_66 : decode cX12_counts 66 = .ok (.imul, 1) := dq_104 (kX12_counts_2 2 rfl)
theorem dX12_counts_67 : decode cX12_counts 67 = .ok (.iload 5, 2) := dq_21 (kX12_counts_2 3 rfl) (kX12_counts_2 4 rfl) rfl
theorem dX12_counts_69 : decode cX12_counts 69 = .ok (.iadd, 1) := dq_96 (kX12_counts_2 5 rfl)
theorem dX12_counts_70 : decode cX12_counts 70 = .ok (.baload, 1) := dq_51 (kX12_counts_2 6 rfl)
theorem dX12_counts_71 : decode cX12_counts 71 = .ok (.ifCond .eq 7, 3) := dq_153 (kX12_counts_2 7 rfl) (kX12_counts_2 8 rfl) (kX12_counts_2 9 rfl) (by decide)
theorem dX12_counts_74 : decode cX12_counts 74 = .ok (.iconst 0, 1) := dq_3 (kX12_counts_2 10 rfl)
theorem dX12_counts_75 : decode cX12_counts 75 = .ok (.goto 4, 3) := dq_167 (kX12_counts_2 11 rfl) (kX12_counts_2 12 rfl) (kX12_counts_2 13 rfl) (by decide)
theorem dX12_counts_78 : decode cX12_counts 78 = .ok (.iconst 1, 1) := dq_4 (kX12_counts_2 14 rfl)
theorem dX12_counts_79 : decode cX12_counts 79 = .ok (.iadd, 1) := dq_96 (kX12_counts_2 15 rfl)
theorem dX12_counts_80 : decode cX12_counts 80 = .ok (.istore 4, 2) := dq_54 (kX12_counts_2 16 rfl) (kX12_counts_2 17 rfl) rfl
theorem dX12_counts_82 : decode cX12_counts 82 = .ok (.iinc 5 1, 3) := dq_132 (kX12_counts_2 18 rfl) (kX12_counts_2 19 rfl) (kX12_counts_2 20 rfl) rfl (by decide)
theorem dX12_counts_85 : decode cX12_counts 85 = .ok (.goto (-48), 3) := dq_167 (kX12_counts_2 21 rfl) (kX12_counts_2 22 rfl) (kX12_counts_2 23 rfl) (by decide)
theorem dX12_counts_88 : decode cX12_counts 88 = .ok (.iload 4, 2) := dq_21 (kX12_counts_2 24 rfl) (kX12_counts_2 25 rfl) rfl
theorem dX12_counts_90 : decode cX12_counts 90 = .ok (.ireturn, 1) := dq_172 (kX12_counts_2 26 rfl)

def bX12_isAsleep_0 : List UInt8 := [42, 27, 28, 182, 2, 45, 42, 16, 122, 3, 3, 42, 180, 2, 23, 182, 2, 41, 2, 159, 0, 7, 4, 167, 0, 4, 3, 172]
theorem kX12_isAsleep_0 (j : Nat) {b : UInt8} (hj : bX12_isAsleep_0[j]? = some b) : AtB cX12_isAsleep (0 + j) b := at_of32 (by decide +kernel) j hj
theorem dX12_isAsleep_0 : decode cX12_isAsleep 0 = .ok (.aload_n 0, 1) := dq_42 (kX12_isAsleep_0 0 rfl)
theorem dX12_isAsleep_1 : decode cX12_isAsleep 1 = .ok (.iload_n 1, 1) := dq_27 (kX12_isAsleep_0 1 rfl)
theorem dX12_isAsleep_2 : decode cX12_isAsleep 2 = .ok (.iload_n 2, 1) := dq_28 (kX12_isAsleep_0 2 rfl)
theorem dX12_isAsleep_3 : decode cX12_isAsleep 3 = .ok (.invokevirtual 557, 3) := dq_182 (kX12_isAsleep_0 3 rfl) (kX12_isAsleep_0 4 rfl) (kX12_isAsleep_0 5 rfl) rfl
theorem dX12_isAsleep_6 : decode cX12_isAsleep 6 = .ok (.aload_n 0, 1) := dq_42 (kX12_isAsleep_0 6 rfl)
theorem dX12_isAsleep_7 : decode cX12_isAsleep 7 = .ok (.bipush 122, 2) := dq_16 (kX12_isAsleep_0 7 rfl) (kX12_isAsleep_0 8 rfl) (by decide)
theorem dX12_isAsleep_9 : decode cX12_isAsleep 9 = .ok (.iconst 0, 1) := dq_3 (kX12_isAsleep_0 9 rfl)
theorem dX12_isAsleep_10 : decode cX12_isAsleep 10 = .ok (.iconst 0, 1) := dq_3 (kX12_isAsleep_0 10 rfl)
theorem dX12_isAsleep_11 : decode cX12_isAsleep 11 = .ok (.aload_n 0, 1) := dq_42 (kX12_isAsleep_0 11 rfl)
theorem dX12_isAsleep_12 : decode cX12_isAsleep 12 = .ok (.getfield 535, 3) := dq_180 (kX12_isAsleep_0 12 rfl) (kX12_isAsleep_0 13 rfl) (kX12_isAsleep_0 14 rfl) rfl
theorem dX12_isAsleep_15 : decode cX12_isAsleep 15 = .ok (.invokevirtual 553, 3) := dq_182 (kX12_isAsleep_0 15 rfl) (kX12_isAsleep_0 16 rfl) (kX12_isAsleep_0 17 rfl) rfl
theorem dX12_isAsleep_18 : decode cX12_isAsleep 18 = .ok (.iconst (-1), 1) := dq_2 (kX12_isAsleep_0 18 rfl)
theorem dX12_isAsleep_19 : decode cX12_isAsleep 19 = .ok (.if_icmp .eq 7, 3) := dq_159 (kX12_isAsleep_0 19 rfl) (kX12_isAsleep_0 20 rfl) (kX12_isAsleep_0 21 rfl) (by decide)
theorem dX12_isAsleep_22 : decode cX12_isAsleep 22 = .ok (.iconst 1, 1) := dq_4 (kX12_isAsleep_0 22 rfl)
theorem dX12_isAsleep_23 : decode cX12_isAsleep 23 = .ok (.goto 4, 3) := dq_167 (kX12_isAsleep_0 23 rfl) (kX12_isAsleep_0 24 rfl) (kX12_isAsleep_0 25 rfl) (by decide)
theorem dX12_isAsleep_26 : decode cX12_isAsleep 26 = .ok (.iconst 0, 1) := dq_3 (kX12_isAsleep_0 26 rfl)
theorem dX12_isAsleep_27 : decode cX12_isAsleep 27 = .ok (.ireturn, 1) := dq_172 (kX12_isAsleep_0 27 rfl)

def bX12_asked_0 : List UInt8 := [42, 28, 29, 182, 2, 45, 42, 27, 3, 3, 42, 180, 2, 23, 182, 2, 41, 54, 5, 21, 5, 2, 160, 0, 8, 21, 4, 167, 0, 5, 21, 5]
theorem kX12_asked_0 (j : Nat) {b : UInt8} (hj : bX12_asked_0[j]? = some b) : AtB cX12_asked (0 + j) b := at_of32 (by decide +kernel) j hj
def bX12_asked_1 : List UInt8 := [172]
theorem kX12_asked_1 (j : Nat) {b : UInt8} (hj : bX12_asked_1[j]? = some b) : AtB cX12_asked (32 + j) b := at_of32 (by decide +kernel) j hj
theorem dX12_asked_0 : decode cX12_asked 0 = .ok (.aload_n 0, 1) := dq_42 (kX12_asked_0 0 rfl)
theorem dX12_asked_1 : decode cX12_asked 1 = .ok (.iload_n 2, 1) := dq_28 (kX12_asked_0 1 rfl)
theorem dX12_asked_2 : decode cX12_asked 2 = .ok (.iload_n 3, 1) := dq_29 (kX12_asked_0 2 rfl)
theorem dX12_asked_3 : decode cX12_asked 3 = .ok (.invokevirtual 557, 3) := dq_182 (kX12_asked_0 3 rfl) (kX12_asked_0 4 rfl) (kX12_asked_0 5 rfl) rfl
theorem dX12_asked_6 : decode cX12_asked 6 = .ok (.aload_n 0, 1) := dq_42 (kX12_asked_0 6 rfl)
theorem dX12_asked_7 : decode cX12_asked 7 = .ok (.iload_n 1, 1) := dq_27 (kX12_asked_0 7 rfl)
theorem dX12_asked_8 : decode cX12_asked 8 = .ok (.iconst 0, 1) := dq_3 (kX12_asked_0 8 rfl)
theorem dX12_asked_9 : decode cX12_asked 9 = .ok (.iconst 0, 1) := dq_3 (kX12_asked_0 9 rfl)
theorem dX12_asked_10 : decode cX12_asked 10 = .ok (.aload_n 0, 1) := dq_42 (kX12_asked_0 10 rfl)
theorem dX12_asked_11 : decode cX12_asked 11 = .ok (.getfield 535, 3) := dq_180 (kX12_asked_0 11 rfl) (kX12_asked_0 12 rfl) (kX12_asked_0 13 rfl) rfl
theorem dX12_asked_14 : decode cX12_asked 14 = .ok (.invokevirtual 553, 3) := dq_182 (kX12_asked_0 14 rfl) (kX12_asked_0 15 rfl) (kX12_asked_0 16 rfl) rfl
theorem dX12_asked_17 : decode cX12_asked 17 = .ok (.istore 5, 2) := dq_54 (kX12_asked_0 17 rfl) (kX12_asked_0 18 rfl) rfl
theorem dX12_asked_19 : decode cX12_asked 19 = .ok (.iload 5, 2) := dq_21 (kX12_asked_0 19 rfl) (kX12_asked_0 20 rfl) rfl
theorem dX12_asked_21 : decode cX12_asked 21 = .ok (.iconst (-1), 1) := dq_2 (kX12_asked_0 21 rfl)
theorem dX12_asked_22 : decode cX12_asked 22 = .ok (.if_icmp .ne 8, 3) := dq_160 (kX12_asked_0 22 rfl) (kX12_asked_0 23 rfl) (kX12_asked_0 24 rfl) (by decide)
theorem dX12_asked_25 : decode cX12_asked 25 = .ok (.iload 4, 2) := dq_21 (kX12_asked_0 25 rfl) (kX12_asked_0 26 rfl) rfl
theorem dX12_asked_27 : decode cX12_asked 27 = .ok (.goto 5, 3) := dq_167 (kX12_asked_0 27 rfl) (kX12_asked_0 28 rfl) (kX12_asked_0 29 rfl) (by decide)
theorem dX12_asked_30 : decode cX12_asked 30 = .ok (.iload 5, 2) := dq_21 (kX12_asked_0 30 rfl) (kX12_asked_0 31 rfl) rfl
theorem dX12_asked_32 : decode cX12_asked 32 = .ok (.ireturn, 1) := dq_172 (kX12_asked_1 0 rfl)

def bX12_caughtAtMost_0 : List UInt8 := [42, 29, 21, 4, 182, 2, 45, 42, 16, 107, 27, 28, 42, 180, 2, 23, 182, 2, 41, 172]
theorem kX12_caughtAtMost_0 (j : Nat) {b : UInt8} (hj : bX12_caughtAtMost_0[j]? = some b) : AtB cX12_caughtAtMost (0 + j) b := at_of32 (by decide +kernel) j hj
theorem dX12_caughtAtMost_0 : decode cX12_caughtAtMost 0 = .ok (.aload_n 0, 1) := dq_42 (kX12_caughtAtMost_0 0 rfl)
theorem dX12_caughtAtMost_1 : decode cX12_caughtAtMost 1 = .ok (.iload_n 3, 1) := dq_29 (kX12_caughtAtMost_0 1 rfl)
theorem dX12_caughtAtMost_2 : decode cX12_caughtAtMost 2 = .ok (.iload 4, 2) := dq_21 (kX12_caughtAtMost_0 2 rfl) (kX12_caughtAtMost_0 3 rfl) rfl
theorem dX12_caughtAtMost_4 : decode cX12_caughtAtMost 4 = .ok (.invokevirtual 557, 3) := dq_182 (kX12_caughtAtMost_0 4 rfl) (kX12_caughtAtMost_0 5 rfl) (kX12_caughtAtMost_0 6 rfl) rfl
theorem dX12_caughtAtMost_7 : decode cX12_caughtAtMost 7 = .ok (.aload_n 0, 1) := dq_42 (kX12_caughtAtMost_0 7 rfl)
theorem dX12_caughtAtMost_8 : decode cX12_caughtAtMost 8 = .ok (.bipush 107, 2) := dq_16 (kX12_caughtAtMost_0 8 rfl) (kX12_caughtAtMost_0 9 rfl) (by decide)
theorem dX12_caughtAtMost_10 : decode cX12_caughtAtMost 10 = .ok (.iload_n 1, 1) := dq_27 (kX12_caughtAtMost_0 10 rfl)
theorem dX12_caughtAtMost_11 : decode cX12_caughtAtMost 11 = .ok (.iload_n 2, 1) := dq_28 (kX12_caughtAtMost_0 11 rfl)
theorem dX12_caughtAtMost_12 : decode cX12_caughtAtMost 12 = .ok (.aload_n 0, 1) := dq_42 (kX12_caughtAtMost_0 12 rfl)
theorem dX12_caughtAtMost_13 : decode cX12_caughtAtMost 13 = .ok (.getfield 535, 3) := dq_180 (kX12_caughtAtMost_0 13 rfl) (kX12_caughtAtMost_0 14 rfl) (kX12_caughtAtMost_0 15 rfl) rfl
theorem dX12_caughtAtMost_16 : decode cX12_caughtAtMost 16 = .ok (.invokevirtual 553, 3) := dq_182 (kX12_caughtAtMost_0 16 rfl) (kX12_caughtAtMost_0 17 rfl) (kX12_caughtAtMost_0 18 rfl) rfl
theorem dX12_caughtAtMost_19 : decode cX12_caughtAtMost 19 = .ok (.ireturn, 1) := dq_172 (kX12_caughtAtMost_0 19 rfl)

def bX12_number_0 : List UInt8 := [42, 28, 182, 1, 150, 153, 0, 10, 29, 184, 1, 153, 154, 0, 5, 2, 172, 27, 16, 10, 16, 25, 184, 1, 115, 153, 0, 22, 42, 27, 16, 10]
theorem kX12_number_0 (j : Nat) {b : UInt8} (hj : bX12_number_0[j]? = some b) : AtB cX12_number (0 + j) b := at_of32 (by decide +kernel) j hj
def bX12_number_1 : List UInt8 := [100, 7, 108, 27, 16, 10, 100, 7, 112, 28, 29, 182, 2, 48, 172, 27, 170, 0, 0, 0, 0, 0, 0, 77, 0, 0, 0, 0, 0, 0, 0, 3]
theorem kX12_number_1 (j : Nat) {b : UInt8} (hj : bX12_number_1[j]? = some b) : AtB cX12_number (32 + j) b := at_of32 (by decide +kernel) j hj
def bX12_number_2 : List UInt8 := [0, 0, 0, 32, 0, 0, 0, 42, 0, 0, 0, 52, 0, 0, 0, 62, 42, 16, 97, 28, 29, 3, 182, 2, 51, 172, 42, 16, 113, 28, 29, 2]
theorem kX12_number_2 (j : Nat) {b : UInt8} (hj : bX12_number_2[j]? = some b) : AtB cX12_number (64 + j) b := at_of32 (by decide +kernel) j hj
def bX12_number_3 : List UInt8 := [182, 2, 51, 172, 42, 16, 103, 28, 29, 3, 182, 2, 51, 172, 42, 28, 29, 182, 1, 162, 153, 0, 7, 4, 167, 0, 4, 3, 172, 2, 172]
theorem kX12_number_3 (j : Nat) {b : UInt8} (hj : bX12_number_3[j]? = some b) : AtB cX12_number (96 + j) b := at_of32 (by decide +kernel) j hj
theorem dX12_number_0 : decode cX12_number 0 = .ok (.aload_n 0, 1) := dq_42 (kX12_number_0 0 rfl)
theorem dX12_number_1 : decode cX12_number 1 = .ok (.iload_n 2, 1) := dq_28 (kX12_number_0 1 rfl)
theorem dX12_number_2 : decode cX12_number 2 = .ok (.invokevirtual 406, 3) := dq_182 (kX12_number_0 2 rfl) (kX12_number_0 3 rfl) (kX12_number_0 4 rfl) rfl
theorem dX12_number_5 : decode cX12_number 5 = .ok (.ifCond .eq 10, 3) := dq_153 (kX12_number_0 5 rfl) (kX12_number_0 6 rfl) (kX12_number_0 7 rfl) (by decide)
theorem dX12_number_8 : decode cX12_number 8 = .ok (.iload_n 3, 1) := dq_29 (kX12_number_0 8 rfl)
theorem dX12_number_9 : decode cX12_number 9 = .ok (.invokestatic 409, 3) := dq_184 (kX12_number_0 9 rfl) (kX12_number_0 10 rfl) (kX12_number_0 11 rfl) rfl
theorem dX12_number_12 : decode cX12_number 12 = .ok (.ifCond .ne 5, 3) := dq_154 (kX12_number_0 12 rfl) (kX12_number_0 13 rfl) (kX12_number_0 14 rfl) (by decide)
theorem dX12_number_15 : decode cX12_number 15 = .ok (.iconst (-1), 1) := dq_2 (kX12_number_0 15 rfl)
theorem dX12_number_16 : decode cX12_number 16 = .ok (.ireturn, 1) := dq_172 (kX12_number_0 16 rfl)
theorem dX12_number_17 : decode cX12_number 17 = .ok (.iload_n 1, 1) := dq_27 (kX12_number_0 17 rfl)
theorem dX12_number_18 : decode cX12_number 18 = .ok (.bipush 10, 2) := dq_16 (kX12_number_0 18 rfl) (kX12_number_0 19 rfl) (by decide)
theorem dX12_number_20 : decode cX12_number 20 = .ok (.bipush 25, 2) := dq_16 (kX12_number_0 20 rfl) (kX12_number_0 21 rfl) (by decide)
theorem dX12_number_22 : decode cX12_number 22 = .ok (.invokestatic 371, 3) := dq_184 (kX12_number_0 22 rfl) (kX12_number_0 23 rfl) (kX12_number_0 24 rfl) rfl
theorem dX12_number_25 : decode cX12_number 25 = .ok (.ifCond .eq 22, 3) := dq_153 (kX12_number_0 25 rfl) (kX12_number_0 26 rfl) (kX12_number_0 27 rfl) (by decide)
theorem dX12_number_28 : decode cX12_number 28 = .ok (.aload_n 0, 1) := dq_42 (kX12_number_0 28 rfl)
theorem dX12_number_29 : decode cX12_number 29 = .ok (.iload_n 1, 1) := dq_27 (kX12_number_0 29 rfl)
theorem dX12_number_30 : decode cX12_number 30 = .ok (.bipush 10, 2) := dq_16 (kX12_number_0 30 rfl) (kX12_number_0 31 rfl) (by decide)
theorem dX12_number_32 : decode cX12_number 32 = .ok (.isub, 1) := dq_100 (kX12_number_1 0 rfl)
theorem dX12_number_33 : decode cX12_number 33 = .ok (.iconst 4, 1) := dq_7 (kX12_number_1 1 rfl)
theorem dX12_number_34 : decode cX12_number 34 = .ok (.idiv, 1) := dq_108 (kX12_number_1 2 rfl)
theorem dX12_number_35 : decode cX12_number 35 = .ok (.iload_n 1, 1) := dq_27 (kX12_number_1 3 rfl)
theorem dX12_number_36 : decode cX12_number 36 = .ok (.bipush 10, 2) := dq_16 (kX12_number_1 4 rfl) (kX12_number_1 5 rfl) (by decide)
theorem dX12_number_38 : decode cX12_number 38 = .ok (.isub, 1) := dq_100 (kX12_number_1 6 rfl)
theorem dX12_number_39 : decode cX12_number 39 = .ok (.iconst 4, 1) := dq_7 (kX12_number_1 7 rfl)
theorem dX12_number_40 : decode cX12_number 40 = .ok (.irem, 1) := dq_112 (kX12_number_1 8 rfl)
theorem dX12_number_41 : decode cX12_number 41 = .ok (.iload_n 2, 1) := dq_28 (kX12_number_1 9 rfl)
theorem dX12_number_42 : decode cX12_number 42 = .ok (.iload_n 3, 1) := dq_29 (kX12_number_1 10 rfl)
theorem dX12_number_43 : decode cX12_number 43 = .ok (.invokevirtual 560, 3) := dq_182 (kX12_number_1 11 rfl) (kX12_number_1 12 rfl) (kX12_number_1 13 rfl) rfl
theorem dX12_number_46 : decode cX12_number 46 = .ok (.ireturn, 1) := dq_172 (kX12_number_1 14 rfl)
theorem dX12_number_47 : decode cX12_number 47 = .ok (.iload_n 1, 1) := dq_27 (kX12_number_1 15 rfl)
theorem dX12_number_80 : decode cX12_number 80 = .ok (.aload_n 0, 1) := dq_42 (kX12_number_2 16 rfl)
theorem dX12_number_81 : decode cX12_number 81 = .ok (.bipush 97, 2) := dq_16 (kX12_number_2 17 rfl) (kX12_number_2 18 rfl) (by decide)
theorem dX12_number_83 : decode cX12_number 83 = .ok (.iload_n 2, 1) := dq_28 (kX12_number_2 19 rfl)
theorem dX12_number_84 : decode cX12_number 84 = .ok (.iload_n 3, 1) := dq_29 (kX12_number_2 20 rfl)
theorem dX12_number_85 : decode cX12_number 85 = .ok (.iconst 0, 1) := dq_3 (kX12_number_2 21 rfl)
theorem dX12_number_86 : decode cX12_number 86 = .ok (.invokevirtual 563, 3) := dq_182 (kX12_number_2 22 rfl) (kX12_number_2 23 rfl) (kX12_number_2 24 rfl) rfl
theorem dX12_number_89 : decode cX12_number 89 = .ok (.ireturn, 1) := dq_172 (kX12_number_2 25 rfl)
theorem dX12_number_90 : decode cX12_number 90 = .ok (.aload_n 0, 1) := dq_42 (kX12_number_2 26 rfl)
theorem dX12_number_91 : decode cX12_number 91 = .ok (.bipush 113, 2) := dq_16 (kX12_number_2 27 rfl) (kX12_number_2 28 rfl) (by decide)
theorem dX12_number_93 : decode cX12_number 93 = .ok (.iload_n 2, 1) := dq_28 (kX12_number_2 29 rfl)
theorem dX12_number_94 : decode cX12_number 94 = .ok (.iload_n 3, 1) := dq_29 (kX12_number_2 30 rfl)
theorem dX12_number_95 : decode cX12_number 95 = .ok (.iconst (-1), 1) := dq_2 (kX12_number_2 31 rfl)
theorem dX12_number_96 : decode cX12_number 96 = .ok (.invokevirtual 563, 3) := dq_182 (kX12_number_3 0 rfl) (kX12_number_3 1 rfl) (kX12_number_3 2 rfl) rfl
theorem dX12_number_99 : decode cX12_number 99 = .ok (.ireturn, 1) := dq_172 (kX12_number_3 3 rfl)
theorem dX12_number_100 : decode cX12_number 100 = .ok (.aload_n 0, 1) := dq_42 (kX12_number_3 4 rfl)
theorem dX12_number_101 : decode cX12_number 101 = .ok (.bipush 103, 2) := dq_16 (kX12_number_3 5 rfl) (kX12_number_3 6 rfl) (by decide)
theorem dX12_number_103 : decode cX12_number 103 = .ok (.iload_n 2, 1) := dq_28 (kX12_number_3 7 rfl)
theorem dX12_number_104 : decode cX12_number 104 = .ok (.iload_n 3, 1) := dq_29 (kX12_number_3 8 rfl)
theorem dX12_number_105 : decode cX12_number 105 = .ok (.iconst 0, 1) := dq_3 (kX12_number_3 9 rfl)
theorem dX12_number_106 : decode cX12_number 106 = .ok (.invokevirtual 563, 3) := dq_182 (kX12_number_3 10 rfl) (kX12_number_3 11 rfl) (kX12_number_3 12 rfl) rfl
theorem dX12_number_109 : decode cX12_number 109 = .ok (.ireturn, 1) := dq_172 (kX12_number_3 13 rfl)
theorem dX12_number_110 : decode cX12_number 110 = .ok (.aload_n 0, 1) := dq_42 (kX12_number_3 14 rfl)
theorem dX12_number_111 : decode cX12_number 111 = .ok (.iload_n 2, 1) := dq_28 (kX12_number_3 15 rfl)
theorem dX12_number_112 : decode cX12_number 112 = .ok (.iload_n 3, 1) := dq_29 (kX12_number_3 16 rfl)
theorem dX12_number_113 : decode cX12_number 113 = .ok (.invokevirtual 418, 3) := dq_182 (kX12_number_3 17 rfl) (kX12_number_3 18 rfl) (kX12_number_3 19 rfl) rfl
theorem dX12_number_116 : decode cX12_number 116 = .ok (.ifCond .eq 7, 3) := dq_153 (kX12_number_3 20 rfl) (kX12_number_3 21 rfl) (kX12_number_3 22 rfl) (by decide)
theorem dX12_number_119 : decode cX12_number 119 = .ok (.iconst 1, 1) := dq_4 (kX12_number_3 23 rfl)
theorem dX12_number_120 : decode cX12_number 120 = .ok (.goto 4, 3) := dq_167 (kX12_number_3 24 rfl) (kX12_number_3 25 rfl) (kX12_number_3 26 rfl) (by decide)
theorem dX12_number_123 : decode cX12_number 123 = .ok (.iconst 0, 1) := dq_3 (kX12_number_3 27 rfl)
theorem dX12_number_124 : decode cX12_number 124 = .ok (.ireturn, 1) := dq_172 (kX12_number_3 28 rfl)
theorem dX12_number_125 : decode cX12_number 125 = .ok (.iconst (-1), 1) := dq_2 (kX12_number_3 29 rfl)
theorem dX12_number_126 : decode cX12_number 126 = .ok (.ireturn, 1) := dq_172 (kX12_number_3 30 rfl)
def LX12_number : List (Nat × Instr × Nat) := [(48, .tableswitch 77 0 3 #[32, 42, 52, 62], 32)]
theorem kkX12_number : chkB cX12_number LX12_number = true := by decide +kernel
theorem dX12_number_48 : decode cX12_number 48 = .ok (.tableswitch 77 0 3 #[32, 42, 52, 62], 32) := getB' kkX12_number 0 rfl

def bX12_isWork_0 : List UInt8 := [27, 155, 0, 15, 27, 42, 180, 1, 122, 162, 0, 7, 4, 167, 0, 4, 3, 172]
theorem kX12_isWork_0 (j : Nat) {b : UInt8} (hj : bX12_isWork_0[j]? = some b) : AtB cX12_isWork (0 + j) b := at_of32 (by decide +kernel) j hj
theorem dX12_isWork_0 : decode cX12_isWork 0 = .ok (.iload_n 1, 1) := dq_27 (kX12_isWork_0 0 rfl)
theorem dX12_isWork_1 : decode cX12_isWork 1 = .ok (.ifCond .lt 15, 3) := dq_155 (kX12_isWork_0 1 rfl) (kX12_isWork_0 2 rfl) (kX12_isWork_0 3 rfl) (by decide)
theorem dX12_isWork_4 : decode cX12_isWork 4 = .ok (.iload_n 1, 1) := dq_27 (kX12_isWork_0 4 rfl)
theorem dX12_isWork_5 : decode cX12_isWork 5 = .ok (.aload_n 0, 1) := dq_42 (kX12_isWork_0 5 rfl)
theorem dX12_isWork_6 : decode cX12_isWork 6 = .ok (.getfield 378, 3) := dq_180 (kX12_isWork_0 6 rfl) (kX12_isWork_0 7 rfl) (kX12_isWork_0 8 rfl) rfl
theorem dX12_isWork_9 : decode cX12_isWork 9 = .ok (.if_icmp .ge 7, 3) := dq_162 (kX12_isWork_0 9 rfl) (kX12_isWork_0 10 rfl) (kX12_isWork_0 11 rfl) (by decide)
theorem dX12_isWork_12 : decode cX12_isWork 12 = .ok (.iconst 1, 1) := dq_4 (kX12_isWork_0 12 rfl)
theorem dX12_isWork_13 : decode cX12_isWork 13 = .ok (.goto 4, 3) := dq_167 (kX12_isWork_0 13 rfl) (kX12_isWork_0 14 rfl) (kX12_isWork_0 15 rfl) (by decide)
theorem dX12_isWork_16 : decode cX12_isWork 16 = .ok (.iconst 0, 1) := dq_3 (kX12_isWork_0 16 rfl)
theorem dX12_isWork_17 : decode cX12_isWork 17 = .ok (.ireturn, 1) := dq_172 (kX12_isWork_0 17 rfl)

def bX12_work_0 : List UInt8 := [27, 3, 16, 9, 184, 1, 115, 153, 0, 79, 42, 28, 182, 1, 150, 153, 0, 71, 42, 29, 182, 1, 125, 153, 0, 63, 21, 4, 42, 180, 1, 140]
theorem kX12_work_0 (j : Nat) {b : UInt8} (hj : bX12_work_0[j]? = some b) : AtB cX12_work (0 + j) b := at_of32 (by decide +kernel) j hj
def bX12_work_1 : List UInt8 := [17, 14, 15, 184, 1, 115, 153, 0, 48, 21, 5, 21, 4, 17, 14, 15, 184, 1, 115, 153, 0, 35, 21, 6, 3, 17, 1, 244, 184, 1, 115, 153]
theorem kX12_work_1 (j : Nat) {b : UInt8} (hj : bX12_work_1[j]? = some b) : AtB cX12_work (32 + j) b := at_of32 (by decide +kernel) j hj
def bX12_work_2 : List UInt8 := [0, 23, 21, 7, 3, 16, 99, 184, 1, 115, 153, 0, 12, 42, 180, 1, 122, 16, 100, 160, 0, 5, 2, 172, 42, 180, 1, 122, 54, 8, 42, 180]
theorem kX12_work_2 (j : Nat) {b : UInt8} (hj : bX12_work_2[j]? = some b) : AtB cX12_work (64 + j) b := at_of32 (by decide +kernel) j hj
def bX12_work_3 : List UInt8 := [0, 163, 21, 8, 27, 79, 42, 180, 0, 166, 21, 8, 28, 79, 42, 180, 0, 169, 21, 8, 29, 79, 42, 180, 0, 172, 21, 8, 21, 4, 79, 42]
theorem kX12_work_3 (j : Nat) {b : UInt8} (hj : bX12_work_3[j]? = some b) : AtB cX12_work (96 + j) b := at_of32 (by decide +kernel) j hj
def bX12_work_4 : List UInt8 := [180, 0, 175, 21, 8, 21, 5, 79, 42, 180, 0, 178, 21, 8, 21, 6, 79, 42, 180, 0, 181, 21, 8, 21, 7, 79, 42, 180, 0, 190, 21, 8]
theorem kX12_work_4 (j : Nat) {b : UInt8} (hj : bX12_work_4[j]? = some b) : AtB cX12_work (128 + j) b := at_of32 (by decide +kernel) j hj
def bX12_work_5 : List UInt8 := [2, 79, 42, 180, 0, 193, 21, 8, 2, 79, 42, 180, 0, 196, 21, 8, 2, 79, 42, 180, 0, 199, 21, 8, 2, 79, 42, 42, 180, 1, 122, 4]
theorem kX12_work_5 (j : Nat) {b : UInt8} (hj : bX12_work_5[j]? = some b) : AtB cX12_work (160 + j) b := at_of32 (by decide +kernel) j hj
def bX12_work_6 : List UInt8 := [96, 181, 1, 122, 21, 8, 172]
theorem kX12_work_6 (j : Nat) {b : UInt8} (hj : bX12_work_6[j]? = some b) : AtB cX12_work (192 + j) b := at_of32 (by decide +kernel) j hj
theorem dX12_work_0 : decode cX12_work 0 = .ok (.iload_n 1, 1) := dq_27 (kX12_work_0 0 rfl)
theorem dX12_work_1 : decode cX12_work 1 = .ok (.iconst 0, 1) := dq_3 (kX12_work_0 1 rfl)
theorem dX12_work_2 : decode cX12_work 2 = .ok (.bipush 9, 2) := dq_16 (kX12_work_0 2 rfl) (kX12_work_0 3 rfl) (by decide)
theorem dX12_work_4 : decode cX12_work 4 = .ok (.invokestatic 371, 3) := dq_184 (kX12_work_0 4 rfl) (kX12_work_0 5 rfl) (kX12_work_0 6 rfl) rfl
theorem dX12_work_7 : decode cX12_work 7 = .ok (.ifCond .eq 79, 3) := dq_153 (kX12_work_0 7 rfl) (kX12_work_0 8 rfl) (kX12_work_0 9 rfl) (by decide)
theorem dX12_work_10 : decode cX12_work 10 = .ok (.aload_n 0, 1) := dq_42 (kX12_work_0 10 rfl)
theorem dX12_work_11 : decode cX12_work 11 = .ok (.iload_n 2, 1) := dq_28 (kX12_work_0 11 rfl)
theorem dX12_work_12 : decode cX12_work 12 = .ok (.invokevirtual 406, 3) := dq_182 (kX12_work_0 12 rfl) (kX12_work_0 13 rfl) (kX12_work_0 14 rfl) rfl
theorem dX12_work_15 : decode cX12_work 15 = .ok (.ifCond .eq 71, 3) := dq_153 (kX12_work_0 15 rfl) (kX12_work_0 16 rfl) (kX12_work_0 17 rfl) (by decide)
theorem dX12_work_18 : decode cX12_work 18 = .ok (.aload_n 0, 1) := dq_42 (kX12_work_0 18 rfl)
theorem dX12_work_19 : decode cX12_work 19 = .ok (.iload_n 3, 1) := dq_29 (kX12_work_0 19 rfl)
theorem dX12_work_20 : decode cX12_work 20 = .ok (.invokevirtual 381, 3) := dq_182 (kX12_work_0 20 rfl) (kX12_work_0 21 rfl) (kX12_work_0 22 rfl) rfl
theorem dX12_work_23 : decode cX12_work 23 = .ok (.ifCond .eq 63, 3) := dq_153 (kX12_work_0 23 rfl) (kX12_work_0 24 rfl) (kX12_work_0 25 rfl) (by decide)
theorem dX12_work_26 : decode cX12_work 26 = .ok (.iload 4, 2) := dq_21 (kX12_work_0 26 rfl) (kX12_work_0 27 rfl) rfl
theorem dX12_work_28 : decode cX12_work 28 = .ok (.aload_n 0, 1) := dq_42 (kX12_work_0 28 rfl)
theorem dX12_work_29 : decode cX12_work 29 = .ok (.getfield 396, 3) := dq_180 (kX12_work_0 29 rfl) (kX12_work_0 30 rfl) (kX12_work_0 31 rfl) rfl
theorem dX12_work_32 : decode cX12_work 32 = .ok (.sipush 3599, 3) := dq_17 (kX12_work_1 0 rfl) (kX12_work_1 1 rfl) (kX12_work_1 2 rfl) (by decide)
theorem dX12_work_35 : decode cX12_work 35 = .ok (.invokestatic 371, 3) := dq_184 (kX12_work_1 3 rfl) (kX12_work_1 4 rfl) (kX12_work_1 5 rfl) rfl
theorem dX12_work_38 : decode cX12_work 38 = .ok (.ifCond .eq 48, 3) := dq_153 (kX12_work_1 6 rfl) (kX12_work_1 7 rfl) (kX12_work_1 8 rfl) (by decide)
theorem dX12_work_41 : decode cX12_work 41 = .ok (.iload 5, 2) := dq_21 (kX12_work_1 9 rfl) (kX12_work_1 10 rfl) rfl
theorem dX12_work_43 : decode cX12_work 43 = .ok (.iload 4, 2) := dq_21 (kX12_work_1 11 rfl) (kX12_work_1 12 rfl) rfl
theorem dX12_work_45 : decode cX12_work 45 = .ok (.sipush 3599, 3) := dq_17 (kX12_work_1 13 rfl) (kX12_work_1 14 rfl) (kX12_work_1 15 rfl) (by decide)
theorem dX12_work_48 : decode cX12_work 48 = .ok (.invokestatic 371, 3) := dq_184 (kX12_work_1 16 rfl) (kX12_work_1 17 rfl) (kX12_work_1 18 rfl) rfl
theorem dX12_work_51 : decode cX12_work 51 = .ok (.ifCond .eq 35, 3) := dq_153 (kX12_work_1 19 rfl) (kX12_work_1 20 rfl) (kX12_work_1 21 rfl) (by decide)
theorem dX12_work_54 : decode cX12_work 54 = .ok (.iload 6, 2) := dq_21 (kX12_work_1 22 rfl) (kX12_work_1 23 rfl) rfl
theorem dX12_work_56 : decode cX12_work 56 = .ok (.iconst 0, 1) := dq_3 (kX12_work_1 24 rfl)
theorem dX12_work_57 : decode cX12_work 57 = .ok (.sipush 500, 3) := dq_17 (kX12_work_1 25 rfl) (kX12_work_1 26 rfl) (kX12_work_1 27 rfl) (by decide)
theorem dX12_work_60 : decode cX12_work 60 = .ok (.invokestatic 371, 3) := dq_184 (kX12_work_1 28 rfl) (kX12_work_1 29 rfl) (kX12_work_1 30 rfl) rfl
theorem dX12_work_63 : decode cX12_work 63 = .ok (.ifCond .eq 23, 3) := dq_153 (kX12_work_1 31 rfl) (kX12_work_2 0 rfl) (kX12_work_2 1 rfl) (by decide)
theorem dX12_work_66 : decode cX12_work 66 = .ok (.iload 7, 2) := dq_21 (kX12_work_2 2 rfl) (kX12_work_2 3 rfl) rfl
theorem dX12_work_68 : decode cX12_work 68 = .ok (.iconst 0, 1) := dq_3 (kX12_work_2 4 rfl)
theorem dX12_work_69 : decode cX12_work 69 = .ok (.bipush 99, 2) := dq_16 (kX12_work_2 5 rfl) (kX12_work_2 6 rfl) (by decide)
theorem dX12_work_71 : decode cX12_work 71 = .ok (.invokestatic 371, 3) := dq_184 (kX12_work_2 7 rfl) (kX12_work_2 8 rfl) (kX12_work_2 9 rfl) rfl
theorem dX12_work_74 : decode cX12_work 74 = .ok (.ifCond .eq 12, 3) := dq_153 (kX12_work_2 10 rfl) (kX12_work_2 11 rfl) (kX12_work_2 12 rfl) (by decide)
theorem dX12_work_77 : decode cX12_work 77 = .ok (.aload_n 0, 1) := dq_42 (kX12_work_2 13 rfl)
theorem dX12_work_78 : decode cX12_work 78 = .ok (.getfield 378, 3) := dq_180 (kX12_work_2 14 rfl) (kX12_work_2 15 rfl) (kX12_work_2 16 rfl) rfl
theorem dX12_work_81 : decode cX12_work 81 = .ok (.bipush 100, 2) := dq_16 (kX12_work_2 17 rfl) (kX12_work_2 18 rfl) (by decide)
theorem dX12_work_83 : decode cX12_work 83 = .ok (.if_icmp .ne 5, 3) := dq_160 (kX12_work_2 19 rfl) (kX12_work_2 20 rfl) (kX12_work_2 21 rfl) (by decide)
theorem dX12_work_86 : decode cX12_work 86 = .ok (.iconst (-1), 1) := dq_2 (kX12_work_2 22 rfl)
theorem dX12_work_87 : decode cX12_work 87 = .ok (.ireturn, 1) := dq_172 (kX12_work_2 23 rfl)
theorem dX12_work_88 : decode cX12_work 88 = .ok (.aload_n 0, 1) := dq_42 (kX12_work_2 24 rfl)
theorem dX12_work_89 : decode cX12_work 89 = .ok (.getfield 378, 3) := dq_180 (kX12_work_2 25 rfl) (kX12_work_2 26 rfl) (kX12_work_2 27 rfl) rfl
theorem dX12_work_92 : decode cX12_work 92 = .ok (.istore 8, 2) := dq_54 (kX12_work_2 28 rfl) (kX12_work_2 29 rfl) rfl
theorem dX12_work_94 : decode cX12_work 94 = .ok (.aload_n 0, 1) := dq_42 (kX12_work_2 30 rfl)
theorem dX12_work_95 : decode cX12_work 95 = .ok (.getfield 163, 3) := dq_180 (kX12_work_2 31 rfl) (kX12_work_3 0 rfl) (kX12_work_3 1 rfl) rfl
theorem dX12_work_98 : decode cX12_work 98 = .ok (.iload 8, 2) := dq_21 (kX12_work_3 2 rfl) (kX12_work_3 3 rfl) rfl
theorem dX12_work_100 : decode cX12_work 100 = .ok (.iload_n 1, 1) := dq_27 (kX12_work_3 4 rfl)
theorem dX12_work_101 : decode cX12_work 101 = .ok (.iastore, 1) := dq_79 (kX12_work_3 5 rfl)
theorem dX12_work_102 : decode cX12_work 102 = .ok (.aload_n 0, 1) := dq_42 (kX12_work_3 6 rfl)
theorem dX12_work_103 : decode cX12_work 103 = .ok (.getfield 166, 3) := dq_180 (kX12_work_3 7 rfl) (kX12_work_3 8 rfl) (kX12_work_3 9 rfl) rfl
theorem dX12_work_106 : decode cX12_work 106 = .ok (.iload 8, 2) := dq_21 (kX12_work_3 10 rfl) (kX12_work_3 11 rfl) rfl
theorem dX12_work_108 : decode cX12_work 108 = .ok (.iload_n 2, 1) := dq_28 (kX12_work_3 12 rfl)
theorem dX12_work_109 : decode cX12_work 109 = .ok (.iastore, 1) := dq_79 (kX12_work_3 13 rfl)
theorem dX12_work_110 : decode cX12_work 110 = .ok (.aload_n 0, 1) := dq_42 (kX12_work_3 14 rfl)
theorem dX12_work_111 : decode cX12_work 111 = .ok (.getfield 169, 3) := dq_180 (kX12_work_3 15 rfl) (kX12_work_3 16 rfl) (kX12_work_3 17 rfl) rfl
theorem dX12_work_114 : decode cX12_work 114 = .ok (.iload 8, 2) := dq_21 (kX12_work_3 18 rfl) (kX12_work_3 19 rfl) rfl
theorem dX12_work_116 : decode cX12_work 116 = .ok (.iload_n 3, 1) := dq_29 (kX12_work_3 20 rfl)
theorem dX12_work_117 : decode cX12_work 117 = .ok (.iastore, 1) := dq_79 (kX12_work_3 21 rfl)
theorem dX12_work_118 : decode cX12_work 118 = .ok (.aload_n 0, 1) := dq_42 (kX12_work_3 22 rfl)
theorem dX12_work_119 : decode cX12_work 119 = .ok (.getfield 172, 3) := dq_180 (kX12_work_3 23 rfl) (kX12_work_3 24 rfl) (kX12_work_3 25 rfl) rfl
theorem dX12_work_122 : decode cX12_work 122 = .ok (.iload 8, 2) := dq_21 (kX12_work_3 26 rfl) (kX12_work_3 27 rfl) rfl
theorem dX12_work_124 : decode cX12_work 124 = .ok (.iload 4, 2) := dq_21 (kX12_work_3 28 rfl) (kX12_work_3 29 rfl) rfl
theorem dX12_work_126 : decode cX12_work 126 = .ok (.iastore, 1) := dq_79 (kX12_work_3 30 rfl)
theorem dX12_work_127 : decode cX12_work 127 = .ok (.aload_n 0, 1) := dq_42 (kX12_work_3 31 rfl)
theorem dX12_work_128 : decode cX12_work 128 = .ok (.getfield 175, 3) := dq_180 (kX12_work_4 0 rfl) (kX12_work_4 1 rfl) (kX12_work_4 2 rfl) rfl
theorem dX12_work_131 : decode cX12_work 131 = .ok (.iload 8, 2) := dq_21 (kX12_work_4 3 rfl) (kX12_work_4 4 rfl) rfl
theorem dX12_work_133 : decode cX12_work 133 = .ok (.iload 5, 2) := dq_21 (kX12_work_4 5 rfl) (kX12_work_4 6 rfl) rfl
theorem dX12_work_135 : decode cX12_work 135 = .ok (.iastore, 1) := dq_79 (kX12_work_4 7 rfl)
theorem dX12_work_136 : decode cX12_work 136 = .ok (.aload_n 0, 1) := dq_42 (kX12_work_4 8 rfl)
theorem dX12_work_137 : decode cX12_work 137 = .ok (.getfield 178, 3) := dq_180 (kX12_work_4 9 rfl) (kX12_work_4 10 rfl) (kX12_work_4 11 rfl) rfl
theorem dX12_work_140 : decode cX12_work 140 = .ok (.iload 8, 2) := dq_21 (kX12_work_4 12 rfl) (kX12_work_4 13 rfl) rfl
theorem dX12_work_142 : decode cX12_work 142 = .ok (.iload 6, 2) := dq_21 (kX12_work_4 14 rfl) (kX12_work_4 15 rfl) rfl
theorem dX12_work_144 : decode cX12_work 144 = .ok (.iastore, 1) := dq_79 (kX12_work_4 16 rfl)
theorem dX12_work_145 : decode cX12_work 145 = .ok (.aload_n 0, 1) := dq_42 (kX12_work_4 17 rfl)
theorem dX12_work_146 : decode cX12_work 146 = .ok (.getfield 181, 3) := dq_180 (kX12_work_4 18 rfl) (kX12_work_4 19 rfl) (kX12_work_4 20 rfl) rfl
theorem dX12_work_149 : decode cX12_work 149 = .ok (.iload 8, 2) := dq_21 (kX12_work_4 21 rfl) (kX12_work_4 22 rfl) rfl
theorem dX12_work_151 : decode cX12_work 151 = .ok (.iload 7, 2) := dq_21 (kX12_work_4 23 rfl) (kX12_work_4 24 rfl) rfl
theorem dX12_work_153 : decode cX12_work 153 = .ok (.iastore, 1) := dq_79 (kX12_work_4 25 rfl)
theorem dX12_work_154 : decode cX12_work 154 = .ok (.aload_n 0, 1) := dq_42 (kX12_work_4 26 rfl)
theorem dX12_work_155 : decode cX12_work 155 = .ok (.getfield 190, 3) := dq_180 (kX12_work_4 27 rfl) (kX12_work_4 28 rfl) (kX12_work_4 29 rfl) rfl
theorem dX12_work_158 : decode cX12_work 158 = .ok (.iload 8, 2) := dq_21 (kX12_work_4 30 rfl) (kX12_work_4 31 rfl) rfl
theorem dX12_work_160 : decode cX12_work 160 = .ok (.iconst (-1), 1) := dq_2 (kX12_work_5 0 rfl)
theorem dX12_work_161 : decode cX12_work 161 = .ok (.iastore, 1) := dq_79 (kX12_work_5 1 rfl)
theorem dX12_work_162 : decode cX12_work 162 = .ok (.aload_n 0, 1) := dq_42 (kX12_work_5 2 rfl)
theorem dX12_work_163 : decode cX12_work 163 = .ok (.getfield 193, 3) := dq_180 (kX12_work_5 3 rfl) (kX12_work_5 4 rfl) (kX12_work_5 5 rfl) rfl
theorem dX12_work_166 : decode cX12_work 166 = .ok (.iload 8, 2) := dq_21 (kX12_work_5 6 rfl) (kX12_work_5 7 rfl) rfl
theorem dX12_work_168 : decode cX12_work 168 = .ok (.iconst (-1), 1) := dq_2 (kX12_work_5 8 rfl)
theorem dX12_work_169 : decode cX12_work 169 = .ok (.iastore, 1) := dq_79 (kX12_work_5 9 rfl)
theorem dX12_work_170 : decode cX12_work 170 = .ok (.aload_n 0, 1) := dq_42 (kX12_work_5 10 rfl)
theorem dX12_work_171 : decode cX12_work 171 = .ok (.getfield 196, 3) := dq_180 (kX12_work_5 11 rfl) (kX12_work_5 12 rfl) (kX12_work_5 13 rfl) rfl
theorem dX12_work_174 : decode cX12_work 174 = .ok (.iload 8, 2) := dq_21 (kX12_work_5 14 rfl) (kX12_work_5 15 rfl) rfl
theorem dX12_work_176 : decode cX12_work 176 = .ok (.iconst (-1), 1) := dq_2 (kX12_work_5 16 rfl)
theorem dX12_work_177 : decode cX12_work 177 = .ok (.iastore, 1) := dq_79 (kX12_work_5 17 rfl)
theorem dX12_work_178 : decode cX12_work 178 = .ok (.aload_n 0, 1) := dq_42 (kX12_work_5 18 rfl)
theorem dX12_work_179 : decode cX12_work 179 = .ok (.getfield 199, 3) := dq_180 (kX12_work_5 19 rfl) (kX12_work_5 20 rfl) (kX12_work_5 21 rfl) rfl
theorem dX12_work_182 : decode cX12_work 182 = .ok (.iload 8, 2) := dq_21 (kX12_work_5 22 rfl) (kX12_work_5 23 rfl) rfl
theorem dX12_work_184 : decode cX12_work 184 = .ok (.iconst (-1), 1) := dq_2 (kX12_work_5 24 rfl)
theorem dX12_work_185 : decode cX12_work 185 = .ok (.iastore, 1) := dq_79 (kX12_work_5 25 rfl)
theorem dX12_work_186 : decode cX12_work 186 = .ok (.aload_n 0, 1) := dq_42 (kX12_work_5 26 rfl)
theorem dX12_work_187 : decode cX12_work 187 = .ok (.aload_n 0, 1) := dq_42 (kX12_work_5 27 rfl)
theorem dX12_work_188 : decode cX12_work 188 = .ok (.getfield 378, 3) := dq_180 (kX12_work_5 28 rfl) (kX12_work_5 29 rfl) (kX12_work_5 30 rfl) rfl
theorem dX12_work_191 : decode cX12_work 191 = .ok (.iconst 1, 1) := dq_4 (kX12_work_5 31 rfl)
theorem dX12_work_192 : decode cX12_work 192 = .ok (.iadd, 1) := dq_96 (kX12_work_6 0 rfl)
theorem dX12_work_193 : decode cX12_work 193 = .ok (.putfield 378, 3) := dq_181 (kX12_work_6 1 rfl) (kX12_work_6 2 rfl) (kX12_work_6 3 rfl) rfl
theorem dX12_work_196 : decode cX12_work 196 = .ok (.iload 8, 2) := dq_21 (kX12_work_6 4 rfl) (kX12_work_6 5 rfl) rfl
theorem dX12_work_198 : decode cX12_work 198 = .ok (.ireturn, 1) := dq_172 (kX12_work_6 6 rfl)

def bX12_tell_0 : List UInt8 := [42, 27, 182, 2, 54, 153, 0, 35, 28, 3, 4, 184, 1, 115, 153, 0, 26, 28, 154, 0, 12, 42, 180, 0, 190, 27, 46, 167, 0, 9, 42, 180]
theorem kX12_tell_0 (j : Nat) {b : UInt8} (hj : bX12_tell_0[j]? = some b) : AtB cX12_tell (0 + j) b := at_of32 (by decide +kernel) j hj
def bX12_tell_1 : List UInt8 := [0, 193, 27, 46, 2, 159, 0, 5, 3, 172, 28, 154, 0, 16, 42, 180, 0, 190, 27, 42, 180, 1, 140, 79, 167, 0, 13, 42, 180, 0, 193, 27]
theorem kX12_tell_1 (j : Nat) {b : UInt8} (hj : bX12_tell_1[j]? = some b) : AtB cX12_tell (32 + j) b := at_of32 (by decide +kernel) j hj
def bX12_tell_2 : List UInt8 := [42, 180, 1, 140, 79, 4, 172]
theorem kX12_tell_2 (j : Nat) {b : UInt8} (hj : bX12_tell_2[j]? = some b) : AtB cX12_tell (64 + j) b := at_of32 (by decide +kernel) j hj
theorem dX12_tell_0 : decode cX12_tell 0 = .ok (.aload_n 0, 1) := dq_42 (kX12_tell_0 0 rfl)
theorem dX12_tell_1 : decode cX12_tell 1 = .ok (.iload_n 1, 1) := dq_27 (kX12_tell_0 1 rfl)
theorem dX12_tell_2 : decode cX12_tell 2 = .ok (.invokevirtual 566, 3) := dq_182 (kX12_tell_0 2 rfl) (kX12_tell_0 3 rfl) (kX12_tell_0 4 rfl) rfl
theorem dX12_tell_5 : decode cX12_tell 5 = .ok (.ifCond .eq 35, 3) := dq_153 (kX12_tell_0 5 rfl) (kX12_tell_0 6 rfl) (kX12_tell_0 7 rfl) (by decide)
theorem dX12_tell_8 : decode cX12_tell 8 = .ok (.iload_n 2, 1) := dq_28 (kX12_tell_0 8 rfl)
theorem dX12_tell_9 : decode cX12_tell 9 = .ok (.iconst 0, 1) := dq_3 (kX12_tell_0 9 rfl)
theorem dX12_tell_10 : decode cX12_tell 10 = .ok (.iconst 1, 1) := dq_4 (kX12_tell_0 10 rfl)
theorem dX12_tell_11 : decode cX12_tell 11 = .ok (.invokestatic 371, 3) := dq_184 (kX12_tell_0 11 rfl) (kX12_tell_0 12 rfl) (kX12_tell_0 13 rfl) rfl
theorem dX12_tell_14 : decode cX12_tell 14 = .ok (.ifCond .eq 26, 3) := dq_153 (kX12_tell_0 14 rfl) (kX12_tell_0 15 rfl) (kX12_tell_0 16 rfl) (by decide)
theorem dX12_tell_17 : decode cX12_tell 17 = .ok (.iload_n 2, 1) := dq_28 (kX12_tell_0 17 rfl)
theorem dX12_tell_18 : decode cX12_tell 18 = .ok (.ifCond .ne 12, 3) := dq_154 (kX12_tell_0 18 rfl) (kX12_tell_0 19 rfl) (kX12_tell_0 20 rfl) (by decide)
theorem dX12_tell_21 : decode cX12_tell 21 = .ok (.aload_n 0, 1) := dq_42 (kX12_tell_0 21 rfl)
theorem dX12_tell_22 : decode cX12_tell 22 = .ok (.getfield 190, 3) := dq_180 (kX12_tell_0 22 rfl) (kX12_tell_0 23 rfl) (kX12_tell_0 24 rfl) rfl
theorem dX12_tell_25 : decode cX12_tell 25 = .ok (.iload_n 1, 1) := dq_27 (kX12_tell_0 25 rfl)
theorem dX12_tell_26 : decode cX12_tell 26 = .ok (.iaload, 1) := dq_46 (kX12_tell_0 26 rfl)
theorem dX12_tell_27 : decode cX12_tell 27 = .ok (.goto 9, 3) := dq_167 (kX12_tell_0 27 rfl) (kX12_tell_0 28 rfl) (kX12_tell_0 29 rfl) (by decide)
theorem dX12_tell_30 : decode cX12_tell 30 = .ok (.aload_n 0, 1) := dq_42 (kX12_tell_0 30 rfl)
theorem dX12_tell_31 : decode cX12_tell 31 = .ok (.getfield 193, 3) := dq_180 (kX12_tell_0 31 rfl) (kX12_tell_1 0 rfl) (kX12_tell_1 1 rfl) rfl
theorem dX12_tell_34 : decode cX12_tell 34 = .ok (.iload_n 1, 1) := dq_27 (kX12_tell_1 2 rfl)
theorem dX12_tell_35 : decode cX12_tell 35 = .ok (.iaload, 1) := dq_46 (kX12_tell_1 3 rfl)
theorem dX12_tell_36 : decode cX12_tell 36 = .ok (.iconst (-1), 1) := dq_2 (kX12_tell_1 4 rfl)
theorem dX12_tell_37 : decode cX12_tell 37 = .ok (.if_icmp .eq 5, 3) := dq_159 (kX12_tell_1 5 rfl) (kX12_tell_1 6 rfl) (kX12_tell_1 7 rfl) (by decide)
theorem dX12_tell_40 : decode cX12_tell 40 = .ok (.iconst 0, 1) := dq_3 (kX12_tell_1 8 rfl)
theorem dX12_tell_41 : decode cX12_tell 41 = .ok (.ireturn, 1) := dq_172 (kX12_tell_1 9 rfl)
theorem dX12_tell_42 : decode cX12_tell 42 = .ok (.iload_n 2, 1) := dq_28 (kX12_tell_1 10 rfl)
theorem dX12_tell_43 : decode cX12_tell 43 = .ok (.ifCond .ne 16, 3) := dq_154 (kX12_tell_1 11 rfl) (kX12_tell_1 12 rfl) (kX12_tell_1 13 rfl) (by decide)
theorem dX12_tell_46 : decode cX12_tell 46 = .ok (.aload_n 0, 1) := dq_42 (kX12_tell_1 14 rfl)
theorem dX12_tell_47 : decode cX12_tell 47 = .ok (.getfield 190, 3) := dq_180 (kX12_tell_1 15 rfl) (kX12_tell_1 16 rfl) (kX12_tell_1 17 rfl) rfl
theorem dX12_tell_50 : decode cX12_tell 50 = .ok (.iload_n 1, 1) := dq_27 (kX12_tell_1 18 rfl)
theorem dX12_tell_51 : decode cX12_tell 51 = .ok (.aload_n 0, 1) := dq_42 (kX12_tell_1 19 rfl)
theorem dX12_tell_52 : decode cX12_tell 52 = .ok (.getfield 396, 3) := dq_180 (kX12_tell_1 20 rfl) (kX12_tell_1 21 rfl) (kX12_tell_1 22 rfl) rfl
theorem dX12_tell_55 : decode cX12_tell 55 = .ok (.iastore, 1) := dq_79 (kX12_tell_1 23 rfl)
theorem dX12_tell_56 : decode cX12_tell 56 = .ok (.goto 13, 3) := dq_167 (kX12_tell_1 24 rfl) (kX12_tell_1 25 rfl) (kX12_tell_1 26 rfl) (by decide)
theorem dX12_tell_59 : decode cX12_tell 59 = .ok (.aload_n 0, 1) := dq_42 (kX12_tell_1 27 rfl)
theorem dX12_tell_60 : decode cX12_tell 60 = .ok (.getfield 193, 3) := dq_180 (kX12_tell_1 28 rfl) (kX12_tell_1 29 rfl) (kX12_tell_1 30 rfl) rfl
theorem dX12_tell_63 : decode cX12_tell 63 = .ok (.iload_n 1, 1) := dq_27 (kX12_tell_1 31 rfl)
theorem dX12_tell_64 : decode cX12_tell 64 = .ok (.aload_n 0, 1) := dq_42 (kX12_tell_2 0 rfl)
theorem dX12_tell_65 : decode cX12_tell 65 = .ok (.getfield 396, 3) := dq_180 (kX12_tell_2 1 rfl) (kX12_tell_2 2 rfl) (kX12_tell_2 3 rfl) rfl
theorem dX12_tell_68 : decode cX12_tell 68 = .ok (.iastore, 1) := dq_79 (kX12_tell_2 4 rfl)
theorem dX12_tell_69 : decode cX12_tell 69 = .ok (.iconst 1, 1) := dq_4 (kX12_tell_2 5 rfl)
theorem dX12_tell_70 : decode cX12_tell 70 = .ok (.ireturn, 1) := dq_172 (kX12_tell_2 6 rfl)

def bX12_study_0 : List UInt8 := [42, 27, 182, 2, 54, 153, 0, 24, 28, 3, 17, 3, 232, 184, 1, 115, 153, 0, 13, 42, 180, 0, 196, 27, 46, 2, 159, 0, 5, 3, 172, 42]
theorem kX12_study_0 (j : Nat) {b : UInt8} (hj : bX12_study_0[j]? = some b) : AtB cX12_study (0 + j) b := at_of32 (by decide +kernel) j hj
def bX12_study_1 : List UInt8 := [180, 0, 196, 27, 42, 180, 1, 140, 79, 42, 180, 0, 199, 27, 28, 79, 4, 172]
theorem kX12_study_1 (j : Nat) {b : UInt8} (hj : bX12_study_1[j]? = some b) : AtB cX12_study (32 + j) b := at_of32 (by decide +kernel) j hj
theorem dX12_study_0 : decode cX12_study 0 = .ok (.aload_n 0, 1) := dq_42 (kX12_study_0 0 rfl)
theorem dX12_study_1 : decode cX12_study 1 = .ok (.iload_n 1, 1) := dq_27 (kX12_study_0 1 rfl)
theorem dX12_study_2 : decode cX12_study 2 = .ok (.invokevirtual 566, 3) := dq_182 (kX12_study_0 2 rfl) (kX12_study_0 3 rfl) (kX12_study_0 4 rfl) rfl
theorem dX12_study_5 : decode cX12_study 5 = .ok (.ifCond .eq 24, 3) := dq_153 (kX12_study_0 5 rfl) (kX12_study_0 6 rfl) (kX12_study_0 7 rfl) (by decide)
theorem dX12_study_8 : decode cX12_study 8 = .ok (.iload_n 2, 1) := dq_28 (kX12_study_0 8 rfl)
theorem dX12_study_9 : decode cX12_study 9 = .ok (.iconst 0, 1) := dq_3 (kX12_study_0 9 rfl)
theorem dX12_study_10 : decode cX12_study 10 = .ok (.sipush 1000, 3) := dq_17 (kX12_study_0 10 rfl) (kX12_study_0 11 rfl) (kX12_study_0 12 rfl) (by decide)
theorem dX12_study_13 : decode cX12_study 13 = .ok (.invokestatic 371, 3) := dq_184 (kX12_study_0 13 rfl) (kX12_study_0 14 rfl) (kX12_study_0 15 rfl) rfl
theorem dX12_study_16 : decode cX12_study 16 = .ok (.ifCond .eq 13, 3) := dq_153 (kX12_study_0 16 rfl) (kX12_study_0 17 rfl) (kX12_study_0 18 rfl) (by decide)
theorem dX12_study_19 : decode cX12_study 19 = .ok (.aload_n 0, 1) := dq_42 (kX12_study_0 19 rfl)
theorem dX12_study_20 : decode cX12_study 20 = .ok (.getfield 196, 3) := dq_180 (kX12_study_0 20 rfl) (kX12_study_0 21 rfl) (kX12_study_0 22 rfl) rfl
theorem dX12_study_23 : decode cX12_study 23 = .ok (.iload_n 1, 1) := dq_27 (kX12_study_0 23 rfl)
theorem dX12_study_24 : decode cX12_study 24 = .ok (.iaload, 1) := dq_46 (kX12_study_0 24 rfl)
theorem dX12_study_25 : decode cX12_study 25 = .ok (.iconst (-1), 1) := dq_2 (kX12_study_0 25 rfl)
theorem dX12_study_26 : decode cX12_study 26 = .ok (.if_icmp .eq 5, 3) := dq_159 (kX12_study_0 26 rfl) (kX12_study_0 27 rfl) (kX12_study_0 28 rfl) (by decide)
theorem dX12_study_29 : decode cX12_study 29 = .ok (.iconst 0, 1) := dq_3 (kX12_study_0 29 rfl)
theorem dX12_study_30 : decode cX12_study 30 = .ok (.ireturn, 1) := dq_172 (kX12_study_0 30 rfl)
theorem dX12_study_31 : decode cX12_study 31 = .ok (.aload_n 0, 1) := dq_42 (kX12_study_0 31 rfl)
theorem dX12_study_32 : decode cX12_study 32 = .ok (.getfield 196, 3) := dq_180 (kX12_study_1 0 rfl) (kX12_study_1 1 rfl) (kX12_study_1 2 rfl) rfl
theorem dX12_study_35 : decode cX12_study 35 = .ok (.iload_n 1, 1) := dq_27 (kX12_study_1 3 rfl)
theorem dX12_study_36 : decode cX12_study 36 = .ok (.aload_n 0, 1) := dq_42 (kX12_study_1 4 rfl)
theorem dX12_study_37 : decode cX12_study 37 = .ok (.getfield 396, 3) := dq_180 (kX12_study_1 5 rfl) (kX12_study_1 6 rfl) (kX12_study_1 7 rfl) rfl
theorem dX12_study_40 : decode cX12_study 40 = .ok (.iastore, 1) := dq_79 (kX12_study_1 8 rfl)
theorem dX12_study_41 : decode cX12_study 41 = .ok (.aload_n 0, 1) := dq_42 (kX12_study_1 9 rfl)
theorem dX12_study_42 : decode cX12_study 42 = .ok (.getfield 199, 3) := dq_180 (kX12_study_1 10 rfl) (kX12_study_1 11 rfl) (kX12_study_1 12 rfl) rfl
theorem dX12_study_45 : decode cX12_study 45 = .ok (.iload_n 1, 1) := dq_27 (kX12_study_1 13 rfl)
theorem dX12_study_46 : decode cX12_study 46 = .ok (.iload_n 2, 1) := dq_28 (kX12_study_1 14 rfl)
theorem dX12_study_47 : decode cX12_study 47 = .ok (.iastore, 1) := dq_79 (kX12_study_1 15 rfl)
theorem dX12_study_48 : decode cX12_study 48 = .ok (.iconst 1, 1) := dq_4 (kX12_study_1 16 rfl)
theorem dX12_study_49 : decode cX12_study 49 = .ok (.ireturn, 1) := dq_172 (kX12_study_1 17 rfl)

def bX12_say_0 : List UInt8 := [42, 27, 182, 1, 150, 153, 0, 11, 42, 28, 182, 2, 54, 154, 0, 5, 3, 172, 42, 180, 0, 202, 16, 9, 28, 104, 27, 96, 29, 153, 0, 7]
theorem kX12_say_0 (j : Nat) {b : UInt8} (hj : bX12_say_0[j]? = some b) : AtB cX12_say (0 + j) b := at_of32 (by decide +kernel) j hj
def bX12_say_1 : List UInt8 := [4, 167, 0, 4, 5, 79, 4, 172]
theorem kX12_say_1 (j : Nat) {b : UInt8} (hj : bX12_say_1[j]? = some b) : AtB cX12_say (32 + j) b := at_of32 (by decide +kernel) j hj
theorem dX12_say_0 : decode cX12_say 0 = .ok (.aload_n 0, 1) := dq_42 (kX12_say_0 0 rfl)
theorem dX12_say_1 : decode cX12_say 1 = .ok (.iload_n 1, 1) := dq_27 (kX12_say_0 1 rfl)
theorem dX12_say_2 : decode cX12_say 2 = .ok (.invokevirtual 406, 3) := dq_182 (kX12_say_0 2 rfl) (kX12_say_0 3 rfl) (kX12_say_0 4 rfl) rfl
theorem dX12_say_5 : decode cX12_say 5 = .ok (.ifCond .eq 11, 3) := dq_153 (kX12_say_0 5 rfl) (kX12_say_0 6 rfl) (kX12_say_0 7 rfl) (by decide)
theorem dX12_say_8 : decode cX12_say 8 = .ok (.aload_n 0, 1) := dq_42 (kX12_say_0 8 rfl)
theorem dX12_say_9 : decode cX12_say 9 = .ok (.iload_n 2, 1) := dq_28 (kX12_say_0 9 rfl)
theorem dX12_say_10 : decode cX12_say 10 = .ok (.invokevirtual 566, 3) := dq_182 (kX12_say_0 10 rfl) (kX12_say_0 11 rfl) (kX12_say_0 12 rfl) rfl
theorem dX12_say_13 : decode cX12_say 13 = .ok (.ifCond .ne 5, 3) := dq_154 (kX12_say_0 13 rfl) (kX12_say_0 14 rfl) (kX12_say_0 15 rfl) (by decide)
theorem dX12_say_16 : decode cX12_say 16 = .ok (.iconst 0, 1) := dq_3 (kX12_say_0 16 rfl)
theorem dX12_say_17 : decode cX12_say 17 = .ok (.ireturn, 1) := dq_172 (kX12_say_0 17 rfl)
theorem dX12_say_18 : decode cX12_say 18 = .ok (.aload_n 0, 1) := dq_42 (kX12_say_0 18 rfl)
theorem dX12_say_19 : decode cX12_say 19 = .ok (.getfield 202, 3) := dq_180 (kX12_say_0 19 rfl) (kX12_say_0 20 rfl) (kX12_say_0 21 rfl) rfl
theorem dX12_say_22 : decode cX12_say 22 = .ok (.bipush 9, 2) := dq_16 (kX12_say_0 22 rfl) (kX12_say_0 23 rfl) (by decide)
theorem dX12_say_24 : decode cX12_say 24 = .ok (.iload_n 2, 1) := dq_28 (kX12_say_0 24 rfl)
theorem dX12_say_25 : decode cX12_say 25 = .ok (.imul, 1) := dq_104 (kX12_say_0 25 rfl)
theorem dX12_say_26 : decode cX12_say 26 = .ok (.iload_n 1, 1) := dq_27 (kX12_say_0 26 rfl)
theorem dX12_say_27 : decode cX12_say 27 = .ok (.iadd, 1) := dq_96 (kX12_say_0 27 rfl)
theorem dX12_say_28 : decode cX12_say 28 = .ok (.iload_n 3, 1) := dq_29 (kX12_say_0 28 rfl)
theorem dX12_say_29 : decode cX12_say 29 = .ok (.ifCond .eq 7, 3) := dq_153 (kX12_say_0 29 rfl) (kX12_say_0 30 rfl) (kX12_say_0 31 rfl) (by decide)
theorem dX12_say_32 : decode cX12_say 32 = .ok (.iconst 1, 1) := dq_4 (kX12_say_1 0 rfl)
theorem dX12_say_33 : decode cX12_say 33 = .ok (.goto 4, 3) := dq_167 (kX12_say_1 1 rfl) (kX12_say_1 2 rfl) (kX12_say_1 3 rfl) (by decide)
theorem dX12_say_36 : decode cX12_say 36 = .ok (.iconst 2, 1) := dq_5 (kX12_say_1 4 rfl)
theorem dX12_say_37 : decode cX12_say 37 = .ok (.iastore, 1) := dq_79 (kX12_say_1 5 rfl)
theorem dX12_say_38 : decode cX12_say 38 = .ok (.iconst 1, 1) := dq_4 (kX12_say_1 6 rfl)
theorem dX12_say_39 : decode cX12_say 39 = .ok (.ireturn, 1) := dq_172 (kX12_say_1 7 rfl)

def bX12_isConsented_0 : List UInt8 := [3, 62, 3, 54, 4, 3, 54, 5, 21, 5, 42, 180, 1, 137, 162, 0, 70, 42, 21, 5, 28, 182, 1, 156, 154, 0, 6, 167, 0, 51, 42, 180]
theorem kX12_isConsented_0 (j : Nat) {b : UInt8} (hj : bX12_isConsented_0[j]? = some b) : AtB cX12_isConsented (0 + j) b := at_of32 (by decide +kernel) j hj
def bX12_isConsented_1 : List UInt8 := [0, 202, 16, 9, 27, 104, 21, 5, 96, 46, 5, 160, 0, 5, 3, 172, 29, 4, 96, 62, 21, 4, 42, 180, 0, 202, 16, 9, 27, 104, 21, 5]
theorem kX12_isConsented_1 (j : Nat) {b : UInt8} (hj : bX12_isConsented_1[j]? = some b) : AtB cX12_isConsented (32 + j) b := at_of32 (by decide +kernel) j hj
def bX12_isConsented_2 : List UInt8 := [96, 46, 4, 160, 0, 7, 4, 167, 0, 4, 3, 96, 54, 4, 132, 5, 1, 167, 255, 183, 5, 21, 4, 104, 29, 164, 0, 7, 4, 167, 0, 4]
theorem kX12_isConsented_2 (j : Nat) {b : UInt8} (hj : bX12_isConsented_2[j]? = some b) : AtB cX12_isConsented (64 + j) b := at_of32 (by decide +kernel) j hj
def bX12_isConsented_3 : List UInt8 := [3, 172]
theorem kX12_isConsented_3 (j : Nat) {b : UInt8} (hj : bX12_isConsented_3[j]? = some b) : AtB cX12_isConsented (96 + j) b := at_of32 (by decide +kernel) j hj
theorem dX12_isConsented_0 : decode cX12_isConsented 0 = .ok (.iconst 0, 1) := dq_3 (kX12_isConsented_0 0 rfl)
theorem dX12_isConsented_1 : decode cX12_isConsented 1 = .ok (.istore_n 3, 1) := dq_62 (kX12_isConsented_0 1 rfl)
theorem dX12_isConsented_2 : decode cX12_isConsented 2 = .ok (.iconst 0, 1) := dq_3 (kX12_isConsented_0 2 rfl)
theorem dX12_isConsented_3 : decode cX12_isConsented 3 = .ok (.istore 4, 2) := dq_54 (kX12_isConsented_0 3 rfl) (kX12_isConsented_0 4 rfl) rfl
theorem dX12_isConsented_5 : decode cX12_isConsented 5 = .ok (.iconst 0, 1) := dq_3 (kX12_isConsented_0 5 rfl)
theorem dX12_isConsented_6 : decode cX12_isConsented 6 = .ok (.istore 5, 2) := dq_54 (kX12_isConsented_0 6 rfl) (kX12_isConsented_0 7 rfl) rfl
theorem dX12_isConsented_8 : decode cX12_isConsented 8 = .ok (.iload 5, 2) := dq_21 (kX12_isConsented_0 8 rfl) (kX12_isConsented_0 9 rfl) rfl
theorem dX12_isConsented_10 : decode cX12_isConsented 10 = .ok (.aload_n 0, 1) := dq_42 (kX12_isConsented_0 10 rfl)
theorem dX12_isConsented_11 : decode cX12_isConsented 11 = .ok (.getfield 393, 3) := dq_180 (kX12_isConsented_0 11 rfl) (kX12_isConsented_0 12 rfl) (kX12_isConsented_0 13 rfl) rfl
theorem dX12_isConsented_14 : decode cX12_isConsented 14 = .ok (.if_icmp .ge 70, 3) := dq_162 (kX12_isConsented_0 14 rfl) (kX12_isConsented_0 15 rfl) (kX12_isConsented_0 16 rfl) (by decide)
theorem dX12_isConsented_17 : decode cX12_isConsented 17 = .ok (.aload_n 0, 1) := dq_42 (kX12_isConsented_0 17 rfl)
theorem dX12_isConsented_18 : decode cX12_isConsented 18 = .ok (.iload 5, 2) := dq_21 (kX12_isConsented_0 18 rfl) (kX12_isConsented_0 19 rfl) rfl
theorem dX12_isConsented_20 : decode cX12_isConsented 20 = .ok (.iload_n 2, 1) := dq_28 (kX12_isConsented_0 20 rfl)
theorem dX12_isConsented_21 : decode cX12_isConsented 21 = .ok (.invokevirtual 412, 3) := dq_182 (kX12_isConsented_0 21 rfl) (kX12_isConsented_0 22 rfl) (kX12_isConsented_0 23 rfl) rfl
theorem dX12_isConsented_24 : decode cX12_isConsented 24 = .ok (.ifCond .ne 6, 3) := dq_154 (kX12_isConsented_0 24 rfl) (kX12_isConsented_0 25 rfl) (kX12_isConsented_0 26 rfl) (by decide)
theorem dX12_isConsented_27 : decode cX12_isConsented 27 = .ok (.goto 51, 3) := dq_167 (kX12_isConsented_0 27 rfl) (kX12_isConsented_0 28 rfl) (kX12_isConsented_0 29 rfl) (by decide)
theorem dX12_isConsented_30 : decode cX12_isConsented 30 = .ok (.aload_n 0, 1) := dq_42 (kX12_isConsented_0 30 rfl)
theorem dX12_isConsented_31 : decode cX12_isConsented 31 = .ok (.getfield 202, 3) := dq_180 (kX12_isConsented_0 31 rfl) (kX12_isConsented_1 0 rfl) (kX12_isConsented_1 1 rfl) rfl
theorem dX12_isConsented_34 : decode cX12_isConsented 34 = .ok (.bipush 9, 2) := dq_16 (kX12_isConsented_1 2 rfl) (kX12_isConsented_1 3 rfl) (by decide)
theorem dX12_isConsented_36 : decode cX12_isConsented 36 = .ok (.iload_n 1, 1) := dq_27 (kX12_isConsented_1 4 rfl)
theorem dX12_isConsented_37 : decode cX12_isConsented 37 = .ok (.imul, 1) := dq_104 (kX12_isConsented_1 5 rfl)
theorem dX12_isConsented_38 : decode cX12_isConsented 38 = .ok (.iload 5, 2) := dq_21 (kX12_isConsented_1 6 rfl) (kX12_isConsented_1 7 rfl) rfl
theorem dX12_isConsented_40 : decode cX12_isConsented 40 = .ok (.iadd, 1) := dq_96 (kX12_isConsented_1 8 rfl)
theorem dX12_isConsented_41 : decode cX12_isConsented 41 = .ok (.iaload, 1) := dq_46 (kX12_isConsented_1 9 rfl)
theorem dX12_isConsented_42 : decode cX12_isConsented 42 = .ok (.iconst 2, 1) := dq_5 (kX12_isConsented_1 10 rfl)
theorem dX12_isConsented_43 : decode cX12_isConsented 43 = .ok (.if_icmp .ne 5, 3) := dq_160 (kX12_isConsented_1 11 rfl) (kX12_isConsented_1 12 rfl) (kX12_isConsented_1 13 rfl) (by decide)
theorem dX12_isConsented_46 : decode cX12_isConsented 46 = .ok (.iconst 0, 1) := dq_3 (kX12_isConsented_1 14 rfl)
theorem dX12_isConsented_47 : decode cX12_isConsented 47 = .ok (.ireturn, 1) := dq_172 (kX12_isConsented_1 15 rfl)
theorem dX12_isConsented_48 : decode cX12_isConsented 48 = .ok (.iload_n 3, 1) := dq_29 (kX12_isConsented_1 16 rfl)
theorem dX12_isConsented_49 : decode cX12_isConsented 49 = .ok (.iconst 1, 1) := dq_4 (kX12_isConsented_1 17 rfl)
theorem dX12_isConsented_50 : decode cX12_isConsented 50 = .ok (.iadd, 1) := dq_96 (kX12_isConsented_1 18 rfl)
theorem dX12_isConsented_51 : decode cX12_isConsented 51 = .ok (.istore_n 3, 1) := dq_62 (kX12_isConsented_1 19 rfl)
theorem dX12_isConsented_52 : decode cX12_isConsented 52 = .ok (.iload 4, 2) := dq_21 (kX12_isConsented_1 20 rfl) (kX12_isConsented_1 21 rfl) rfl
theorem dX12_isConsented_54 : decode cX12_isConsented 54 = .ok (.aload_n 0, 1) := dq_42 (kX12_isConsented_1 22 rfl)
theorem dX12_isConsented_55 : decode cX12_isConsented 55 = .ok (.getfield 202, 3) := dq_180 (kX12_isConsented_1 23 rfl) (kX12_isConsented_1 24 rfl) (kX12_isConsented_1 25 rfl) rfl
theorem dX12_isConsented_58 : decode cX12_isConsented 58 = .ok (.bipush 9, 2) := dq_16 (kX12_isConsented_1 26 rfl) (kX12_isConsented_1 27 rfl) (by decide)
theorem dX12_isConsented_60 : decode cX12_isConsented 60 = .ok (.iload_n 1, 1) := dq_27 (kX12_isConsented_1 28 rfl)
theorem dX12_isConsented_61 : decode cX12_isConsented 61 = .ok (.imul, 1) := dq_104 (kX12_isConsented_1 29 rfl)
theorem dX12_isConsented_62 : decode cX12_isConsented 62 = .ok (.iload 5, 2) := dq_21 (kX12_isConsented_1 30 rfl) (kX12_isConsented_1 31 rfl) rfl
theorem dX12_isConsented_64 : decode cX12_isConsented 64 = .ok (.iadd, 1) := dq_96 (kX12_isConsented_2 0 rfl)
theorem dX12_isConsented_65 : decode cX12_isConsented 65 = .ok (.iaload, 1) := dq_46 (kX12_isConsented_2 1 rfl)
theorem dX12_isConsented_66 : decode cX12_isConsented 66 = .ok (.iconst 1, 1) := dq_4 (kX12_isConsented_2 2 rfl)
theorem dX12_isConsented_67 : decode cX12_isConsented 67 = .ok (.if_icmp .ne 7, 3) := dq_160 (kX12_isConsented_2 3 rfl) (kX12_isConsented_2 4 rfl) (kX12_isConsented_2 5 rfl) (by decide)
theorem dX12_isConsented_70 : decode cX12_isConsented 70 = .ok (.iconst 1, 1) := dq_4 (kX12_isConsented_2 6 rfl)
theorem dX12_isConsented_71 : decode cX12_isConsented 71 = .ok (.goto 4, 3) := dq_167 (kX12_isConsented_2 7 rfl) (kX12_isConsented_2 8 rfl) (kX12_isConsented_2 9 rfl) (by decide)
theorem dX12_isConsented_74 : decode cX12_isConsented 74 = .ok (.iconst 0, 1) := dq_3 (kX12_isConsented_2 10 rfl)
theorem dX12_isConsented_75 : decode cX12_isConsented 75 = .ok (.iadd, 1) := dq_96 (kX12_isConsented_2 11 rfl)
theorem dX12_isConsented_76 : decode cX12_isConsented 76 = .ok (.istore 4, 2) := dq_54 (kX12_isConsented_2 12 rfl) (kX12_isConsented_2 13 rfl) rfl
theorem dX12_isConsented_78 : decode cX12_isConsented 78 = .ok (.iinc 5 1, 3) := dq_132 (kX12_isConsented_2 14 rfl) (kX12_isConsented_2 15 rfl) (kX12_isConsented_2 16 rfl) rfl (by decide)
theorem dX12_isConsented_81 : decode cX12_isConsented 81 = .ok (.goto (-73), 3) := dq_167 (kX12_isConsented_2 17 rfl) (kX12_isConsented_2 18 rfl) (kX12_isConsented_2 19 rfl) (by decide)
theorem dX12_isConsented_84 : decode cX12_isConsented 84 = .ok (.iconst 2, 1) := dq_5 (kX12_isConsented_2 20 rfl)
theorem dX12_isConsented_85 : decode cX12_isConsented 85 = .ok (.iload 4, 2) := dq_21 (kX12_isConsented_2 21 rfl) (kX12_isConsented_2 22 rfl) rfl
theorem dX12_isConsented_87 : decode cX12_isConsented 87 = .ok (.imul, 1) := dq_104 (kX12_isConsented_2 23 rfl)
theorem dX12_isConsented_88 : decode cX12_isConsented 88 = .ok (.iload_n 3, 1) := dq_29 (kX12_isConsented_2 24 rfl)
theorem dX12_isConsented_89 : decode cX12_isConsented 89 = .ok (.if_icmp .le 7, 3) := dq_164 (kX12_isConsented_2 25 rfl) (kX12_isConsented_2 26 rfl) (kX12_isConsented_2 27 rfl) (by decide)
theorem dX12_isConsented_92 : decode cX12_isConsented 92 = .ok (.iconst 1, 1) := dq_4 (kX12_isConsented_2 28 rfl)
theorem dX12_isConsented_93 : decode cX12_isConsented 93 = .ok (.goto 4, 3) := dq_167 (kX12_isConsented_2 29 rfl) (kX12_isConsented_2 30 rfl) (kX12_isConsented_2 31 rfl) (by decide)
theorem dX12_isConsented_96 : decode cX12_isConsented 96 = .ok (.iconst 0, 1) := dq_3 (kX12_isConsented_3 0 rfl)
theorem dX12_isConsented_97 : decode cX12_isConsented 97 = .ok (.ireturn, 1) := dq_172 (kX12_isConsented_3 1 rfl)

def bX12_nearPlaces_0 : List UInt8 := [3, 54, 4, 3, 54, 5, 21, 5, 42, 180, 1, 119, 162, 0, 46, 21, 4, 42, 180, 0, 35, 21, 5, 46, 27, 160, 0, 23, 42, 42, 180, 0]
theorem kX12_nearPlaces_0 (j : Nat) {b : UInt8} (hj : bX12_nearPlaces_0[j]? = some b) : AtB cX12_nearPlaces (0 + j) b := at_of32 (by decide +kernel) j hj
def bX12_nearPlaces_1 : List UInt8 := [41, 21, 5, 46, 28, 182, 1, 133, 29, 163, 0, 7, 4, 167, 0, 4, 3, 96, 54, 4, 132, 5, 1, 167, 255, 207, 21, 4, 172]
theorem kX12_nearPlaces_1 (j : Nat) {b : UInt8} (hj : bX12_nearPlaces_1[j]? = some b) : AtB cX12_nearPlaces (32 + j) b := at_of32 (by decide +kernel) j hj
theorem dX12_nearPlaces_0 : decode cX12_nearPlaces 0 = .ok (.iconst 0, 1) := dq_3 (kX12_nearPlaces_0 0 rfl)
theorem dX12_nearPlaces_1 : decode cX12_nearPlaces 1 = .ok (.istore 4, 2) := dq_54 (kX12_nearPlaces_0 1 rfl) (kX12_nearPlaces_0 2 rfl) rfl
theorem dX12_nearPlaces_3 : decode cX12_nearPlaces 3 = .ok (.iconst 0, 1) := dq_3 (kX12_nearPlaces_0 3 rfl)
theorem dX12_nearPlaces_4 : decode cX12_nearPlaces 4 = .ok (.istore 5, 2) := dq_54 (kX12_nearPlaces_0 4 rfl) (kX12_nearPlaces_0 5 rfl) rfl
theorem dX12_nearPlaces_6 : decode cX12_nearPlaces 6 = .ok (.iload 5, 2) := dq_21 (kX12_nearPlaces_0 6 rfl) (kX12_nearPlaces_0 7 rfl) rfl
theorem dX12_nearPlaces_8 : decode cX12_nearPlaces 8 = .ok (.aload_n 0, 1) := dq_42 (kX12_nearPlaces_0 8 rfl)
theorem dX12_nearPlaces_9 : decode cX12_nearPlaces 9 = .ok (.getfield 375, 3) := dq_180 (kX12_nearPlaces_0 9 rfl) (kX12_nearPlaces_0 10 rfl) (kX12_nearPlaces_0 11 rfl) rfl
theorem dX12_nearPlaces_12 : decode cX12_nearPlaces 12 = .ok (.if_icmp .ge 46, 3) := dq_162 (kX12_nearPlaces_0 12 rfl) (kX12_nearPlaces_0 13 rfl) (kX12_nearPlaces_0 14 rfl) (by decide)
theorem dX12_nearPlaces_15 : decode cX12_nearPlaces 15 = .ok (.iload 4, 2) := dq_21 (kX12_nearPlaces_0 15 rfl) (kX12_nearPlaces_0 16 rfl) rfl
theorem dX12_nearPlaces_17 : decode cX12_nearPlaces 17 = .ok (.aload_n 0, 1) := dq_42 (kX12_nearPlaces_0 17 rfl)
theorem dX12_nearPlaces_18 : decode cX12_nearPlaces 18 = .ok (.getfield 35, 3) := dq_180 (kX12_nearPlaces_0 18 rfl) (kX12_nearPlaces_0 19 rfl) (kX12_nearPlaces_0 20 rfl) rfl
theorem dX12_nearPlaces_21 : decode cX12_nearPlaces 21 = .ok (.iload 5, 2) := dq_21 (kX12_nearPlaces_0 21 rfl) (kX12_nearPlaces_0 22 rfl) rfl
theorem dX12_nearPlaces_23 : decode cX12_nearPlaces 23 = .ok (.iaload, 1) := dq_46 (kX12_nearPlaces_0 23 rfl)
theorem dX12_nearPlaces_24 : decode cX12_nearPlaces 24 = .ok (.iload_n 1, 1) := dq_27 (kX12_nearPlaces_0 24 rfl)
theorem dX12_nearPlaces_25 : decode cX12_nearPlaces 25 = .ok (.if_icmp .ne 23, 3) := dq_160 (kX12_nearPlaces_0 25 rfl) (kX12_nearPlaces_0 26 rfl) (kX12_nearPlaces_0 27 rfl) (by decide)
theorem dX12_nearPlaces_28 : decode cX12_nearPlaces 28 = .ok (.aload_n 0, 1) := dq_42 (kX12_nearPlaces_0 28 rfl)
theorem dX12_nearPlaces_29 : decode cX12_nearPlaces 29 = .ok (.aload_n 0, 1) := dq_42 (kX12_nearPlaces_0 29 rfl)
theorem dX12_nearPlaces_30 : decode cX12_nearPlaces 30 = .ok (.getfield 41, 3) := dq_180 (kX12_nearPlaces_0 30 rfl) (kX12_nearPlaces_0 31 rfl) (kX12_nearPlaces_1 0 rfl) rfl
theorem dX12_nearPlaces_33 : decode cX12_nearPlaces 33 = .ok (.iload 5, 2) := dq_21 (kX12_nearPlaces_1 1 rfl) (kX12_nearPlaces_1 2 rfl) rfl
theorem dX12_nearPlaces_35 : decode cX12_nearPlaces 35 = .ok (.iaload, 1) := dq_46 (kX12_nearPlaces_1 3 rfl)
theorem dX12_nearPlaces_36 : decode cX12_nearPlaces 36 = .ok (.iload_n 2, 1) := dq_28 (kX12_nearPlaces_1 4 rfl)
theorem dX12_nearPlaces_37 : decode cX12_nearPlaces 37 = .ok (.invokevirtual 389, 3) := dq_182 (kX12_nearPlaces_1 5 rfl) (kX12_nearPlaces_1 6 rfl) (kX12_nearPlaces_1 7 rfl) rfl
theorem dX12_nearPlaces_40 : decode cX12_nearPlaces 40 = .ok (.iload_n 3, 1) := dq_29 (kX12_nearPlaces_1 8 rfl)
theorem dX12_nearPlaces_41 : decode cX12_nearPlaces 41 = .ok (.if_icmp .gt 7, 3) := dq_163 (kX12_nearPlaces_1 9 rfl) (kX12_nearPlaces_1 10 rfl) (kX12_nearPlaces_1 11 rfl) (by decide)
theorem dX12_nearPlaces_44 : decode cX12_nearPlaces 44 = .ok (.iconst 1, 1) := dq_4 (kX12_nearPlaces_1 12 rfl)
theorem dX12_nearPlaces_45 : decode cX12_nearPlaces 45 = .ok (.goto 4, 3) := dq_167 (kX12_nearPlaces_1 13 rfl) (kX12_nearPlaces_1 14 rfl) (kX12_nearPlaces_1 15 rfl) (by decide)
theorem dX12_nearPlaces_48 : decode cX12_nearPlaces 48 = .ok (.iconst 0, 1) := dq_3 (kX12_nearPlaces_1 16 rfl)
theorem dX12_nearPlaces_49 : decode cX12_nearPlaces 49 = .ok (.iadd, 1) := dq_96 (kX12_nearPlaces_1 17 rfl)
theorem dX12_nearPlaces_50 : decode cX12_nearPlaces 50 = .ok (.istore 4, 2) := dq_54 (kX12_nearPlaces_1 18 rfl) (kX12_nearPlaces_1 19 rfl) rfl
theorem dX12_nearPlaces_52 : decode cX12_nearPlaces 52 = .ok (.iinc 5 1, 3) := dq_132 (kX12_nearPlaces_1 20 rfl) (kX12_nearPlaces_1 21 rfl) (kX12_nearPlaces_1 22 rfl) rfl (by decide)
theorem dX12_nearPlaces_55 : decode cX12_nearPlaces 55 = .ok (.goto (-49), 3) := dq_167 (kX12_nearPlaces_1 23 rfl) (kX12_nearPlaces_1 24 rfl) (kX12_nearPlaces_1 25 rfl) (by decide)
theorem dX12_nearPlaces_58 : decode cX12_nearPlaces 58 = .ok (.iload 4, 2) := dq_21 (kX12_nearPlaces_1 26 rfl) (kX12_nearPlaces_1 27 rfl) rfl
theorem dX12_nearPlaces_60 : decode cX12_nearPlaces 60 = .ok (.ireturn, 1) := dq_172 (kX12_nearPlaces_1 28 rfl)

def bX12_othersNear_0 : List UInt8 := [3, 62, 3, 54, 4, 21, 4, 42, 180, 1, 119, 162, 0, 53, 29, 42, 21, 4, 182, 1, 177, 153, 0, 34, 42, 180, 0, 38, 21, 4, 46, 27]
theorem kX12_othersNear_0 (j : Nat) {b : UInt8} (hj : bX12_othersNear_0[j]? = some b) : AtB cX12_othersNear (0 + j) b := at_of32 (by decide +kernel) j hj
def bX12_othersNear_1 : List UInt8 := [159, 0, 23, 42, 42, 180, 0, 41, 21, 4, 46, 28, 182, 1, 133, 6, 163, 0, 7, 4, 167, 0, 4, 3, 96, 62, 132, 4, 1, 167, 255, 200]
theorem kX12_othersNear_1 (j : Nat) {b : UInt8} (hj : bX12_othersNear_1[j]? = some b) : AtB cX12_othersNear (32 + j) b := at_of32 (by decide +kernel) j hj
def bX12_othersNear_2 : List UInt8 := [29, 172]
theorem kX12_othersNear_2 (j : Nat) {b : UInt8} (hj : bX12_othersNear_2[j]? = some b) : AtB cX12_othersNear (64 + j) b := at_of32 (by decide +kernel) j hj
theorem dX12_othersNear_0 : decode cX12_othersNear 0 = .ok (.iconst 0, 1) := dq_3 (kX12_othersNear_0 0 rfl)
theorem dX12_othersNear_1 : decode cX12_othersNear 1 = .ok (.istore_n 3, 1) := dq_62 (kX12_othersNear_0 1 rfl)
theorem dX12_othersNear_2 : decode cX12_othersNear 2 = .ok (.iconst 0, 1) := dq_3 (kX12_othersNear_0 2 rfl)
theorem dX12_othersNear_3 : decode cX12_othersNear 3 = .ok (.istore 4, 2) := dq_54 (kX12_othersNear_0 3 rfl) (kX12_othersNear_0 4 rfl) rfl
theorem dX12_othersNear_5 : decode cX12_othersNear 5 = .ok (.iload 4, 2) := dq_21 (kX12_othersNear_0 5 rfl) (kX12_othersNear_0 6 rfl) rfl
theorem dX12_othersNear_7 : decode cX12_othersNear 7 = .ok (.aload_n 0, 1) := dq_42 (kX12_othersNear_0 7 rfl)
theorem dX12_othersNear_8 : decode cX12_othersNear 8 = .ok (.getfield 375, 3) := dq_180 (kX12_othersNear_0 8 rfl) (kX12_othersNear_0 9 rfl) (kX12_othersNear_0 10 rfl) rfl
theorem dX12_othersNear_11 : decode cX12_othersNear 11 = .ok (.if_icmp .ge 53, 3) := dq_162 (kX12_othersNear_0 11 rfl) (kX12_othersNear_0 12 rfl) (kX12_othersNear_0 13 rfl) (by decide)
theorem dX12_othersNear_14 : decode cX12_othersNear 14 = .ok (.iload_n 3, 1) := dq_29 (kX12_othersNear_0 14 rfl)
theorem dX12_othersNear_15 : decode cX12_othersNear 15 = .ok (.aload_n 0, 1) := dq_42 (kX12_othersNear_0 15 rfl)
theorem dX12_othersNear_16 : decode cX12_othersNear 16 = .ok (.iload 4, 2) := dq_21 (kX12_othersNear_0 16 rfl) (kX12_othersNear_0 17 rfl) rfl
theorem dX12_othersNear_18 : decode cX12_othersNear 18 = .ok (.invokevirtual 433, 3) := dq_182 (kX12_othersNear_0 18 rfl) (kX12_othersNear_0 19 rfl) (kX12_othersNear_0 20 rfl) rfl
theorem dX12_othersNear_21 : decode cX12_othersNear 21 = .ok (.ifCond .eq 34, 3) := dq_153 (kX12_othersNear_0 21 rfl) (kX12_othersNear_0 22 rfl) (kX12_othersNear_0 23 rfl) (by decide)
theorem dX12_othersNear_24 : decode cX12_othersNear 24 = .ok (.aload_n 0, 1) := dq_42 (kX12_othersNear_0 24 rfl)
theorem dX12_othersNear_25 : decode cX12_othersNear 25 = .ok (.getfield 38, 3) := dq_180 (kX12_othersNear_0 25 rfl) (kX12_othersNear_0 26 rfl) (kX12_othersNear_0 27 rfl) rfl
theorem dX12_othersNear_28 : decode cX12_othersNear 28 = .ok (.iload 4, 2) := dq_21 (kX12_othersNear_0 28 rfl) (kX12_othersNear_0 29 rfl) rfl
theorem dX12_othersNear_30 : decode cX12_othersNear 30 = .ok (.iaload, 1) := dq_46 (kX12_othersNear_0 30 rfl)
theorem dX12_othersNear_31 : decode cX12_othersNear 31 = .ok (.iload_n 1, 1) := dq_27 (kX12_othersNear_0 31 rfl)
theorem dX12_othersNear_32 : decode cX12_othersNear 32 = .ok (.if_icmp .eq 23, 3) := dq_159 (kX12_othersNear_1 0 rfl) (kX12_othersNear_1 1 rfl) (kX12_othersNear_1 2 rfl) (by decide)
theorem dX12_othersNear_35 : decode cX12_othersNear 35 = .ok (.aload_n 0, 1) := dq_42 (kX12_othersNear_1 3 rfl)
theorem dX12_othersNear_36 : decode cX12_othersNear 36 = .ok (.aload_n 0, 1) := dq_42 (kX12_othersNear_1 4 rfl)
theorem dX12_othersNear_37 : decode cX12_othersNear 37 = .ok (.getfield 41, 3) := dq_180 (kX12_othersNear_1 5 rfl) (kX12_othersNear_1 6 rfl) (kX12_othersNear_1 7 rfl) rfl
theorem dX12_othersNear_40 : decode cX12_othersNear 40 = .ok (.iload 4, 2) := dq_21 (kX12_othersNear_1 8 rfl) (kX12_othersNear_1 9 rfl) rfl
theorem dX12_othersNear_42 : decode cX12_othersNear 42 = .ok (.iaload, 1) := dq_46 (kX12_othersNear_1 10 rfl)
theorem dX12_othersNear_43 : decode cX12_othersNear 43 = .ok (.iload_n 2, 1) := dq_28 (kX12_othersNear_1 11 rfl)
theorem dX12_othersNear_44 : decode cX12_othersNear 44 = .ok (.invokevirtual 389, 3) := dq_182 (kX12_othersNear_1 12 rfl) (kX12_othersNear_1 13 rfl) (kX12_othersNear_1 14 rfl) rfl
theorem dX12_othersNear_47 : decode cX12_othersNear 47 = .ok (.iconst 3, 1) := dq_6 (kX12_othersNear_1 15 rfl)
theorem dX12_othersNear_48 : decode cX12_othersNear 48 = .ok (.if_icmp .gt 7, 3) := dq_163 (kX12_othersNear_1 16 rfl) (kX12_othersNear_1 17 rfl) (kX12_othersNear_1 18 rfl) (by decide)
theorem dX12_othersNear_51 : decode cX12_othersNear 51 = .ok (.iconst 1, 1) := dq_4 (kX12_othersNear_1 19 rfl)
theorem dX12_othersNear_52 : decode cX12_othersNear 52 = .ok (.goto 4, 3) := dq_167 (kX12_othersNear_1 20 rfl) (kX12_othersNear_1 21 rfl) (kX12_othersNear_1 22 rfl) (by decide)
theorem dX12_othersNear_55 : decode cX12_othersNear 55 = .ok (.iconst 0, 1) := dq_3 (kX12_othersNear_1 23 rfl)
theorem dX12_othersNear_56 : decode cX12_othersNear 56 = .ok (.iadd, 1) := dq_96 (kX12_othersNear_1 24 rfl)
theorem dX12_othersNear_57 : decode cX12_othersNear 57 = .ok (.istore_n 3, 1) := dq_62 (kX12_othersNear_1 25 rfl)
theorem dX12_othersNear_58 : decode cX12_othersNear 58 = .ok (.iinc 4 1, 3) := dq_132 (kX12_othersNear_1 26 rfl) (kX12_othersNear_1 27 rfl) (kX12_othersNear_1 28 rfl) rfl (by decide)
theorem dX12_othersNear_61 : decode cX12_othersNear 61 = .ok (.goto (-56), 3) := dq_167 (kX12_othersNear_1 29 rfl) (kX12_othersNear_1 30 rfl) (kX12_othersNear_1 31 rfl) (by decide)
theorem dX12_othersNear_64 : decode cX12_othersNear 64 = .ok (.iload_n 3, 1) := dq_29 (kX12_othersNear_2 0 rfl)
theorem dX12_othersNear_65 : decode cX12_othersNear 65 = .ok (.ireturn, 1) := dq_172 (kX12_othersNear_2 1 rfl)

def bX12_rankAt_0 : List UInt8 := [3, 61, 3, 62, 29, 42, 180, 1, 119, 162, 0, 49, 42, 180, 0, 35, 29, 46, 6, 160, 0, 31, 42, 27, 29, 182, 2, 57, 153, 0, 22, 42]
theorem kX12_rankAt_0 (j : Nat) {b : UInt8} (hj : bX12_rankAt_0[j]? = some b) : AtB cX12_rankAt (0 + j) b := at_of32 (by decide +kernel) j hj
def bX12_rankAt_1 : List UInt8 := [180, 0, 47, 29, 46, 28, 164, 0, 12, 42, 180, 0, 47, 29, 46, 167, 0, 4, 28, 61, 132, 3, 1, 167, 255, 205, 28, 172]
theorem kX12_rankAt_1 (j : Nat) {b : UInt8} (hj : bX12_rankAt_1[j]? = some b) : AtB cX12_rankAt (32 + j) b := at_of32 (by decide +kernel) j hj
theorem dX12_rankAt_0 : decode cX12_rankAt 0 = .ok (.iconst 0, 1) := dq_3 (kX12_rankAt_0 0 rfl)
theorem dX12_rankAt_1 : decode cX12_rankAt 1 = .ok (.istore_n 2, 1) := dq_61 (kX12_rankAt_0 1 rfl)
theorem dX12_rankAt_2 : decode cX12_rankAt 2 = .ok (.iconst 0, 1) := dq_3 (kX12_rankAt_0 2 rfl)
theorem dX12_rankAt_3 : decode cX12_rankAt 3 = .ok (.istore_n 3, 1) := dq_62 (kX12_rankAt_0 3 rfl)
theorem dX12_rankAt_4 : decode cX12_rankAt 4 = .ok (.iload_n 3, 1) := dq_29 (kX12_rankAt_0 4 rfl)
theorem dX12_rankAt_5 : decode cX12_rankAt 5 = .ok (.aload_n 0, 1) := dq_42 (kX12_rankAt_0 5 rfl)
theorem dX12_rankAt_6 : decode cX12_rankAt 6 = .ok (.getfield 375, 3) := dq_180 (kX12_rankAt_0 6 rfl) (kX12_rankAt_0 7 rfl) (kX12_rankAt_0 8 rfl) rfl
theorem dX12_rankAt_9 : decode cX12_rankAt 9 = .ok (.if_icmp .ge 49, 3) := dq_162 (kX12_rankAt_0 9 rfl) (kX12_rankAt_0 10 rfl) (kX12_rankAt_0 11 rfl) (by decide)
theorem dX12_rankAt_12 : decode cX12_rankAt 12 = .ok (.aload_n 0, 1) := dq_42 (kX12_rankAt_0 12 rfl)
theorem dX12_rankAt_13 : decode cX12_rankAt 13 = .ok (.getfield 35, 3) := dq_180 (kX12_rankAt_0 13 rfl) (kX12_rankAt_0 14 rfl) (kX12_rankAt_0 15 rfl) rfl
theorem dX12_rankAt_16 : decode cX12_rankAt 16 = .ok (.iload_n 3, 1) := dq_29 (kX12_rankAt_0 16 rfl)
theorem dX12_rankAt_17 : decode cX12_rankAt 17 = .ok (.iaload, 1) := dq_46 (kX12_rankAt_0 17 rfl)
theorem dX12_rankAt_18 : decode cX12_rankAt 18 = .ok (.iconst 3, 1) := dq_6 (kX12_rankAt_0 18 rfl)
theorem dX12_rankAt_19 : decode cX12_rankAt 19 = .ok (.if_icmp .ne 31, 3) := dq_160 (kX12_rankAt_0 19 rfl) (kX12_rankAt_0 20 rfl) (kX12_rankAt_0 21 rfl) (by decide)
theorem dX12_rankAt_22 : decode cX12_rankAt 22 = .ok (.aload_n 0, 1) := dq_42 (kX12_rankAt_0 22 rfl)
theorem dX12_rankAt_23 : decode cX12_rankAt 23 = .ok (.iload_n 1, 1) := dq_27 (kX12_rankAt_0 23 rfl)
theorem dX12_rankAt_24 : decode cX12_rankAt 24 = .ok (.iload_n 3, 1) := dq_29 (kX12_rankAt_0 24 rfl)
theorem dX12_rankAt_25 : decode cX12_rankAt 25 = .ok (.invokevirtual 569, 3) := dq_182 (kX12_rankAt_0 25 rfl) (kX12_rankAt_0 26 rfl) (kX12_rankAt_0 27 rfl) rfl
theorem dX12_rankAt_28 : decode cX12_rankAt 28 = .ok (.ifCond .eq 22, 3) := dq_153 (kX12_rankAt_0 28 rfl) (kX12_rankAt_0 29 rfl) (kX12_rankAt_0 30 rfl) (by decide)
theorem dX12_rankAt_31 : decode cX12_rankAt 31 = .ok (.aload_n 0, 1) := dq_42 (kX12_rankAt_0 31 rfl)
theorem dX12_rankAt_32 : decode cX12_rankAt 32 = .ok (.getfield 47, 3) := dq_180 (kX12_rankAt_1 0 rfl) (kX12_rankAt_1 1 rfl) (kX12_rankAt_1 2 rfl) rfl
theorem dX12_rankAt_35 : decode cX12_rankAt 35 = .ok (.iload_n 3, 1) := dq_29 (kX12_rankAt_1 3 rfl)
theorem dX12_rankAt_36 : decode cX12_rankAt 36 = .ok (.iaload, 1) := dq_46 (kX12_rankAt_1 4 rfl)
theorem dX12_rankAt_37 : decode cX12_rankAt 37 = .ok (.iload_n 2, 1) := dq_28 (kX12_rankAt_1 5 rfl)
theorem dX12_rankAt_38 : decode cX12_rankAt 38 = .ok (.if_icmp .le 12, 3) := dq_164 (kX12_rankAt_1 6 rfl) (kX12_rankAt_1 7 rfl) (kX12_rankAt_1 8 rfl) (by decide)
theorem dX12_rankAt_41 : decode cX12_rankAt 41 = .ok (.aload_n 0, 1) := dq_42 (kX12_rankAt_1 9 rfl)
theorem dX12_rankAt_42 : decode cX12_rankAt 42 = .ok (.getfield 47, 3) := dq_180 (kX12_rankAt_1 10 rfl) (kX12_rankAt_1 11 rfl) (kX12_rankAt_1 12 rfl) rfl
theorem dX12_rankAt_45 : decode cX12_rankAt 45 = .ok (.iload_n 3, 1) := dq_29 (kX12_rankAt_1 13 rfl)
theorem dX12_rankAt_46 : decode cX12_rankAt 46 = .ok (.iaload, 1) := dq_46 (kX12_rankAt_1 14 rfl)
theorem dX12_rankAt_47 : decode cX12_rankAt 47 = .ok (.goto 4, 3) := dq_167 (kX12_rankAt_1 15 rfl) (kX12_rankAt_1 16 rfl) (kX12_rankAt_1 17 rfl) (by decide)
theorem dX12_rankAt_50 : decode cX12_rankAt 50 = .ok (.iload_n 2, 1) := dq_28 (kX12_rankAt_1 18 rfl)
theorem dX12_rankAt_51 : decode cX12_rankAt 51 = .ok (.istore_n 2, 1) := dq_61 (kX12_rankAt_1 19 rfl)
theorem dX12_rankAt_52 : decode cX12_rankAt 52 = .ok (.iinc 3 1, 3) := dq_132 (kX12_rankAt_1 20 rfl) (kX12_rankAt_1 21 rfl) (kX12_rankAt_1 22 rfl) rfl (by decide)
theorem dX12_rankAt_55 : decode cX12_rankAt 55 = .ok (.goto (-51), 3) := dq_167 (kX12_rankAt_1 23 rfl) (kX12_rankAt_1 24 rfl) (kX12_rankAt_1 25 rfl) (by decide)
theorem dX12_rankAt_58 : decode cX12_rankAt 58 = .ok (.iload_n 2, 1) := dq_28 (kX12_rankAt_1 26 rfl)
theorem dX12_rankAt_59 : decode cX12_rankAt 59 = .ok (.ireturn, 1) := dq_172 (kX12_rankAt_1 27 rfl)

def bX12_valueOf_0 : List UInt8 := [42, 180, 0, 169, 28, 46, 54, 4, 27, 170, 0, 0, 0, 0, 0, 181, 0, 0, 0, 0, 0, 0, 0, 12, 0, 0, 0, 67, 0, 0, 0, 74]
theorem kX12_valueOf_0 (j : Nat) {b : UInt8} (hj : bX12_valueOf_0[j]? = some b) : AtB cX12_valueOf (0 + j) b := at_of32 (by decide +kernel) j hj
def bX12_valueOf_1 : List UInt8 := [0, 0, 0, 81, 0, 0, 0, 101, 0, 0, 0, 109, 0, 0, 0, 117, 0, 0, 0, 124, 0, 0, 0, 133, 0, 0, 0, 142, 0, 0, 0, 155]
theorem kX12_valueOf_1 (j : Nat) {b : UInt8} (hj : bX12_valueOf_1[j]? = some b) : AtB cX12_valueOf (32 + j) b := at_of32 (by decide +kernel) j hj
def bX12_valueOf_2 : List UInt8 := [0, 0, 0, 162, 0, 0, 0, 169, 0, 0, 0, 175, 42, 180, 0, 163, 28, 46, 172, 42, 180, 0, 166, 28, 46, 172, 42, 42, 180, 0, 166, 28]
theorem kX12_valueOf_2 (j : Nat) {b : UInt8} (hj : bX12_valueOf_2[j]? = some b) : AtB cX12_valueOf (64 + j) b := at_of32 (by decide +kernel) j hj
def bX12_valueOf_3 : List UInt8 := [46, 29, 182, 1, 156, 153, 0, 7, 4, 167, 0, 4, 3, 172, 42, 180, 0, 16, 21, 4, 46, 172, 42, 180, 0, 20, 21, 4, 46, 172, 42, 21]
theorem kX12_valueOf_3 (j : Nat) {b : UInt8} (hj : bX12_valueOf_3[j]? = some b) : AtB cX12_valueOf (96 + j) b := at_of32 (by decide +kernel) j hj
def bX12_valueOf_4 : List UInt8 := [4, 182, 2, 60, 172, 42, 7, 21, 4, 4, 182, 2, 63, 172, 42, 8, 21, 4, 5, 182, 2, 63, 172, 42, 42, 180, 0, 166, 28, 46, 21, 4]
theorem kX12_valueOf_4 (j : Nat) {b : UInt8} (hj : bX12_valueOf_4[j]? = some b) : AtB cX12_valueOf (128 + j) b := at_of32 (by decide +kernel) j hj
def bX12_valueOf_5 : List UInt8 := [182, 2, 67, 172, 42, 180, 0, 178, 28, 46, 172, 42, 180, 0, 181, 28, 46, 172, 29, 17, 1, 104, 112, 172, 29, 17, 1, 104, 108, 172, 42, 29]
theorem kX12_valueOf_5 (j : Nat) {b : UInt8} (hj : bX12_valueOf_5[j]? = some b) : AtB cX12_valueOf (160 + j) b := at_of32 (by decide +kernel) j hj
def bX12_valueOf_6 : List UInt8 := [182, 2, 70, 153, 0, 7, 4, 167, 0, 4, 3, 172]
theorem kX12_valueOf_6 (j : Nat) {b : UInt8} (hj : bX12_valueOf_6[j]? = some b) : AtB cX12_valueOf (192 + j) b := at_of32 (by decide +kernel) j hj
theorem dX12_valueOf_0 : decode cX12_valueOf 0 = .ok (.aload_n 0, 1) := dq_42 (kX12_valueOf_0 0 rfl)
theorem dX12_valueOf_1 : decode cX12_valueOf 1 = .ok (.getfield 169, 3) := dq_180 (kX12_valueOf_0 1 rfl) (kX12_valueOf_0 2 rfl) (kX12_valueOf_0 3 rfl) rfl
theorem dX12_valueOf_4 : decode cX12_valueOf 4 = .ok (.iload_n 2, 1) := dq_28 (kX12_valueOf_0 4 rfl)
theorem dX12_valueOf_5 : decode cX12_valueOf 5 = .ok (.iaload, 1) := dq_46 (kX12_valueOf_0 5 rfl)
theorem dX12_valueOf_6 : decode cX12_valueOf 6 = .ok (.istore 4, 2) := dq_54 (kX12_valueOf_0 6 rfl) (kX12_valueOf_0 7 rfl) rfl
theorem dX12_valueOf_8 : decode cX12_valueOf 8 = .ok (.iload_n 1, 1) := dq_27 (kX12_valueOf_0 8 rfl)
theorem dX12_valueOf_76 : decode cX12_valueOf 76 = .ok (.aload_n 0, 1) := dq_42 (kX12_valueOf_2 12 rfl)
theorem dX12_valueOf_77 : decode cX12_valueOf 77 = .ok (.getfield 163, 3) := dq_180 (kX12_valueOf_2 13 rfl) (kX12_valueOf_2 14 rfl) (kX12_valueOf_2 15 rfl) rfl
theorem dX12_valueOf_80 : decode cX12_valueOf 80 = .ok (.iload_n 2, 1) := dq_28 (kX12_valueOf_2 16 rfl)
theorem dX12_valueOf_81 : decode cX12_valueOf 81 = .ok (.iaload, 1) := dq_46 (kX12_valueOf_2 17 rfl)
theorem dX12_valueOf_82 : decode cX12_valueOf 82 = .ok (.ireturn, 1) := dq_172 (kX12_valueOf_2 18 rfl)
theorem dX12_valueOf_83 : decode cX12_valueOf 83 = .ok (.aload_n 0, 1) := dq_42 (kX12_valueOf_2 19 rfl)
theorem dX12_valueOf_84 : decode cX12_valueOf 84 = .ok (.getfield 166, 3) := dq_180 (kX12_valueOf_2 20 rfl) (kX12_valueOf_2 21 rfl) (kX12_valueOf_2 22 rfl) rfl
theorem dX12_valueOf_87 : decode cX12_valueOf 87 = .ok (.iload_n 2, 1) := dq_28 (kX12_valueOf_2 23 rfl)
theorem dX12_valueOf_88 : decode cX12_valueOf 88 = .ok (.iaload, 1) := dq_46 (kX12_valueOf_2 24 rfl)
theorem dX12_valueOf_89 : decode cX12_valueOf 89 = .ok (.ireturn, 1) := dq_172 (kX12_valueOf_2 25 rfl)
theorem dX12_valueOf_90 : decode cX12_valueOf 90 = .ok (.aload_n 0, 1) := dq_42 (kX12_valueOf_2 26 rfl)
theorem dX12_valueOf_91 : decode cX12_valueOf 91 = .ok (.aload_n 0, 1) := dq_42 (kX12_valueOf_2 27 rfl)
theorem dX12_valueOf_92 : decode cX12_valueOf 92 = .ok (.getfield 166, 3) := dq_180 (kX12_valueOf_2 28 rfl) (kX12_valueOf_2 29 rfl) (kX12_valueOf_2 30 rfl) rfl
theorem dX12_valueOf_95 : decode cX12_valueOf 95 = .ok (.iload_n 2, 1) := dq_28 (kX12_valueOf_2 31 rfl)
theorem dX12_valueOf_96 : decode cX12_valueOf 96 = .ok (.iaload, 1) := dq_46 (kX12_valueOf_3 0 rfl)
theorem dX12_valueOf_97 : decode cX12_valueOf 97 = .ok (.iload_n 3, 1) := dq_29 (kX12_valueOf_3 1 rfl)
theorem dX12_valueOf_98 : decode cX12_valueOf 98 = .ok (.invokevirtual 412, 3) := dq_182 (kX12_valueOf_3 2 rfl) (kX12_valueOf_3 3 rfl) (kX12_valueOf_3 4 rfl) rfl
theorem dX12_valueOf_101 : decode cX12_valueOf 101 = .ok (.ifCond .eq 7, 3) := dq_153 (kX12_valueOf_3 5 rfl) (kX12_valueOf_3 6 rfl) (kX12_valueOf_3 7 rfl) (by decide)
theorem dX12_valueOf_104 : decode cX12_valueOf 104 = .ok (.iconst 1, 1) := dq_4 (kX12_valueOf_3 8 rfl)
theorem dX12_valueOf_105 : decode cX12_valueOf 105 = .ok (.goto 4, 3) := dq_167 (kX12_valueOf_3 9 rfl) (kX12_valueOf_3 10 rfl) (kX12_valueOf_3 11 rfl) (by decide)
theorem dX12_valueOf_108 : decode cX12_valueOf 108 = .ok (.iconst 0, 1) := dq_3 (kX12_valueOf_3 12 rfl)
theorem dX12_valueOf_109 : decode cX12_valueOf 109 = .ok (.ireturn, 1) := dq_172 (kX12_valueOf_3 13 rfl)
theorem dX12_valueOf_110 : decode cX12_valueOf 110 = .ok (.aload_n 0, 1) := dq_42 (kX12_valueOf_3 14 rfl)
theorem dX12_valueOf_111 : decode cX12_valueOf 111 = .ok (.getfield 16, 3) := dq_180 (kX12_valueOf_3 15 rfl) (kX12_valueOf_3 16 rfl) (kX12_valueOf_3 17 rfl) rfl
theorem dX12_valueOf_114 : decode cX12_valueOf 114 = .ok (.iload 4, 2) := dq_21 (kX12_valueOf_3 18 rfl) (kX12_valueOf_3 19 rfl) rfl
theorem dX12_valueOf_116 : decode cX12_valueOf 116 = .ok (.iaload, 1) := dq_46 (kX12_valueOf_3 20 rfl)
theorem dX12_valueOf_117 : decode cX12_valueOf 117 = .ok (.ireturn, 1) := dq_172 (kX12_valueOf_3 21 rfl)
theorem dX12_valueOf_118 : decode cX12_valueOf 118 = .ok (.aload_n 0, 1) := dq_42 (kX12_valueOf_3 22 rfl)
theorem dX12_valueOf_119 : decode cX12_valueOf 119 = .ok (.getfield 20, 3) := dq_180 (kX12_valueOf_3 23 rfl) (kX12_valueOf_3 24 rfl) (kX12_valueOf_3 25 rfl) rfl
theorem dX12_valueOf_122 : decode cX12_valueOf 122 = .ok (.iload 4, 2) := dq_21 (kX12_valueOf_3 26 rfl) (kX12_valueOf_3 27 rfl) rfl
theorem dX12_valueOf_124 : decode cX12_valueOf 124 = .ok (.iaload, 1) := dq_46 (kX12_valueOf_3 28 rfl)
theorem dX12_valueOf_125 : decode cX12_valueOf 125 = .ok (.ireturn, 1) := dq_172 (kX12_valueOf_3 29 rfl)
theorem dX12_valueOf_126 : decode cX12_valueOf 126 = .ok (.aload_n 0, 1) := dq_42 (kX12_valueOf_3 30 rfl)
theorem dX12_valueOf_127 : decode cX12_valueOf 127 = .ok (.iload 4, 2) := dq_21 (kX12_valueOf_3 31 rfl) (kX12_valueOf_4 0 rfl) rfl
theorem dX12_valueOf_129 : decode cX12_valueOf 129 = .ok (.invokevirtual 572, 3) := dq_182 (kX12_valueOf_4 1 rfl) (kX12_valueOf_4 2 rfl) (kX12_valueOf_4 3 rfl) rfl
theorem dX12_valueOf_132 : decode cX12_valueOf 132 = .ok (.ireturn, 1) := dq_172 (kX12_valueOf_4 4 rfl)
theorem dX12_valueOf_133 : decode cX12_valueOf 133 = .ok (.aload_n 0, 1) := dq_42 (kX12_valueOf_4 5 rfl)
theorem dX12_valueOf_134 : decode cX12_valueOf 134 = .ok (.iconst 4, 1) := dq_7 (kX12_valueOf_4 6 rfl)
theorem dX12_valueOf_135 : decode cX12_valueOf 135 = .ok (.iload 4, 2) := dq_21 (kX12_valueOf_4 7 rfl) (kX12_valueOf_4 8 rfl) rfl
theorem dX12_valueOf_137 : decode cX12_valueOf 137 = .ok (.iconst 1, 1) := dq_4 (kX12_valueOf_4 9 rfl)
theorem dX12_valueOf_138 : decode cX12_valueOf 138 = .ok (.invokevirtual 575, 3) := dq_182 (kX12_valueOf_4 10 rfl) (kX12_valueOf_4 11 rfl) (kX12_valueOf_4 12 rfl) rfl
theorem dX12_valueOf_141 : decode cX12_valueOf 141 = .ok (.ireturn, 1) := dq_172 (kX12_valueOf_4 13 rfl)
theorem dX12_valueOf_142 : decode cX12_valueOf 142 = .ok (.aload_n 0, 1) := dq_42 (kX12_valueOf_4 14 rfl)
theorem dX12_valueOf_143 : decode cX12_valueOf 143 = .ok (.iconst 5, 1) := dq_8 (kX12_valueOf_4 15 rfl)
theorem dX12_valueOf_144 : decode cX12_valueOf 144 = .ok (.iload 4, 2) := dq_21 (kX12_valueOf_4 16 rfl) (kX12_valueOf_4 17 rfl) rfl
theorem dX12_valueOf_146 : decode cX12_valueOf 146 = .ok (.iconst 2, 1) := dq_5 (kX12_valueOf_4 18 rfl)
theorem dX12_valueOf_147 : decode cX12_valueOf 147 = .ok (.invokevirtual 575, 3) := dq_182 (kX12_valueOf_4 19 rfl) (kX12_valueOf_4 20 rfl) (kX12_valueOf_4 21 rfl) rfl
theorem dX12_valueOf_150 : decode cX12_valueOf 150 = .ok (.ireturn, 1) := dq_172 (kX12_valueOf_4 22 rfl)
theorem dX12_valueOf_151 : decode cX12_valueOf 151 = .ok (.aload_n 0, 1) := dq_42 (kX12_valueOf_4 23 rfl)
theorem dX12_valueOf_152 : decode cX12_valueOf 152 = .ok (.aload_n 0, 1) := dq_42 (kX12_valueOf_4 24 rfl)
theorem dX12_valueOf_153 : decode cX12_valueOf 153 = .ok (.getfield 166, 3) := dq_180 (kX12_valueOf_4 25 rfl) (kX12_valueOf_4 26 rfl) (kX12_valueOf_4 27 rfl) rfl
theorem dX12_valueOf_156 : decode cX12_valueOf 156 = .ok (.iload_n 2, 1) := dq_28 (kX12_valueOf_4 28 rfl)
theorem dX12_valueOf_157 : decode cX12_valueOf 157 = .ok (.iaload, 1) := dq_46 (kX12_valueOf_4 29 rfl)
theorem dX12_valueOf_158 : decode cX12_valueOf 158 = .ok (.iload 4, 2) := dq_21 (kX12_valueOf_4 30 rfl) (kX12_valueOf_4 31 rfl) rfl
theorem dX12_valueOf_160 : decode cX12_valueOf 160 = .ok (.invokevirtual 579, 3) := dq_182 (kX12_valueOf_5 0 rfl) (kX12_valueOf_5 1 rfl) (kX12_valueOf_5 2 rfl) rfl
theorem dX12_valueOf_163 : decode cX12_valueOf 163 = .ok (.ireturn, 1) := dq_172 (kX12_valueOf_5 3 rfl)
theorem dX12_valueOf_164 : decode cX12_valueOf 164 = .ok (.aload_n 0, 1) := dq_42 (kX12_valueOf_5 4 rfl)
theorem dX12_valueOf_165 : decode cX12_valueOf 165 = .ok (.getfield 178, 3) := dq_180 (kX12_valueOf_5 5 rfl) (kX12_valueOf_5 6 rfl) (kX12_valueOf_5 7 rfl) rfl
theorem dX12_valueOf_168 : decode cX12_valueOf 168 = .ok (.iload_n 2, 1) := dq_28 (kX12_valueOf_5 8 rfl)
theorem dX12_valueOf_169 : decode cX12_valueOf 169 = .ok (.iaload, 1) := dq_46 (kX12_valueOf_5 9 rfl)
theorem dX12_valueOf_170 : decode cX12_valueOf 170 = .ok (.ireturn, 1) := dq_172 (kX12_valueOf_5 10 rfl)
theorem dX12_valueOf_171 : decode cX12_valueOf 171 = .ok (.aload_n 0, 1) := dq_42 (kX12_valueOf_5 11 rfl)
theorem dX12_valueOf_172 : decode cX12_valueOf 172 = .ok (.getfield 181, 3) := dq_180 (kX12_valueOf_5 12 rfl) (kX12_valueOf_5 13 rfl) (kX12_valueOf_5 14 rfl) rfl
theorem dX12_valueOf_175 : decode cX12_valueOf 175 = .ok (.iload_n 2, 1) := dq_28 (kX12_valueOf_5 15 rfl)
theorem dX12_valueOf_176 : decode cX12_valueOf 176 = .ok (.iaload, 1) := dq_46 (kX12_valueOf_5 16 rfl)
theorem dX12_valueOf_177 : decode cX12_valueOf 177 = .ok (.ireturn, 1) := dq_172 (kX12_valueOf_5 17 rfl)
theorem dX12_valueOf_178 : decode cX12_valueOf 178 = .ok (.iload_n 3, 1) := dq_29 (kX12_valueOf_5 18 rfl)
theorem dX12_valueOf_179 : decode cX12_valueOf 179 = .ok (.sipush 360, 3) := dq_17 (kX12_valueOf_5 19 rfl) (kX12_valueOf_5 20 rfl) (kX12_valueOf_5 21 rfl) (by decide)
theorem dX12_valueOf_182 : decode cX12_valueOf 182 = .ok (.irem, 1) := dq_112 (kX12_valueOf_5 22 rfl)
theorem dX12_valueOf_183 : decode cX12_valueOf 183 = .ok (.ireturn, 1) := dq_172 (kX12_valueOf_5 23 rfl)
theorem dX12_valueOf_184 : decode cX12_valueOf 184 = .ok (.iload_n 3, 1) := dq_29 (kX12_valueOf_5 24 rfl)
theorem dX12_valueOf_185 : decode cX12_valueOf 185 = .ok (.sipush 360, 3) := dq_17 (kX12_valueOf_5 25 rfl) (kX12_valueOf_5 26 rfl) (kX12_valueOf_5 27 rfl) (by decide)
theorem dX12_valueOf_188 : decode cX12_valueOf 188 = .ok (.idiv, 1) := dq_108 (kX12_valueOf_5 28 rfl)
theorem dX12_valueOf_189 : decode cX12_valueOf 189 = .ok (.ireturn, 1) := dq_172 (kX12_valueOf_5 29 rfl)
theorem dX12_valueOf_190 : decode cX12_valueOf 190 = .ok (.aload_n 0, 1) := dq_42 (kX12_valueOf_5 30 rfl)
theorem dX12_valueOf_191 : decode cX12_valueOf 191 = .ok (.iload_n 3, 1) := dq_29 (kX12_valueOf_5 31 rfl)
theorem dX12_valueOf_192 : decode cX12_valueOf 192 = .ok (.invokevirtual 582, 3) := dq_182 (kX12_valueOf_6 0 rfl) (kX12_valueOf_6 1 rfl) (kX12_valueOf_6 2 rfl) rfl
theorem dX12_valueOf_195 : decode cX12_valueOf 195 = .ok (.ifCond .eq 7, 3) := dq_153 (kX12_valueOf_6 3 rfl) (kX12_valueOf_6 4 rfl) (kX12_valueOf_6 5 rfl) (by decide)
theorem dX12_valueOf_198 : decode cX12_valueOf 198 = .ok (.iconst 1, 1) := dq_4 (kX12_valueOf_6 6 rfl)
theorem dX12_valueOf_199 : decode cX12_valueOf 199 = .ok (.goto 4, 3) := dq_167 (kX12_valueOf_6 7 rfl) (kX12_valueOf_6 8 rfl) (kX12_valueOf_6 9 rfl) (by decide)
theorem dX12_valueOf_202 : decode cX12_valueOf 202 = .ok (.iconst 0, 1) := dq_3 (kX12_valueOf_6 10 rfl)
theorem dX12_valueOf_203 : decode cX12_valueOf 203 = .ok (.ireturn, 1) := dq_172 (kX12_valueOf_6 11 rfl)
def LX12_valueOf : List (Nat × Instr × Nat) := [(9, .tableswitch 181 0 12 #[67, 74, 81, 101, 109, 117, 124, 133, 142, 155, 162, 169, 175], 67)]
theorem kkX12_valueOf : chkB cX12_valueOf LX12_valueOf = true := by decide +kernel
theorem dX12_valueOf_9 : decode cX12_valueOf 9 = .ok (.tableswitch 181 0 12 #[67, 74, 81, 101, 109, 117, 124, 133, 142, 155, 162, 169, 175], 67) := getB' kkX12_valueOf 0 rfl

def bX12_reckon_0 : List UInt8 := [26, 170, 0, 0, 0, 0, 0, 85, 0, 0, 0, 2, 0, 0, 0, 8, 0, 0, 0, 43, 0, 0, 0, 47, 0, 0, 0, 51, 0, 0, 0, 55]
theorem kX12_reckon_0 (j : Nat) {b : UInt8} (hj : bX12_reckon_0[j]? = some b) : AtB cX12_reckon (0 + j) b := at_of32 (by decide +kernel) j hj
def bX12_reckon_1 : List UInt8 := [0, 0, 0, 59, 0, 0, 0, 63, 0, 0, 0, 74, 27, 28, 96, 172, 27, 28, 100, 172, 27, 28, 104, 172, 27, 28, 108, 172, 27, 28, 112, 172]
theorem kX12_reckon_1 (j : Nat) {b : UInt8} (hj : bX12_reckon_1[j]? = some b) : AtB cX12_reckon (32 + j) b := at_of32 (by decide +kernel) j hj
def bX12_reckon_2 : List UInt8 := [27, 28, 162, 0, 7, 4, 167, 0, 4, 3, 172, 27, 28, 164, 0, 7, 4, 167, 0, 4, 3, 172, 27, 28, 160, 0, 7, 4, 167, 0, 4, 3]
theorem kX12_reckon_2 (j : Nat) {b : UInt8} (hj : bX12_reckon_2[j]? = some b) : AtB cX12_reckon (64 + j) b := at_of32 (by decide +kernel) j hj
def bX12_reckon_3 : List UInt8 := [172]
theorem kX12_reckon_3 (j : Nat) {b : UInt8} (hj : bX12_reckon_3[j]? = some b) : AtB cX12_reckon (96 + j) b := at_of32 (by decide +kernel) j hj
theorem dX12_reckon_0 : decode cX12_reckon 0 = .ok (.iload_n 0, 1) := dq_26 (kX12_reckon_0 0 rfl)
theorem dX12_reckon_44 : decode cX12_reckon 44 = .ok (.iload_n 1, 1) := dq_27 (kX12_reckon_1 12 rfl)
theorem dX12_reckon_45 : decode cX12_reckon 45 = .ok (.iload_n 2, 1) := dq_28 (kX12_reckon_1 13 rfl)
theorem dX12_reckon_46 : decode cX12_reckon 46 = .ok (.iadd, 1) := dq_96 (kX12_reckon_1 14 rfl)
theorem dX12_reckon_47 : decode cX12_reckon 47 = .ok (.ireturn, 1) := dq_172 (kX12_reckon_1 15 rfl)
theorem dX12_reckon_48 : decode cX12_reckon 48 = .ok (.iload_n 1, 1) := dq_27 (kX12_reckon_1 16 rfl)
theorem dX12_reckon_49 : decode cX12_reckon 49 = .ok (.iload_n 2, 1) := dq_28 (kX12_reckon_1 17 rfl)
theorem dX12_reckon_50 : decode cX12_reckon 50 = .ok (.isub, 1) := dq_100 (kX12_reckon_1 18 rfl)
theorem dX12_reckon_51 : decode cX12_reckon 51 = .ok (.ireturn, 1) := dq_172 (kX12_reckon_1 19 rfl)
theorem dX12_reckon_52 : decode cX12_reckon 52 = .ok (.iload_n 1, 1) := dq_27 (kX12_reckon_1 20 rfl)
theorem dX12_reckon_53 : decode cX12_reckon 53 = .ok (.iload_n 2, 1) := dq_28 (kX12_reckon_1 21 rfl)
theorem dX12_reckon_54 : decode cX12_reckon 54 = .ok (.imul, 1) := dq_104 (kX12_reckon_1 22 rfl)
theorem dX12_reckon_55 : decode cX12_reckon 55 = .ok (.ireturn, 1) := dq_172 (kX12_reckon_1 23 rfl)
theorem dX12_reckon_56 : decode cX12_reckon 56 = .ok (.iload_n 1, 1) := dq_27 (kX12_reckon_1 24 rfl)
theorem dX12_reckon_57 : decode cX12_reckon 57 = .ok (.iload_n 2, 1) := dq_28 (kX12_reckon_1 25 rfl)
theorem dX12_reckon_58 : decode cX12_reckon 58 = .ok (.idiv, 1) := dq_108 (kX12_reckon_1 26 rfl)
theorem dX12_reckon_59 : decode cX12_reckon 59 = .ok (.ireturn, 1) := dq_172 (kX12_reckon_1 27 rfl)
theorem dX12_reckon_60 : decode cX12_reckon 60 = .ok (.iload_n 1, 1) := dq_27 (kX12_reckon_1 28 rfl)
theorem dX12_reckon_61 : decode cX12_reckon 61 = .ok (.iload_n 2, 1) := dq_28 (kX12_reckon_1 29 rfl)
theorem dX12_reckon_62 : decode cX12_reckon 62 = .ok (.irem, 1) := dq_112 (kX12_reckon_1 30 rfl)
theorem dX12_reckon_63 : decode cX12_reckon 63 = .ok (.ireturn, 1) := dq_172 (kX12_reckon_1 31 rfl)
theorem dX12_reckon_64 : decode cX12_reckon 64 = .ok (.iload_n 1, 1) := dq_27 (kX12_reckon_2 0 rfl)
theorem dX12_reckon_65 : decode cX12_reckon 65 = .ok (.iload_n 2, 1) := dq_28 (kX12_reckon_2 1 rfl)
theorem dX12_reckon_66 : decode cX12_reckon 66 = .ok (.if_icmp .ge 7, 3) := dq_162 (kX12_reckon_2 2 rfl) (kX12_reckon_2 3 rfl) (kX12_reckon_2 4 rfl) (by decide)
theorem dX12_reckon_69 : decode cX12_reckon 69 = .ok (.iconst 1, 1) := dq_4 (kX12_reckon_2 5 rfl)
theorem dX12_reckon_70 : decode cX12_reckon 70 = .ok (.goto 4, 3) := dq_167 (kX12_reckon_2 6 rfl) (kX12_reckon_2 7 rfl) (kX12_reckon_2 8 rfl) (by decide)
theorem dX12_reckon_73 : decode cX12_reckon 73 = .ok (.iconst 0, 1) := dq_3 (kX12_reckon_2 9 rfl)
theorem dX12_reckon_74 : decode cX12_reckon 74 = .ok (.ireturn, 1) := dq_172 (kX12_reckon_2 10 rfl)
theorem dX12_reckon_75 : decode cX12_reckon 75 = .ok (.iload_n 1, 1) := dq_27 (kX12_reckon_2 11 rfl)
theorem dX12_reckon_76 : decode cX12_reckon 76 = .ok (.iload_n 2, 1) := dq_28 (kX12_reckon_2 12 rfl)
theorem dX12_reckon_77 : decode cX12_reckon 77 = .ok (.if_icmp .le 7, 3) := dq_164 (kX12_reckon_2 13 rfl) (kX12_reckon_2 14 rfl) (kX12_reckon_2 15 rfl) (by decide)
theorem dX12_reckon_80 : decode cX12_reckon 80 = .ok (.iconst 1, 1) := dq_4 (kX12_reckon_2 16 rfl)
theorem dX12_reckon_81 : decode cX12_reckon 81 = .ok (.goto 4, 3) := dq_167 (kX12_reckon_2 17 rfl) (kX12_reckon_2 18 rfl) (kX12_reckon_2 19 rfl) (by decide)
theorem dX12_reckon_84 : decode cX12_reckon 84 = .ok (.iconst 0, 1) := dq_3 (kX12_reckon_2 20 rfl)
theorem dX12_reckon_85 : decode cX12_reckon 85 = .ok (.ireturn, 1) := dq_172 (kX12_reckon_2 21 rfl)
theorem dX12_reckon_86 : decode cX12_reckon 86 = .ok (.iload_n 1, 1) := dq_27 (kX12_reckon_2 22 rfl)
theorem dX12_reckon_87 : decode cX12_reckon 87 = .ok (.iload_n 2, 1) := dq_28 (kX12_reckon_2 23 rfl)
theorem dX12_reckon_88 : decode cX12_reckon 88 = .ok (.if_icmp .ne 7, 3) := dq_160 (kX12_reckon_2 24 rfl) (kX12_reckon_2 25 rfl) (kX12_reckon_2 26 rfl) (by decide)
theorem dX12_reckon_91 : decode cX12_reckon 91 = .ok (.iconst 1, 1) := dq_4 (kX12_reckon_2 27 rfl)
theorem dX12_reckon_92 : decode cX12_reckon 92 = .ok (.goto 4, 3) := dq_167 (kX12_reckon_2 28 rfl) (kX12_reckon_2 29 rfl) (kX12_reckon_2 30 rfl) (by decide)
theorem dX12_reckon_95 : decode cX12_reckon 95 = .ok (.iconst 0, 1) := dq_3 (kX12_reckon_2 31 rfl)
theorem dX12_reckon_96 : decode cX12_reckon 96 = .ok (.ireturn, 1) := dq_172 (kX12_reckon_3 0 rfl)
def LX12_reckon : List (Nat × Instr × Nat) := [(1, .tableswitch 85 2 8 #[43, 47, 51, 55, 59, 63, 74], 43)]
theorem kkX12_reckon : chkB cX12_reckon LX12_reckon = true := by decide +kernel
theorem dX12_reckon_1 : decode cX12_reckon 1 = .ok (.tableswitch 85 2 8 #[43, 47, 51, 55, 59, 63, 74], 43) := getB' kkX12_reckon 0 rfl

def bX12_holds_0 : List UInt8 := [3, 54, 7, 29, 54, 8, 21, 8, 21, 4, 162, 0, 226, 43, 21, 8, 46, 19, 1, 213, 108, 54, 9, 43, 21, 8, 46, 19, 1, 213, 112, 54]
theorem kX12_holds_0 (j : Nat) {b : UInt8} (hj : bX12_holds_0[j]? = some b) : AtB cX12_holds (0 + j) b := at_of32 (by decide +kernel) j hj
def bX12_holds_1 : List UInt8 := [10, 21, 8, 4, 96, 54, 8, 21, 9, 153, 0, 9, 21, 9, 4, 160, 0, 39, 42, 180, 0, 205, 21, 7, 21, 9, 154, 0, 8, 21, 10, 167]
theorem kX12_holds_1 (j : Nat) {b : UInt8} (hj : bX12_holds_1[j]? = some b) : AtB cX12_holds (32 + j) b := at_of32 (by decide +kernel) j hj
def bX12_holds_2 : List UInt8 := [0, 13, 42, 21, 10, 21, 5, 21, 6, 182, 2, 73, 79, 21, 7, 4, 96, 54, 7, 167, 0, 150, 21, 9, 16, 10, 160, 0, 26, 42, 180, 0]
theorem kX12_holds_2 (j : Nat) {b : UInt8} (hj : bX12_holds_2[j]? = some b) : AtB cX12_holds (64 + j) b := at_of32 (by decide +kernel) j hj
def bX12_holds_3 : List UInt8 := [205, 21, 7, 4, 100, 4, 42, 180, 0, 205, 21, 7, 4, 100, 46, 100, 79, 167, 0, 120, 21, 9, 16, 11, 159, 0, 10, 21, 9, 16, 12, 160]
theorem kX12_holds_3 (j : Nat) {b : UInt8} (hj : bX12_holds_3[j]? = some b) : AtB cX12_holds (96 + j) b := at_of32 (by decide +kernel) j hj
def bX12_holds_4 : List UInt8 := [0, 45, 42, 180, 0, 205, 21, 7, 4, 100, 46, 21, 9, 16, 12, 160, 0, 7, 4, 167, 0, 4, 3, 160, 0, 12, 28, 21, 10, 96, 54, 8]
theorem kX12_holds_4 (j : Nat) {b : UInt8} (hj : bX12_holds_4[j]? = some b) : AtB cX12_holds (128 + j) b := at_of32 (by decide +kernel) j hj
def bX12_holds_5 : List UInt8 := [167, 0, 73, 21, 7, 4, 100, 54, 7, 167, 0, 64, 21, 7, 4, 100, 54, 7, 21, 9, 8, 159, 0, 10, 21, 9, 16, 6, 160, 0, 15, 42]
theorem kX12_holds_5 (j : Nat) {b : UInt8} (hj : bX12_holds_5[j]? = some b) : AtB cX12_holds (160 + j) b := at_of32 (by decide +kernel) j hj
def bX12_holds_6 : List UInt8 := [180, 0, 205, 21, 7, 46, 154, 0, 5, 5, 172, 42, 180, 0, 205, 21, 7, 4, 100, 21, 9, 42, 180, 0, 205, 21, 7, 4, 100, 46, 42, 180]
theorem kX12_holds_6 (j : Nat) {b : UInt8} (hj : bX12_holds_6[j]? = some b) : AtB cX12_holds (192 + j) b := at_of32 (by decide +kernel) j hj
def bX12_holds_7 : List UInt8 := [0, 205, 21, 7, 46, 184, 2, 76, 79, 167, 255, 29, 42, 180, 0, 205, 3, 46, 172]
theorem kX12_holds_7 (j : Nat) {b : UInt8} (hj : bX12_holds_7[j]? = some b) : AtB cX12_holds (224 + j) b := at_of32 (by decide +kernel) j hj
theorem dX12_holds_0 : decode cX12_holds 0 = .ok (.iconst 0, 1) := dq_3 (kX12_holds_0 0 rfl)
theorem dX12_holds_1 : decode cX12_holds 1 = .ok (.istore 7, 2) := dq_54 (kX12_holds_0 1 rfl) (kX12_holds_0 2 rfl) rfl
theorem dX12_holds_3 : decode cX12_holds 3 = .ok (.iload_n 3, 1) := dq_29 (kX12_holds_0 3 rfl)
theorem dX12_holds_4 : decode cX12_holds 4 = .ok (.istore 8, 2) := dq_54 (kX12_holds_0 4 rfl) (kX12_holds_0 5 rfl) rfl
theorem dX12_holds_6 : decode cX12_holds 6 = .ok (.iload 8, 2) := dq_21 (kX12_holds_0 6 rfl) (kX12_holds_0 7 rfl) rfl
theorem dX12_holds_8 : decode cX12_holds 8 = .ok (.iload 4, 2) := dq_21 (kX12_holds_0 8 rfl) (kX12_holds_0 9 rfl) rfl
theorem dX12_holds_10 : decode cX12_holds 10 = .ok (.if_icmp .ge 226, 3) := dq_162 (kX12_holds_0 10 rfl) (kX12_holds_0 11 rfl) (kX12_holds_0 12 rfl) (by decide)
theorem dX12_holds_13 : decode cX12_holds 13 = .ok (.aload_n 1, 1) := dq_43 (kX12_holds_0 13 rfl)
theorem dX12_holds_14 : decode cX12_holds 14 = .ok (.iload 8, 2) := dq_21 (kX12_holds_0 14 rfl) (kX12_holds_0 15 rfl) rfl
theorem dX12_holds_16 : decode cX12_holds 16 = .ok (.iaload, 1) := dq_46 (kX12_holds_0 16 rfl)
theorem dX12_holds_17 : decode cX12_holds 17 = .ok (.ldc_w 469, 3) := dq_19 (kX12_holds_0 17 rfl) (kX12_holds_0 18 rfl) (kX12_holds_0 19 rfl) rfl
theorem dX12_holds_20 : decode cX12_holds 20 = .ok (.idiv, 1) := dq_108 (kX12_holds_0 20 rfl)
theorem dX12_holds_21 : decode cX12_holds 21 = .ok (.istore 9, 2) := dq_54 (kX12_holds_0 21 rfl) (kX12_holds_0 22 rfl) rfl
theorem dX12_holds_23 : decode cX12_holds 23 = .ok (.aload_n 1, 1) := dq_43 (kX12_holds_0 23 rfl)
theorem dX12_holds_24 : decode cX12_holds 24 = .ok (.iload 8, 2) := dq_21 (kX12_holds_0 24 rfl) (kX12_holds_0 25 rfl) rfl
theorem dX12_holds_26 : decode cX12_holds 26 = .ok (.iaload, 1) := dq_46 (kX12_holds_0 26 rfl)
theorem dX12_holds_27 : decode cX12_holds 27 = .ok (.ldc_w 469, 3) := dq_19 (kX12_holds_0 27 rfl) (kX12_holds_0 28 rfl) (kX12_holds_0 29 rfl) rfl
theorem dX12_holds_30 : decode cX12_holds 30 = .ok (.irem, 1) := dq_112 (kX12_holds_0 30 rfl)
theorem dX12_holds_31 : decode cX12_holds 31 = .ok (.istore 10, 2) := dq_54 (kX12_holds_0 31 rfl) (kX12_holds_1 0 rfl) rfl
theorem dX12_holds_33 : decode cX12_holds 33 = .ok (.iload 8, 2) := dq_21 (kX12_holds_1 1 rfl) (kX12_holds_1 2 rfl) rfl
theorem dX12_holds_35 : decode cX12_holds 35 = .ok (.iconst 1, 1) := dq_4 (kX12_holds_1 3 rfl)
theorem dX12_holds_36 : decode cX12_holds 36 = .ok (.iadd, 1) := dq_96 (kX12_holds_1 4 rfl)
theorem dX12_holds_37 : decode cX12_holds 37 = .ok (.istore 8, 2) := dq_54 (kX12_holds_1 5 rfl) (kX12_holds_1 6 rfl) rfl
theorem dX12_holds_39 : decode cX12_holds 39 = .ok (.iload 9, 2) := dq_21 (kX12_holds_1 7 rfl) (kX12_holds_1 8 rfl) rfl
theorem dX12_holds_41 : decode cX12_holds 41 = .ok (.ifCond .eq 9, 3) := dq_153 (kX12_holds_1 9 rfl) (kX12_holds_1 10 rfl) (kX12_holds_1 11 rfl) (by decide)
theorem dX12_holds_44 : decode cX12_holds 44 = .ok (.iload 9, 2) := dq_21 (kX12_holds_1 12 rfl) (kX12_holds_1 13 rfl) rfl
theorem dX12_holds_46 : decode cX12_holds 46 = .ok (.iconst 1, 1) := dq_4 (kX12_holds_1 14 rfl)
theorem dX12_holds_47 : decode cX12_holds 47 = .ok (.if_icmp .ne 39, 3) := dq_160 (kX12_holds_1 15 rfl) (kX12_holds_1 16 rfl) (kX12_holds_1 17 rfl) (by decide)
theorem dX12_holds_50 : decode cX12_holds 50 = .ok (.aload_n 0, 1) := dq_42 (kX12_holds_1 18 rfl)
theorem dX12_holds_51 : decode cX12_holds 51 = .ok (.getfield 205, 3) := dq_180 (kX12_holds_1 19 rfl) (kX12_holds_1 20 rfl) (kX12_holds_1 21 rfl) rfl
theorem dX12_holds_54 : decode cX12_holds 54 = .ok (.iload 7, 2) := dq_21 (kX12_holds_1 22 rfl) (kX12_holds_1 23 rfl) rfl
theorem dX12_holds_56 : decode cX12_holds 56 = .ok (.iload 9, 2) := dq_21 (kX12_holds_1 24 rfl) (kX12_holds_1 25 rfl) rfl
theorem dX12_holds_58 : decode cX12_holds 58 = .ok (.ifCond .ne 8, 3) := dq_154 (kX12_holds_1 26 rfl) (kX12_holds_1 27 rfl) (kX12_holds_1 28 rfl) (by decide)
theorem dX12_holds_61 : decode cX12_holds 61 = .ok (.iload 10, 2) := dq_21 (kX12_holds_1 29 rfl) (kX12_holds_1 30 rfl) rfl
theorem dX12_holds_63 : decode cX12_holds 63 = .ok (.goto 13, 3) := dq_167 (kX12_holds_1 31 rfl) (kX12_holds_2 0 rfl) (kX12_holds_2 1 rfl) (by decide)
theorem dX12_holds_66 : decode cX12_holds 66 = .ok (.aload_n 0, 1) := dq_42 (kX12_holds_2 2 rfl)
theorem dX12_holds_67 : decode cX12_holds 67 = .ok (.iload 10, 2) := dq_21 (kX12_holds_2 3 rfl) (kX12_holds_2 4 rfl) rfl
theorem dX12_holds_69 : decode cX12_holds 69 = .ok (.iload 5, 2) := dq_21 (kX12_holds_2 5 rfl) (kX12_holds_2 6 rfl) rfl
theorem dX12_holds_71 : decode cX12_holds 71 = .ok (.iload 6, 2) := dq_21 (kX12_holds_2 7 rfl) (kX12_holds_2 8 rfl) rfl
theorem dX12_holds_73 : decode cX12_holds 73 = .ok (.invokevirtual 585, 3) := dq_182 (kX12_holds_2 9 rfl) (kX12_holds_2 10 rfl) (kX12_holds_2 11 rfl) rfl
theorem dX12_holds_76 : decode cX12_holds 76 = .ok (.iastore, 1) := dq_79 (kX12_holds_2 12 rfl)
theorem dX12_holds_77 : decode cX12_holds 77 = .ok (.iload 7, 2) := dq_21 (kX12_holds_2 13 rfl) (kX12_holds_2 14 rfl) rfl
theorem dX12_holds_79 : decode cX12_holds 79 = .ok (.iconst 1, 1) := dq_4 (kX12_holds_2 15 rfl)
theorem dX12_holds_80 : decode cX12_holds 80 = .ok (.iadd, 1) := dq_96 (kX12_holds_2 16 rfl)
theorem dX12_holds_81 : decode cX12_holds 81 = .ok (.istore 7, 2) := dq_54 (kX12_holds_2 17 rfl) (kX12_holds_2 18 rfl) rfl
theorem dX12_holds_83 : decode cX12_holds 83 = .ok (.goto 150, 3) := dq_167 (kX12_holds_2 19 rfl) (kX12_holds_2 20 rfl) (kX12_holds_2 21 rfl) (by decide)
theorem dX12_holds_86 : decode cX12_holds 86 = .ok (.iload 9, 2) := dq_21 (kX12_holds_2 22 rfl) (kX12_holds_2 23 rfl) rfl
theorem dX12_holds_88 : decode cX12_holds 88 = .ok (.bipush 10, 2) := dq_16 (kX12_holds_2 24 rfl) (kX12_holds_2 25 rfl) (by decide)
theorem dX12_holds_90 : decode cX12_holds 90 = .ok (.if_icmp .ne 26, 3) := dq_160 (kX12_holds_2 26 rfl) (kX12_holds_2 27 rfl) (kX12_holds_2 28 rfl) (by decide)
theorem dX12_holds_93 : decode cX12_holds 93 = .ok (.aload_n 0, 1) := dq_42 (kX12_holds_2 29 rfl)
theorem dX12_holds_94 : decode cX12_holds 94 = .ok (.getfield 205, 3) := dq_180 (kX12_holds_2 30 rfl) (kX12_holds_2 31 rfl) (kX12_holds_3 0 rfl) rfl
theorem dX12_holds_97 : decode cX12_holds 97 = .ok (.iload 7, 2) := dq_21 (kX12_holds_3 1 rfl) (kX12_holds_3 2 rfl) rfl
theorem dX12_holds_99 : decode cX12_holds 99 = .ok (.iconst 1, 1) := dq_4 (kX12_holds_3 3 rfl)
theorem dX12_holds_100 : decode cX12_holds 100 = .ok (.isub, 1) := dq_100 (kX12_holds_3 4 rfl)
theorem dX12_holds_101 : decode cX12_holds 101 = .ok (.iconst 1, 1) := dq_4 (kX12_holds_3 5 rfl)
theorem dX12_holds_102 : decode cX12_holds 102 = .ok (.aload_n 0, 1) := dq_42 (kX12_holds_3 6 rfl)
theorem dX12_holds_103 : decode cX12_holds 103 = .ok (.getfield 205, 3) := dq_180 (kX12_holds_3 7 rfl) (kX12_holds_3 8 rfl) (kX12_holds_3 9 rfl) rfl
theorem dX12_holds_106 : decode cX12_holds 106 = .ok (.iload 7, 2) := dq_21 (kX12_holds_3 10 rfl) (kX12_holds_3 11 rfl) rfl
theorem dX12_holds_108 : decode cX12_holds 108 = .ok (.iconst 1, 1) := dq_4 (kX12_holds_3 12 rfl)
theorem dX12_holds_109 : decode cX12_holds 109 = .ok (.isub, 1) := dq_100 (kX12_holds_3 13 rfl)
theorem dX12_holds_110 : decode cX12_holds 110 = .ok (.iaload, 1) := dq_46 (kX12_holds_3 14 rfl)
theorem dX12_holds_111 : decode cX12_holds 111 = .ok (.isub, 1) := dq_100 (kX12_holds_3 15 rfl)
theorem dX12_holds_112 : decode cX12_holds 112 = .ok (.iastore, 1) := dq_79 (kX12_holds_3 16 rfl)
theorem dX12_holds_113 : decode cX12_holds 113 = .ok (.goto 120, 3) := dq_167 (kX12_holds_3 17 rfl) (kX12_holds_3 18 rfl) (kX12_holds_3 19 rfl) (by decide)
theorem dX12_holds_116 : decode cX12_holds 116 = .ok (.iload 9, 2) := dq_21 (kX12_holds_3 20 rfl) (kX12_holds_3 21 rfl) rfl
theorem dX12_holds_118 : decode cX12_holds 118 = .ok (.bipush 11, 2) := dq_16 (kX12_holds_3 22 rfl) (kX12_holds_3 23 rfl) (by decide)
theorem dX12_holds_120 : decode cX12_holds 120 = .ok (.if_icmp .eq 10, 3) := dq_159 (kX12_holds_3 24 rfl) (kX12_holds_3 25 rfl) (kX12_holds_3 26 rfl) (by decide)
theorem dX12_holds_123 : decode cX12_holds 123 = .ok (.iload 9, 2) := dq_21 (kX12_holds_3 27 rfl) (kX12_holds_3 28 rfl) rfl
theorem dX12_holds_125 : decode cX12_holds 125 = .ok (.bipush 12, 2) := dq_16 (kX12_holds_3 29 rfl) (kX12_holds_3 30 rfl) (by decide)
theorem dX12_holds_127 : decode cX12_holds 127 = .ok (.if_icmp .ne 45, 3) := dq_160 (kX12_holds_3 31 rfl) (kX12_holds_4 0 rfl) (kX12_holds_4 1 rfl) (by decide)
theorem dX12_holds_130 : decode cX12_holds 130 = .ok (.aload_n 0, 1) := dq_42 (kX12_holds_4 2 rfl)
theorem dX12_holds_131 : decode cX12_holds 131 = .ok (.getfield 205, 3) := dq_180 (kX12_holds_4 3 rfl) (kX12_holds_4 4 rfl) (kX12_holds_4 5 rfl) rfl
theorem dX12_holds_134 : decode cX12_holds 134 = .ok (.iload 7, 2) := dq_21 (kX12_holds_4 6 rfl) (kX12_holds_4 7 rfl) rfl
theorem dX12_holds_136 : decode cX12_holds 136 = .ok (.iconst 1, 1) := dq_4 (kX12_holds_4 8 rfl)
theorem dX12_holds_137 : decode cX12_holds 137 = .ok (.isub, 1) := dq_100 (kX12_holds_4 9 rfl)
theorem dX12_holds_138 : decode cX12_holds 138 = .ok (.iaload, 1) := dq_46 (kX12_holds_4 10 rfl)
theorem dX12_holds_139 : decode cX12_holds 139 = .ok (.iload 9, 2) := dq_21 (kX12_holds_4 11 rfl) (kX12_holds_4 12 rfl) rfl
theorem dX12_holds_141 : decode cX12_holds 141 = .ok (.bipush 12, 2) := dq_16 (kX12_holds_4 13 rfl) (kX12_holds_4 14 rfl) (by decide)
theorem dX12_holds_143 : decode cX12_holds 143 = .ok (.if_icmp .ne 7, 3) := dq_160 (kX12_holds_4 15 rfl) (kX12_holds_4 16 rfl) (kX12_holds_4 17 rfl) (by decide)
theorem dX12_holds_146 : decode cX12_holds 146 = .ok (.iconst 1, 1) := dq_4 (kX12_holds_4 18 rfl)
theorem dX12_holds_147 : decode cX12_holds 147 = .ok (.goto 4, 3) := dq_167 (kX12_holds_4 19 rfl) (kX12_holds_4 20 rfl) (kX12_holds_4 21 rfl) (by decide)
theorem dX12_holds_150 : decode cX12_holds 150 = .ok (.iconst 0, 1) := dq_3 (kX12_holds_4 22 rfl)
theorem dX12_holds_151 : decode cX12_holds 151 = .ok (.if_icmp .ne 12, 3) := dq_160 (kX12_holds_4 23 rfl) (kX12_holds_4 24 rfl) (kX12_holds_4 25 rfl) (by decide)
theorem dX12_holds_154 : decode cX12_holds 154 = .ok (.iload_n 2, 1) := dq_28 (kX12_holds_4 26 rfl)
theorem dX12_holds_155 : decode cX12_holds 155 = .ok (.iload 10, 2) := dq_21 (kX12_holds_4 27 rfl) (kX12_holds_4 28 rfl) rfl
theorem dX12_holds_157 : decode cX12_holds 157 = .ok (.iadd, 1) := dq_96 (kX12_holds_4 29 rfl)
theorem dX12_holds_158 : decode cX12_holds 158 = .ok (.istore 8, 2) := dq_54 (kX12_holds_4 30 rfl) (kX12_holds_4 31 rfl) rfl
theorem dX12_holds_160 : decode cX12_holds 160 = .ok (.goto 73, 3) := dq_167 (kX12_holds_5 0 rfl) (kX12_holds_5 1 rfl) (kX12_holds_5 2 rfl) (by decide)
theorem dX12_holds_163 : decode cX12_holds 163 = .ok (.iload 7, 2) := dq_21 (kX12_holds_5 3 rfl) (kX12_holds_5 4 rfl) rfl
theorem dX12_holds_165 : decode cX12_holds 165 = .ok (.iconst 1, 1) := dq_4 (kX12_holds_5 5 rfl)
theorem dX12_holds_166 : decode cX12_holds 166 = .ok (.isub, 1) := dq_100 (kX12_holds_5 6 rfl)
theorem dX12_holds_167 : decode cX12_holds 167 = .ok (.istore 7, 2) := dq_54 (kX12_holds_5 7 rfl) (kX12_holds_5 8 rfl) rfl
theorem dX12_holds_169 : decode cX12_holds 169 = .ok (.goto 64, 3) := dq_167 (kX12_holds_5 9 rfl) (kX12_holds_5 10 rfl) (kX12_holds_5 11 rfl) (by decide)
theorem dX12_holds_172 : decode cX12_holds 172 = .ok (.iload 7, 2) := dq_21 (kX12_holds_5 12 rfl) (kX12_holds_5 13 rfl) rfl
theorem dX12_holds_174 : decode cX12_holds 174 = .ok (.iconst 1, 1) := dq_4 (kX12_holds_5 14 rfl)
theorem dX12_holds_175 : decode cX12_holds 175 = .ok (.isub, 1) := dq_100 (kX12_holds_5 15 rfl)
theorem dX12_holds_176 : decode cX12_holds 176 = .ok (.istore 7, 2) := dq_54 (kX12_holds_5 16 rfl) (kX12_holds_5 17 rfl) rfl
theorem dX12_holds_178 : decode cX12_holds 178 = .ok (.iload 9, 2) := dq_21 (kX12_holds_5 18 rfl) (kX12_holds_5 19 rfl) rfl
theorem dX12_holds_180 : decode cX12_holds 180 = .ok (.iconst 5, 1) := dq_8 (kX12_holds_5 20 rfl)
theorem dX12_holds_181 : decode cX12_holds 181 = .ok (.if_icmp .eq 10, 3) := dq_159 (kX12_holds_5 21 rfl) (kX12_holds_5 22 rfl) (kX12_holds_5 23 rfl) (by decide)
theorem dX12_holds_184 : decode cX12_holds 184 = .ok (.iload 9, 2) := dq_21 (kX12_holds_5 24 rfl) (kX12_holds_5 25 rfl) rfl
theorem dX12_holds_186 : decode cX12_holds 186 = .ok (.bipush 6, 2) := dq_16 (kX12_holds_5 26 rfl) (kX12_holds_5 27 rfl) (by decide)
theorem dX12_holds_188 : decode cX12_holds 188 = .ok (.if_icmp .ne 15, 3) := dq_160 (kX12_holds_5 28 rfl) (kX12_holds_5 29 rfl) (kX12_holds_5 30 rfl) (by decide)
theorem dX12_holds_191 : decode cX12_holds 191 = .ok (.aload_n 0, 1) := dq_42 (kX12_holds_5 31 rfl)
theorem dX12_holds_192 : decode cX12_holds 192 = .ok (.getfield 205, 3) := dq_180 (kX12_holds_6 0 rfl) (kX12_holds_6 1 rfl) (kX12_holds_6 2 rfl) rfl
theorem dX12_holds_195 : decode cX12_holds 195 = .ok (.iload 7, 2) := dq_21 (kX12_holds_6 3 rfl) (kX12_holds_6 4 rfl) rfl
theorem dX12_holds_197 : decode cX12_holds 197 = .ok (.iaload, 1) := dq_46 (kX12_holds_6 5 rfl)
theorem dX12_holds_198 : decode cX12_holds 198 = .ok (.ifCond .ne 5, 3) := dq_154 (kX12_holds_6 6 rfl) (kX12_holds_6 7 rfl) (kX12_holds_6 8 rfl) (by decide)
theorem dX12_holds_201 : decode cX12_holds 201 = .ok (.iconst 2, 1) := dq_5 (kX12_holds_6 9 rfl)
theorem dX12_holds_202 : decode cX12_holds 202 = .ok (.ireturn, 1) := dq_172 (kX12_holds_6 10 rfl)
theorem dX12_holds_203 : decode cX12_holds 203 = .ok (.aload_n 0, 1) := dq_42 (kX12_holds_6 11 rfl)
theorem dX12_holds_204 : decode cX12_holds 204 = .ok (.getfield 205, 3) := dq_180 (kX12_holds_6 12 rfl) (kX12_holds_6 13 rfl) (kX12_holds_6 14 rfl) rfl
theorem dX12_holds_207 : decode cX12_holds 207 = .ok (.iload 7, 2) := dq_21 (kX12_holds_6 15 rfl) (kX12_holds_6 16 rfl) rfl
theorem dX12_holds_209 : decode cX12_holds 209 = .ok (.iconst 1, 1) := dq_4 (kX12_holds_6 17 rfl)
theorem dX12_holds_210 : decode cX12_holds 210 = .ok (.isub, 1) := dq_100 (kX12_holds_6 18 rfl)
theorem dX12_holds_211 : decode cX12_holds 211 = .ok (.iload 9, 2) := dq_21 (kX12_holds_6 19 rfl) (kX12_holds_6 20 rfl) rfl
theorem dX12_holds_213 : decode cX12_holds 213 = .ok (.aload_n 0, 1) := dq_42 (kX12_holds_6 21 rfl)
theorem dX12_holds_214 : decode cX12_holds 214 = .ok (.getfield 205, 3) := dq_180 (kX12_holds_6 22 rfl) (kX12_holds_6 23 rfl) (kX12_holds_6 24 rfl) rfl
theorem dX12_holds_217 : decode cX12_holds 217 = .ok (.iload 7, 2) := dq_21 (kX12_holds_6 25 rfl) (kX12_holds_6 26 rfl) rfl
theorem dX12_holds_219 : decode cX12_holds 219 = .ok (.iconst 1, 1) := dq_4 (kX12_holds_6 27 rfl)
theorem dX12_holds_220 : decode cX12_holds 220 = .ok (.isub, 1) := dq_100 (kX12_holds_6 28 rfl)
theorem dX12_holds_221 : decode cX12_holds 221 = .ok (.iaload, 1) := dq_46 (kX12_holds_6 29 rfl)
theorem dX12_holds_222 : decode cX12_holds 222 = .ok (.aload_n 0, 1) := dq_42 (kX12_holds_6 30 rfl)
theorem dX12_holds_223 : decode cX12_holds 223 = .ok (.getfield 205, 3) := dq_180 (kX12_holds_6 31 rfl) (kX12_holds_7 0 rfl) (kX12_holds_7 1 rfl) rfl
theorem dX12_holds_226 : decode cX12_holds 226 = .ok (.iload 7, 2) := dq_21 (kX12_holds_7 2 rfl) (kX12_holds_7 3 rfl) rfl
theorem dX12_holds_228 : decode cX12_holds 228 = .ok (.iaload, 1) := dq_46 (kX12_holds_7 4 rfl)
theorem dX12_holds_229 : decode cX12_holds 229 = .ok (.invokestatic 588, 3) := dq_184 (kX12_holds_7 5 rfl) (kX12_holds_7 6 rfl) (kX12_holds_7 7 rfl) rfl
theorem dX12_holds_232 : decode cX12_holds 232 = .ok (.iastore, 1) := dq_79 (kX12_holds_7 8 rfl)
theorem dX12_holds_233 : decode cX12_holds 233 = .ok (.goto (-227), 3) := dq_167 (kX12_holds_7 9 rfl) (kX12_holds_7 10 rfl) (kX12_holds_7 11 rfl) (by decide)
theorem dX12_holds_236 : decode cX12_holds 236 = .ok (.aload_n 0, 1) := dq_42 (kX12_holds_7 12 rfl)
theorem dX12_holds_237 : decode cX12_holds 237 = .ok (.getfield 205, 3) := dq_180 (kX12_holds_7 13 rfl) (kX12_holds_7 14 rfl) (kX12_holds_7 15 rfl) rfl
theorem dX12_holds_240 : decode cX12_holds 240 = .ok (.iconst 0, 1) := dq_3 (kX12_holds_7 16 rfl)
theorem dX12_holds_241 : decode cX12_holds 241 = .ok (.iaload, 1) := dq_46 (kX12_holds_7 17 rfl)
theorem dX12_holds_242 : decode cX12_holds 242 = .ok (.ireturn, 1) := dq_172 (kX12_holds_7 18 rfl)

def bX12_clauseHolds_0 : List UInt8 := [42, 180, 2, 35, 4, 100, 54, 5, 21, 5, 155, 0, 75, 21, 4, 153, 0, 70, 42, 180, 0, 151, 21, 5, 46, 42, 180, 0, 166, 28, 46, 160]
theorem kX12_clauseHolds_0 (j : Nat) {b : UInt8} (hj : bX12_clauseHolds_0[j]? = some b) : AtB cX12_clauseHolds (0 + j) b := at_of32 (by decide +kernel) j hj
def bX12_clauseHolds_1 : List UInt8 := [0, 48, 42, 180, 0, 154, 21, 5, 46, 27, 160, 0, 37, 42, 42, 180, 0, 145, 16, 110, 21, 5, 104, 16, 110, 21, 5, 104, 16, 110, 21, 5]
theorem kX12_clauseHolds_1 (j : Nat) {b : UInt8} (hj : bX12_clauseHolds_1[j]? = some b) : AtB cX12_clauseHolds (32 + j) b := at_of32 (by decide +kernel) j hj
def bX12_clauseHolds_2 : List UInt8 := [104, 42, 180, 0, 148, 21, 5, 46, 96, 28, 29, 182, 2, 79, 172, 132, 5, 255, 167, 255, 182, 42, 42, 180, 0, 112, 17, 0, 220, 27, 16, 12]
theorem kX12_clauseHolds_2 (j : Nat) {b : UInt8} (hj : bX12_clauseHolds_2[j]? = some b) : AtB cX12_clauseHolds (64 + j) b := at_of32 (by decide +kernel) j hj
def bX12_clauseHolds_3 : List UInt8 := [108, 104, 42, 180, 0, 127, 27, 46, 42, 180, 0, 130, 27, 46, 28, 29, 182, 2, 79, 172]
theorem kX12_clauseHolds_3 (j : Nat) {b : UInt8} (hj : bX12_clauseHolds_3[j]? = some b) : AtB cX12_clauseHolds (96 + j) b := at_of32 (by decide +kernel) j hj
theorem dX12_clauseHolds_0 : decode cX12_clauseHolds 0 = .ok (.aload_n 0, 1) := dq_42 (kX12_clauseHolds_0 0 rfl)
theorem dX12_clauseHolds_1 : decode cX12_clauseHolds 1 = .ok (.getfield 547, 3) := dq_180 (kX12_clauseHolds_0 1 rfl) (kX12_clauseHolds_0 2 rfl) (kX12_clauseHolds_0 3 rfl) rfl
theorem dX12_clauseHolds_4 : decode cX12_clauseHolds 4 = .ok (.iconst 1, 1) := dq_4 (kX12_clauseHolds_0 4 rfl)
theorem dX12_clauseHolds_5 : decode cX12_clauseHolds 5 = .ok (.isub, 1) := dq_100 (kX12_clauseHolds_0 5 rfl)
theorem dX12_clauseHolds_6 : decode cX12_clauseHolds 6 = .ok (.istore 5, 2) := dq_54 (kX12_clauseHolds_0 6 rfl) (kX12_clauseHolds_0 7 rfl) rfl
theorem dX12_clauseHolds_8 : decode cX12_clauseHolds 8 = .ok (.iload 5, 2) := dq_21 (kX12_clauseHolds_0 8 rfl) (kX12_clauseHolds_0 9 rfl) rfl
theorem dX12_clauseHolds_10 : decode cX12_clauseHolds 10 = .ok (.ifCond .lt 75, 3) := dq_155 (kX12_clauseHolds_0 10 rfl) (kX12_clauseHolds_0 11 rfl) (kX12_clauseHolds_0 12 rfl) (by decide)
theorem dX12_clauseHolds_13 : decode cX12_clauseHolds 13 = .ok (.iload 4, 2) := dq_21 (kX12_clauseHolds_0 13 rfl) (kX12_clauseHolds_0 14 rfl) rfl
theorem dX12_clauseHolds_15 : decode cX12_clauseHolds 15 = .ok (.ifCond .eq 70, 3) := dq_153 (kX12_clauseHolds_0 15 rfl) (kX12_clauseHolds_0 16 rfl) (kX12_clauseHolds_0 17 rfl) (by decide)
theorem dX12_clauseHolds_18 : decode cX12_clauseHolds 18 = .ok (.aload_n 0, 1) := dq_42 (kX12_clauseHolds_0 18 rfl)
theorem dX12_clauseHolds_19 : decode cX12_clauseHolds 19 = .ok (.getfield 151, 3) := dq_180 (kX12_clauseHolds_0 19 rfl) (kX12_clauseHolds_0 20 rfl) (kX12_clauseHolds_0 21 rfl) rfl
theorem dX12_clauseHolds_22 : decode cX12_clauseHolds 22 = .ok (.iload 5, 2) := dq_21 (kX12_clauseHolds_0 22 rfl) (kX12_clauseHolds_0 23 rfl) rfl
theorem dX12_clauseHolds_24 : decode cX12_clauseHolds 24 = .ok (.iaload, 1) := dq_46 (kX12_clauseHolds_0 24 rfl)
theorem dX12_clauseHolds_25 : decode cX12_clauseHolds 25 = .ok (.aload_n 0, 1) := dq_42 (kX12_clauseHolds_0 25 rfl)
theorem dX12_clauseHolds_26 : decode cX12_clauseHolds 26 = .ok (.getfield 166, 3) := dq_180 (kX12_clauseHolds_0 26 rfl) (kX12_clauseHolds_0 27 rfl) (kX12_clauseHolds_0 28 rfl) rfl
theorem dX12_clauseHolds_29 : decode cX12_clauseHolds 29 = .ok (.iload_n 2, 1) := dq_28 (kX12_clauseHolds_0 29 rfl)
theorem dX12_clauseHolds_30 : decode cX12_clauseHolds 30 = .ok (.iaload, 1) := dq_46 (kX12_clauseHolds_0 30 rfl)
theorem dX12_clauseHolds_31 : decode cX12_clauseHolds 31 = .ok (.if_icmp .ne 48, 3) := dq_160 (kX12_clauseHolds_0 31 rfl) (kX12_clauseHolds_1 0 rfl) (kX12_clauseHolds_1 1 rfl) (by decide)
theorem dX12_clauseHolds_34 : decode cX12_clauseHolds 34 = .ok (.aload_n 0, 1) := dq_42 (kX12_clauseHolds_1 2 rfl)
theorem dX12_clauseHolds_35 : decode cX12_clauseHolds 35 = .ok (.getfield 154, 3) := dq_180 (kX12_clauseHolds_1 3 rfl) (kX12_clauseHolds_1 4 rfl) (kX12_clauseHolds_1 5 rfl) rfl
theorem dX12_clauseHolds_38 : decode cX12_clauseHolds 38 = .ok (.iload 5, 2) := dq_21 (kX12_clauseHolds_1 6 rfl) (kX12_clauseHolds_1 7 rfl) rfl
theorem dX12_clauseHolds_40 : decode cX12_clauseHolds 40 = .ok (.iaload, 1) := dq_46 (kX12_clauseHolds_1 8 rfl)
theorem dX12_clauseHolds_41 : decode cX12_clauseHolds 41 = .ok (.iload_n 1, 1) := dq_27 (kX12_clauseHolds_1 9 rfl)
theorem dX12_clauseHolds_42 : decode cX12_clauseHolds 42 = .ok (.if_icmp .ne 37, 3) := dq_160 (kX12_clauseHolds_1 10 rfl) (kX12_clauseHolds_1 11 rfl) (kX12_clauseHolds_1 12 rfl) (by decide)
theorem dX12_clauseHolds_45 : decode cX12_clauseHolds 45 = .ok (.aload_n 0, 1) := dq_42 (kX12_clauseHolds_1 13 rfl)
theorem dX12_clauseHolds_46 : decode cX12_clauseHolds 46 = .ok (.aload_n 0, 1) := dq_42 (kX12_clauseHolds_1 14 rfl)
theorem dX12_clauseHolds_47 : decode cX12_clauseHolds 47 = .ok (.getfield 145, 3) := dq_180 (kX12_clauseHolds_1 15 rfl) (kX12_clauseHolds_1 16 rfl) (kX12_clauseHolds_1 17 rfl) rfl
theorem dX12_clauseHolds_50 : decode cX12_clauseHolds 50 = .ok (.bipush 110, 2) := dq_16 (kX12_clauseHolds_1 18 rfl) (kX12_clauseHolds_1 19 rfl) (by decide)
theorem dX12_clauseHolds_52 : decode cX12_clauseHolds 52 = .ok (.iload 5, 2) := dq_21 (kX12_clauseHolds_1 20 rfl) (kX12_clauseHolds_1 21 rfl) rfl
theorem dX12_clauseHolds_54 : decode cX12_clauseHolds 54 = .ok (.imul, 1) := dq_104 (kX12_clauseHolds_1 22 rfl)
theorem dX12_clauseHolds_55 : decode cX12_clauseHolds 55 = .ok (.bipush 110, 2) := dq_16 (kX12_clauseHolds_1 23 rfl) (kX12_clauseHolds_1 24 rfl) (by decide)
theorem dX12_clauseHolds_57 : decode cX12_clauseHolds 57 = .ok (.iload 5, 2) := dq_21 (kX12_clauseHolds_1 25 rfl) (kX12_clauseHolds_1 26 rfl) rfl
theorem dX12_clauseHolds_59 : decode cX12_clauseHolds 59 = .ok (.imul, 1) := dq_104 (kX12_clauseHolds_1 27 rfl)
theorem dX12_clauseHolds_60 : decode cX12_clauseHolds 60 = .ok (.bipush 110, 2) := dq_16 (kX12_clauseHolds_1 28 rfl) (kX12_clauseHolds_1 29 rfl) (by decide)
theorem dX12_clauseHolds_62 : decode cX12_clauseHolds 62 = .ok (.iload 5, 2) := dq_21 (kX12_clauseHolds_1 30 rfl) (kX12_clauseHolds_1 31 rfl) rfl
theorem dX12_clauseHolds_64 : decode cX12_clauseHolds 64 = .ok (.imul, 1) := dq_104 (kX12_clauseHolds_2 0 rfl)
theorem dX12_clauseHolds_65 : decode cX12_clauseHolds 65 = .ok (.aload_n 0, 1) := dq_42 (kX12_clauseHolds_2 1 rfl)
theorem dX12_clauseHolds_66 : decode cX12_clauseHolds 66 = .ok (.getfield 148, 3) := dq_180 (kX12_clauseHolds_2 2 rfl) (kX12_clauseHolds_2 3 rfl) (kX12_clauseHolds_2 4 rfl) rfl
theorem dX12_clauseHolds_69 : decode cX12_clauseHolds 69 = .ok (.iload 5, 2) := dq_21 (kX12_clauseHolds_2 5 rfl) (kX12_clauseHolds_2 6 rfl) rfl
theorem dX12_clauseHolds_71 : decode cX12_clauseHolds 71 = .ok (.iaload, 1) := dq_46 (kX12_clauseHolds_2 7 rfl)
theorem dX12_clauseHolds_72 : decode cX12_clauseHolds 72 = .ok (.iadd, 1) := dq_96 (kX12_clauseHolds_2 8 rfl)
theorem dX12_clauseHolds_73 : decode cX12_clauseHolds 73 = .ok (.iload_n 2, 1) := dq_28 (kX12_clauseHolds_2 9 rfl)
theorem dX12_clauseHolds_74 : decode cX12_clauseHolds 74 = .ok (.iload_n 3, 1) := dq_29 (kX12_clauseHolds_2 10 rfl)
theorem dX12_clauseHolds_75 : decode cX12_clauseHolds 75 = .ok (.invokevirtual 591, 3) := dq_182 (kX12_clauseHolds_2 11 rfl) (kX12_clauseHolds_2 12 rfl) (kX12_clauseHolds_2 13 rfl) rfl
theorem dX12_clauseHolds_78 : decode cX12_clauseHolds 78 = .ok (.ireturn, 1) := dq_172 (kX12_clauseHolds_2 14 rfl)
theorem dX12_clauseHolds_79 : decode cX12_clauseHolds 79 = .ok (.iinc 5 (-1), 3) := dq_132 (kX12_clauseHolds_2 15 rfl) (kX12_clauseHolds_2 16 rfl) (kX12_clauseHolds_2 17 rfl) rfl (by decide)
theorem dX12_clauseHolds_82 : decode cX12_clauseHolds 82 = .ok (.goto (-74), 3) := dq_167 (kX12_clauseHolds_2 18 rfl) (kX12_clauseHolds_2 19 rfl) (kX12_clauseHolds_2 20 rfl) (by decide)
theorem dX12_clauseHolds_85 : decode cX12_clauseHolds 85 = .ok (.aload_n 0, 1) := dq_42 (kX12_clauseHolds_2 21 rfl)
theorem dX12_clauseHolds_86 : decode cX12_clauseHolds 86 = .ok (.aload_n 0, 1) := dq_42 (kX12_clauseHolds_2 22 rfl)
theorem dX12_clauseHolds_87 : decode cX12_clauseHolds 87 = .ok (.getfield 112, 3) := dq_180 (kX12_clauseHolds_2 23 rfl) (kX12_clauseHolds_2 24 rfl) (kX12_clauseHolds_2 25 rfl) rfl
theorem dX12_clauseHolds_90 : decode cX12_clauseHolds 90 = .ok (.sipush 220, 3) := dq_17 (kX12_clauseHolds_2 26 rfl) (kX12_clauseHolds_2 27 rfl) (kX12_clauseHolds_2 28 rfl) (by decide)
theorem dX12_clauseHolds_93 : decode cX12_clauseHolds 93 = .ok (.iload_n 1, 1) := dq_27 (kX12_clauseHolds_2 29 rfl)
theorem dX12_clauseHolds_94 : decode cX12_clauseHolds 94 = .ok (.bipush 12, 2) := dq_16 (kX12_clauseHolds_2 30 rfl) (kX12_clauseHolds_2 31 rfl) (by decide)
theorem dX12_clauseHolds_96 : decode cX12_clauseHolds 96 = .ok (.idiv, 1) := dq_108 (kX12_clauseHolds_3 0 rfl)
theorem dX12_clauseHolds_97 : decode cX12_clauseHolds 97 = .ok (.imul, 1) := dq_104 (kX12_clauseHolds_3 1 rfl)
theorem dX12_clauseHolds_98 : decode cX12_clauseHolds 98 = .ok (.aload_n 0, 1) := dq_42 (kX12_clauseHolds_3 2 rfl)
theorem dX12_clauseHolds_99 : decode cX12_clauseHolds 99 = .ok (.getfield 127, 3) := dq_180 (kX12_clauseHolds_3 3 rfl) (kX12_clauseHolds_3 4 rfl) (kX12_clauseHolds_3 5 rfl) rfl
theorem dX12_clauseHolds_102 : decode cX12_clauseHolds 102 = .ok (.iload_n 1, 1) := dq_27 (kX12_clauseHolds_3 6 rfl)
theorem dX12_clauseHolds_103 : decode cX12_clauseHolds 103 = .ok (.iaload, 1) := dq_46 (kX12_clauseHolds_3 7 rfl)
theorem dX12_clauseHolds_104 : decode cX12_clauseHolds 104 = .ok (.aload_n 0, 1) := dq_42 (kX12_clauseHolds_3 8 rfl)
theorem dX12_clauseHolds_105 : decode cX12_clauseHolds 105 = .ok (.getfield 130, 3) := dq_180 (kX12_clauseHolds_3 9 rfl) (kX12_clauseHolds_3 10 rfl) (kX12_clauseHolds_3 11 rfl) rfl
theorem dX12_clauseHolds_108 : decode cX12_clauseHolds 108 = .ok (.iload_n 1, 1) := dq_27 (kX12_clauseHolds_3 12 rfl)
theorem dX12_clauseHolds_109 : decode cX12_clauseHolds 109 = .ok (.iaload, 1) := dq_46 (kX12_clauseHolds_3 13 rfl)
theorem dX12_clauseHolds_110 : decode cX12_clauseHolds 110 = .ok (.iload_n 2, 1) := dq_28 (kX12_clauseHolds_3 14 rfl)
theorem dX12_clauseHolds_111 : decode cX12_clauseHolds 111 = .ok (.iload_n 3, 1) := dq_29 (kX12_clauseHolds_3 15 rfl)
theorem dX12_clauseHolds_112 : decode cX12_clauseHolds 112 = .ok (.invokevirtual 591, 3) := dq_182 (kX12_clauseHolds_3 16 rfl) (kX12_clauseHolds_3 17 rfl) (kX12_clauseHolds_3 18 rfl) rfl
theorem dX12_clauseHolds_115 : decode cX12_clauseHolds 115 = .ok (.ireturn, 1) := dq_172 (kX12_clauseHolds_3 19 rfl)

def bX12_barOf_0 : List UInt8 := [42, 27, 28, 29, 21, 4, 182, 2, 83, 54, 5, 21, 5, 5, 160, 0, 6, 16, 6, 172, 21, 5, 154, 0, 5, 3, 172, 42, 180, 0, 124, 27]
theorem kX12_barOf_0 (j : Nat) {b : UInt8} (hj : bX12_barOf_0[j]? = some b) : AtB cX12_barOf (0 + j) b := at_of32 (by decide +kernel) j hj
def bX12_barOf_1 : List UInt8 := [46, 171, 0, 0, 0, 0, 0, 147, 0, 0, 0, 4, 0, 0, 0, 102, 0, 0, 0, 43, 0, 0, 0, 108, 0, 0, 0, 45, 0, 0, 0, 110]
theorem kX12_barOf_1 (j : Nat) {b : UInt8} (hj : bX12_barOf_1[j]? = some b) : AtB cX12_barOf (32 + j) b := at_of32 (by decide +kernel) j hj
def bX12_barOf_2 : List UInt8 := [0, 0, 0, 71, 0, 0, 0, 115, 0, 0, 0, 109, 4, 172, 42, 180, 0, 193, 28, 46, 2, 159, 0, 17, 42, 180, 0, 193, 28, 46, 29, 163]
theorem kX12_barOf_2 (j : Nat) {b : UInt8} (hj : bX12_barOf_2[j]? = some b) : AtB cX12_barOf (64 + j) b := at_of32 (by decide +kernel) j hj
def bX12_barOf_3 : List UInt8 := [0, 7, 3, 167, 0, 4, 5, 172, 42, 180, 0, 190, 28, 46, 2, 159, 0, 29, 42, 180, 0, 190, 28, 46, 42, 180, 0, 133, 27, 46, 96, 42]
theorem kX12_barOf_3 (j : Nat) {b : UInt8} (hj : bX12_barOf_3[j]? = some b) : AtB cX12_barOf (96 + j) b := at_of32 (by decide +kernel) j hj
def bX12_barOf_4 : List UInt8 := [180, 0, 172, 28, 46, 163, 0, 7, 3, 167, 0, 4, 6, 172, 42, 180, 0, 196, 28, 46, 2, 159, 0, 29, 42, 180, 0, 196, 28, 46, 42, 180]
theorem kX12_barOf_4 (j : Nat) {b : UInt8} (hj : bX12_barOf_4[j]? = some b) : AtB cX12_barOf (128 + j) b := at_of32 (by decide +kernel) j hj
def bX12_barOf_5 : List UInt8 := [0, 133, 27, 46, 96, 42, 180, 0, 172, 28, 46, 163, 0, 7, 3, 167, 0, 4, 7, 172, 42, 28, 29, 182, 2, 87, 153, 0, 7, 3, 167, 0]
theorem kX12_barOf_5 (j : Nat) {b : UInt8} (hj : bX12_barOf_5[j]? = some b) : AtB cX12_barOf (160 + j) b := at_of32 (by decide +kernel) j hj
def bX12_barOf_6 : List UInt8 := [4, 8, 172]
theorem kX12_barOf_6 (j : Nat) {b : UInt8} (hj : bX12_barOf_6[j]? = some b) : AtB cX12_barOf (192 + j) b := at_of32 (by decide +kernel) j hj
theorem dX12_barOf_0 : decode cX12_barOf 0 = .ok (.aload_n 0, 1) := dq_42 (kX12_barOf_0 0 rfl)
theorem dX12_barOf_1 : decode cX12_barOf 1 = .ok (.iload_n 1, 1) := dq_27 (kX12_barOf_0 1 rfl)
theorem dX12_barOf_2 : decode cX12_barOf 2 = .ok (.iload_n 2, 1) := dq_28 (kX12_barOf_0 2 rfl)
theorem dX12_barOf_3 : decode cX12_barOf 3 = .ok (.iload_n 3, 1) := dq_29 (kX12_barOf_0 3 rfl)
theorem dX12_barOf_4 : decode cX12_barOf 4 = .ok (.iload 4, 2) := dq_21 (kX12_barOf_0 4 rfl) (kX12_barOf_0 5 rfl) rfl
theorem dX12_barOf_6 : decode cX12_barOf 6 = .ok (.invokevirtual 595, 3) := dq_182 (kX12_barOf_0 6 rfl) (kX12_barOf_0 7 rfl) (kX12_barOf_0 8 rfl) rfl
theorem dX12_barOf_9 : decode cX12_barOf 9 = .ok (.istore 5, 2) := dq_54 (kX12_barOf_0 9 rfl) (kX12_barOf_0 10 rfl) rfl
theorem dX12_barOf_11 : decode cX12_barOf 11 = .ok (.iload 5, 2) := dq_21 (kX12_barOf_0 11 rfl) (kX12_barOf_0 12 rfl) rfl
theorem dX12_barOf_13 : decode cX12_barOf 13 = .ok (.iconst 2, 1) := dq_5 (kX12_barOf_0 13 rfl)
theorem dX12_barOf_14 : decode cX12_barOf 14 = .ok (.if_icmp .ne 6, 3) := dq_160 (kX12_barOf_0 14 rfl) (kX12_barOf_0 15 rfl) (kX12_barOf_0 16 rfl) (by decide)
theorem dX12_barOf_17 : decode cX12_barOf 17 = .ok (.bipush 6, 2) := dq_16 (kX12_barOf_0 17 rfl) (kX12_barOf_0 18 rfl) (by decide)
theorem dX12_barOf_19 : decode cX12_barOf 19 = .ok (.ireturn, 1) := dq_172 (kX12_barOf_0 19 rfl)
theorem dX12_barOf_20 : decode cX12_barOf 20 = .ok (.iload 5, 2) := dq_21 (kX12_barOf_0 20 rfl) (kX12_barOf_0 21 rfl) rfl
theorem dX12_barOf_22 : decode cX12_barOf 22 = .ok (.ifCond .ne 5, 3) := dq_154 (kX12_barOf_0 22 rfl) (kX12_barOf_0 23 rfl) (kX12_barOf_0 24 rfl) (by decide)
theorem dX12_barOf_25 : decode cX12_barOf 25 = .ok (.iconst 0, 1) := dq_3 (kX12_barOf_0 25 rfl)
theorem dX12_barOf_26 : decode cX12_barOf 26 = .ok (.ireturn, 1) := dq_172 (kX12_barOf_0 26 rfl)
theorem dX12_barOf_27 : decode cX12_barOf 27 = .ok (.aload_n 0, 1) := dq_42 (kX12_barOf_0 27 rfl)
theorem dX12_barOf_28 : decode cX12_barOf 28 = .ok (.getfield 124, 3) := dq_180 (kX12_barOf_0 28 rfl) (kX12_barOf_0 29 rfl) (kX12_barOf_0 30 rfl) rfl
theorem dX12_barOf_31 : decode cX12_barOf 31 = .ok (.iload_n 1, 1) := dq_27 (kX12_barOf_0 31 rfl)
theorem dX12_barOf_32 : decode cX12_barOf 32 = .ok (.iaload, 1) := dq_46 (kX12_barOf_1 0 rfl)
theorem dX12_barOf_76 : decode cX12_barOf 76 = .ok (.iconst 1, 1) := dq_4 (kX12_barOf_2 12 rfl)
theorem dX12_barOf_77 : decode cX12_barOf 77 = .ok (.ireturn, 1) := dq_172 (kX12_barOf_2 13 rfl)
theorem dX12_barOf_78 : decode cX12_barOf 78 = .ok (.aload_n 0, 1) := dq_42 (kX12_barOf_2 14 rfl)
theorem dX12_barOf_79 : decode cX12_barOf 79 = .ok (.getfield 193, 3) := dq_180 (kX12_barOf_2 15 rfl) (kX12_barOf_2 16 rfl) (kX12_barOf_2 17 rfl) rfl
theorem dX12_barOf_82 : decode cX12_barOf 82 = .ok (.iload_n 2, 1) := dq_28 (kX12_barOf_2 18 rfl)
theorem dX12_barOf_83 : decode cX12_barOf 83 = .ok (.iaload, 1) := dq_46 (kX12_barOf_2 19 rfl)
theorem dX12_barOf_84 : decode cX12_barOf 84 = .ok (.iconst (-1), 1) := dq_2 (kX12_barOf_2 20 rfl)
theorem dX12_barOf_85 : decode cX12_barOf 85 = .ok (.if_icmp .eq 17, 3) := dq_159 (kX12_barOf_2 21 rfl) (kX12_barOf_2 22 rfl) (kX12_barOf_2 23 rfl) (by decide)
theorem dX12_barOf_88 : decode cX12_barOf 88 = .ok (.aload_n 0, 1) := dq_42 (kX12_barOf_2 24 rfl)
theorem dX12_barOf_89 : decode cX12_barOf 89 = .ok (.getfield 193, 3) := dq_180 (kX12_barOf_2 25 rfl) (kX12_barOf_2 26 rfl) (kX12_barOf_2 27 rfl) rfl
theorem dX12_barOf_92 : decode cX12_barOf 92 = .ok (.iload_n 2, 1) := dq_28 (kX12_barOf_2 28 rfl)
theorem dX12_barOf_93 : decode cX12_barOf 93 = .ok (.iaload, 1) := dq_46 (kX12_barOf_2 29 rfl)
theorem dX12_barOf_94 : decode cX12_barOf 94 = .ok (.iload_n 3, 1) := dq_29 (kX12_barOf_2 30 rfl)
theorem dX12_barOf_95 : decode cX12_barOf 95 = .ok (.if_icmp .gt 7, 3) := dq_163 (kX12_barOf_2 31 rfl) (kX12_barOf_3 0 rfl) (kX12_barOf_3 1 rfl) (by decide)
theorem dX12_barOf_98 : decode cX12_barOf 98 = .ok (.iconst 0, 1) := dq_3 (kX12_barOf_3 2 rfl)
theorem dX12_barOf_99 : decode cX12_barOf 99 = .ok (.goto 4, 3) := dq_167 (kX12_barOf_3 3 rfl) (kX12_barOf_3 4 rfl) (kX12_barOf_3 5 rfl) (by decide)
theorem dX12_barOf_102 : decode cX12_barOf 102 = .ok (.iconst 2, 1) := dq_5 (kX12_barOf_3 6 rfl)
theorem dX12_barOf_103 : decode cX12_barOf 103 = .ok (.ireturn, 1) := dq_172 (kX12_barOf_3 7 rfl)
theorem dX12_barOf_104 : decode cX12_barOf 104 = .ok (.aload_n 0, 1) := dq_42 (kX12_barOf_3 8 rfl)
theorem dX12_barOf_105 : decode cX12_barOf 105 = .ok (.getfield 190, 3) := dq_180 (kX12_barOf_3 9 rfl) (kX12_barOf_3 10 rfl) (kX12_barOf_3 11 rfl) rfl
theorem dX12_barOf_108 : decode cX12_barOf 108 = .ok (.iload_n 2, 1) := dq_28 (kX12_barOf_3 12 rfl)
theorem dX12_barOf_109 : decode cX12_barOf 109 = .ok (.iaload, 1) := dq_46 (kX12_barOf_3 13 rfl)
theorem dX12_barOf_110 : decode cX12_barOf 110 = .ok (.iconst (-1), 1) := dq_2 (kX12_barOf_3 14 rfl)
theorem dX12_barOf_111 : decode cX12_barOf 111 = .ok (.if_icmp .eq 29, 3) := dq_159 (kX12_barOf_3 15 rfl) (kX12_barOf_3 16 rfl) (kX12_barOf_3 17 rfl) (by decide)
theorem dX12_barOf_114 : decode cX12_barOf 114 = .ok (.aload_n 0, 1) := dq_42 (kX12_barOf_3 18 rfl)
theorem dX12_barOf_115 : decode cX12_barOf 115 = .ok (.getfield 190, 3) := dq_180 (kX12_barOf_3 19 rfl) (kX12_barOf_3 20 rfl) (kX12_barOf_3 21 rfl) rfl
theorem dX12_barOf_118 : decode cX12_barOf 118 = .ok (.iload_n 2, 1) := dq_28 (kX12_barOf_3 22 rfl)
theorem dX12_barOf_119 : decode cX12_barOf 119 = .ok (.iaload, 1) := dq_46 (kX12_barOf_3 23 rfl)
theorem dX12_barOf_120 : decode cX12_barOf 120 = .ok (.aload_n 0, 1) := dq_42 (kX12_barOf_3 24 rfl)
theorem dX12_barOf_121 : decode cX12_barOf 121 = .ok (.getfield 133, 3) := dq_180 (kX12_barOf_3 25 rfl) (kX12_barOf_3 26 rfl) (kX12_barOf_3 27 rfl) rfl
theorem dX12_barOf_124 : decode cX12_barOf 124 = .ok (.iload_n 1, 1) := dq_27 (kX12_barOf_3 28 rfl)
theorem dX12_barOf_125 : decode cX12_barOf 125 = .ok (.iaload, 1) := dq_46 (kX12_barOf_3 29 rfl)
theorem dX12_barOf_126 : decode cX12_barOf 126 = .ok (.iadd, 1) := dq_96 (kX12_barOf_3 30 rfl)
theorem dX12_barOf_127 : decode cX12_barOf 127 = .ok (.aload_n 0, 1) := dq_42 (kX12_barOf_3 31 rfl)
theorem dX12_barOf_128 : decode cX12_barOf 128 = .ok (.getfield 172, 3) := dq_180 (kX12_barOf_4 0 rfl) (kX12_barOf_4 1 rfl) (kX12_barOf_4 2 rfl) rfl
theorem dX12_barOf_131 : decode cX12_barOf 131 = .ok (.iload_n 2, 1) := dq_28 (kX12_barOf_4 3 rfl)
theorem dX12_barOf_132 : decode cX12_barOf 132 = .ok (.iaload, 1) := dq_46 (kX12_barOf_4 4 rfl)
theorem dX12_barOf_133 : decode cX12_barOf 133 = .ok (.if_icmp .gt 7, 3) := dq_163 (kX12_barOf_4 5 rfl) (kX12_barOf_4 6 rfl) (kX12_barOf_4 7 rfl) (by decide)
theorem dX12_barOf_136 : decode cX12_barOf 136 = .ok (.iconst 0, 1) := dq_3 (kX12_barOf_4 8 rfl)
theorem dX12_barOf_137 : decode cX12_barOf 137 = .ok (.goto 4, 3) := dq_167 (kX12_barOf_4 9 rfl) (kX12_barOf_4 10 rfl) (kX12_barOf_4 11 rfl) (by decide)
theorem dX12_barOf_140 : decode cX12_barOf 140 = .ok (.iconst 3, 1) := dq_6 (kX12_barOf_4 12 rfl)
theorem dX12_barOf_141 : decode cX12_barOf 141 = .ok (.ireturn, 1) := dq_172 (kX12_barOf_4 13 rfl)
theorem dX12_barOf_142 : decode cX12_barOf 142 = .ok (.aload_n 0, 1) := dq_42 (kX12_barOf_4 14 rfl)
theorem dX12_barOf_143 : decode cX12_barOf 143 = .ok (.getfield 196, 3) := dq_180 (kX12_barOf_4 15 rfl) (kX12_barOf_4 16 rfl) (kX12_barOf_4 17 rfl) rfl
theorem dX12_barOf_146 : decode cX12_barOf 146 = .ok (.iload_n 2, 1) := dq_28 (kX12_barOf_4 18 rfl)
theorem dX12_barOf_147 : decode cX12_barOf 147 = .ok (.iaload, 1) := dq_46 (kX12_barOf_4 19 rfl)
theorem dX12_barOf_148 : decode cX12_barOf 148 = .ok (.iconst (-1), 1) := dq_2 (kX12_barOf_4 20 rfl)
theorem dX12_barOf_149 : decode cX12_barOf 149 = .ok (.if_icmp .eq 29, 3) := dq_159 (kX12_barOf_4 21 rfl) (kX12_barOf_4 22 rfl) (kX12_barOf_4 23 rfl) (by decide)
theorem dX12_barOf_152 : decode cX12_barOf 152 = .ok (.aload_n 0, 1) := dq_42 (kX12_barOf_4 24 rfl)
theorem dX12_barOf_153 : decode cX12_barOf 153 = .ok (.getfield 196, 3) := dq_180 (kX12_barOf_4 25 rfl) (kX12_barOf_4 26 rfl) (kX12_barOf_4 27 rfl) rfl
theorem dX12_barOf_156 : decode cX12_barOf 156 = .ok (.iload_n 2, 1) := dq_28 (kX12_barOf_4 28 rfl)
theorem dX12_barOf_157 : decode cX12_barOf 157 = .ok (.iaload, 1) := dq_46 (kX12_barOf_4 29 rfl)
theorem dX12_barOf_158 : decode cX12_barOf 158 = .ok (.aload_n 0, 1) := dq_42 (kX12_barOf_4 30 rfl)
theorem dX12_barOf_159 : decode cX12_barOf 159 = .ok (.getfield 133, 3) := dq_180 (kX12_barOf_4 31 rfl) (kX12_barOf_5 0 rfl) (kX12_barOf_5 1 rfl) rfl
theorem dX12_barOf_162 : decode cX12_barOf 162 = .ok (.iload_n 1, 1) := dq_27 (kX12_barOf_5 2 rfl)
theorem dX12_barOf_163 : decode cX12_barOf 163 = .ok (.iaload, 1) := dq_46 (kX12_barOf_5 3 rfl)
theorem dX12_barOf_164 : decode cX12_barOf 164 = .ok (.iadd, 1) := dq_96 (kX12_barOf_5 4 rfl)
theorem dX12_barOf_165 : decode cX12_barOf 165 = .ok (.aload_n 0, 1) := dq_42 (kX12_barOf_5 5 rfl)
theorem dX12_barOf_166 : decode cX12_barOf 166 = .ok (.getfield 172, 3) := dq_180 (kX12_barOf_5 6 rfl) (kX12_barOf_5 7 rfl) (kX12_barOf_5 8 rfl) rfl
theorem dX12_barOf_169 : decode cX12_barOf 169 = .ok (.iload_n 2, 1) := dq_28 (kX12_barOf_5 9 rfl)
theorem dX12_barOf_170 : decode cX12_barOf 170 = .ok (.iaload, 1) := dq_46 (kX12_barOf_5 10 rfl)
theorem dX12_barOf_171 : decode cX12_barOf 171 = .ok (.if_icmp .gt 7, 3) := dq_163 (kX12_barOf_5 11 rfl) (kX12_barOf_5 12 rfl) (kX12_barOf_5 13 rfl) (by decide)
theorem dX12_barOf_174 : decode cX12_barOf 174 = .ok (.iconst 0, 1) := dq_3 (kX12_barOf_5 14 rfl)
theorem dX12_barOf_175 : decode cX12_barOf 175 = .ok (.goto 4, 3) := dq_167 (kX12_barOf_5 15 rfl) (kX12_barOf_5 16 rfl) (kX12_barOf_5 17 rfl) (by decide)
theorem dX12_barOf_178 : decode cX12_barOf 178 = .ok (.iconst 4, 1) := dq_7 (kX12_barOf_5 18 rfl)
theorem dX12_barOf_179 : decode cX12_barOf 179 = .ok (.ireturn, 1) := dq_172 (kX12_barOf_5 19 rfl)
theorem dX12_barOf_180 : decode cX12_barOf 180 = .ok (.aload_n 0, 1) := dq_42 (kX12_barOf_5 20 rfl)
theorem dX12_barOf_181 : decode cX12_barOf 181 = .ok (.iload_n 2, 1) := dq_28 (kX12_barOf_5 21 rfl)
theorem dX12_barOf_182 : decode cX12_barOf 182 = .ok (.iload_n 3, 1) := dq_29 (kX12_barOf_5 22 rfl)
theorem dX12_barOf_183 : decode cX12_barOf 183 = .ok (.invokevirtual 599, 3) := dq_182 (kX12_barOf_5 23 rfl) (kX12_barOf_5 24 rfl) (kX12_barOf_5 25 rfl) rfl
theorem dX12_barOf_186 : decode cX12_barOf 186 = .ok (.ifCond .eq 7, 3) := dq_153 (kX12_barOf_5 26 rfl) (kX12_barOf_5 27 rfl) (kX12_barOf_5 28 rfl) (by decide)
theorem dX12_barOf_189 : decode cX12_barOf 189 = .ok (.iconst 0, 1) := dq_3 (kX12_barOf_5 29 rfl)
theorem dX12_barOf_190 : decode cX12_barOf 190 = .ok (.goto 4, 3) := dq_167 (kX12_barOf_5 30 rfl) (kX12_barOf_5 31 rfl) (kX12_barOf_6 0 rfl) (by decide)
theorem dX12_barOf_193 : decode cX12_barOf 193 = .ok (.iconst 5, 1) := dq_8 (kX12_barOf_6 1 rfl)
theorem dX12_barOf_194 : decode cX12_barOf 194 = .ok (.ireturn, 1) := dq_172 (kX12_barOf_6 2 rfl)
def LX12_barOf : List (Nat × Instr × Nat) := [(33, .lookupswitch 147 #[(102, 43), (108, 45), (110, 71), (115, 109)], 43)]
theorem kkX12_barOf : chkB cX12_barOf LX12_barOf = true := by decide +kernel
theorem dX12_barOf_33 : decode cX12_barOf 33 = .ok (.lookupswitch 147 #[(102, 43), (108, 45), (110, 71), (115, 109)], 43) := getB' kkX12_barOf 0 rfl

def bX12_mayOn_0 : List UInt8 := [42, 42, 180, 0, 166, 27, 46, 28, 182, 2, 45, 3, 54, 4, 21, 4, 42, 180, 2, 23, 162, 0, 104, 3, 54, 5, 21, 5, 42, 180, 0, 115]
theorem kX12_mayOn_0 (j : Nat) {b : UInt8} (hj : bX12_mayOn_0[j]? = some b) : AtB cX12_mayOn (0 + j) b := at_of32 (by decide +kernel) j hj
def bX12_mayOn_1 : List UInt8 := [21, 4, 46, 162, 0, 83, 42, 180, 0, 157, 21, 4, 51, 153, 0, 73, 16, 12, 21, 4, 104, 21, 5, 96, 54, 6, 42, 180, 0, 160, 21, 6]
theorem kX12_mayOn_1 (j : Nat) {b : UInt8} (hj : bX12_mayOn_1[j]? = some b) : AtB cX12_mayOn (32 + j) b := at_of32 (by decide +kernel) j hj
def bX12_mayOn_2 : List UInt8 := [51, 154, 0, 47, 42, 180, 0, 124, 21, 6, 46, 184, 2, 8, 154, 0, 6, 167, 0, 31, 42, 21, 6, 27, 28, 29, 182, 2, 90, 54, 7, 21]
theorem kX12_mayOn_2 (j : Nat) {b : UInt8} (hj : bX12_mayOn_2[j]? = some b) : AtB cX12_mayOn (64 + j) b := at_of32 (by decide +kernel) j hj
def bX12_mayOn_3 : List UInt8 := [7, 154, 0, 6, 167, 0, 12, 42, 21, 6, 181, 2, 93, 21, 7, 172, 132, 5, 1, 167, 255, 167, 132, 4, 1, 167, 255, 149, 3, 172]
theorem kX12_mayOn_3 (j : Nat) {b : UInt8} (hj : bX12_mayOn_3[j]? = some b) : AtB cX12_mayOn (96 + j) b := at_of32 (by decide +kernel) j hj
theorem dX12_mayOn_0 : decode cX12_mayOn 0 = .ok (.aload_n 0, 1) := dq_42 (kX12_mayOn_0 0 rfl)
theorem dX12_mayOn_1 : decode cX12_mayOn 1 = .ok (.aload_n 0, 1) := dq_42 (kX12_mayOn_0 1 rfl)
theorem dX12_mayOn_2 : decode cX12_mayOn 2 = .ok (.getfield 166, 3) := dq_180 (kX12_mayOn_0 2 rfl) (kX12_mayOn_0 3 rfl) (kX12_mayOn_0 4 rfl) rfl
theorem dX12_mayOn_5 : decode cX12_mayOn 5 = .ok (.iload_n 1, 1) := dq_27 (kX12_mayOn_0 5 rfl)
theorem dX12_mayOn_6 : decode cX12_mayOn 6 = .ok (.iaload, 1) := dq_46 (kX12_mayOn_0 6 rfl)
theorem dX12_mayOn_7 : decode cX12_mayOn 7 = .ok (.iload_n 2, 1) := dq_28 (kX12_mayOn_0 7 rfl)
theorem dX12_mayOn_8 : decode cX12_mayOn 8 = .ok (.invokevirtual 557, 3) := dq_182 (kX12_mayOn_0 8 rfl) (kX12_mayOn_0 9 rfl) (kX12_mayOn_0 10 rfl) rfl
theorem dX12_mayOn_11 : decode cX12_mayOn 11 = .ok (.iconst 0, 1) := dq_3 (kX12_mayOn_0 11 rfl)
theorem dX12_mayOn_12 : decode cX12_mayOn 12 = .ok (.istore 4, 2) := dq_54 (kX12_mayOn_0 12 rfl) (kX12_mayOn_0 13 rfl) rfl
theorem dX12_mayOn_14 : decode cX12_mayOn 14 = .ok (.iload 4, 2) := dq_21 (kX12_mayOn_0 14 rfl) (kX12_mayOn_0 15 rfl) rfl
theorem dX12_mayOn_16 : decode cX12_mayOn 16 = .ok (.aload_n 0, 1) := dq_42 (kX12_mayOn_0 16 rfl)
theorem dX12_mayOn_17 : decode cX12_mayOn 17 = .ok (.getfield 535, 3) := dq_180 (kX12_mayOn_0 17 rfl) (kX12_mayOn_0 18 rfl) (kX12_mayOn_0 19 rfl) rfl
theorem dX12_mayOn_20 : decode cX12_mayOn 20 = .ok (.if_icmp .ge 104, 3) := dq_162 (kX12_mayOn_0 20 rfl) (kX12_mayOn_0 21 rfl) (kX12_mayOn_0 22 rfl) (by decide)
theorem dX12_mayOn_23 : decode cX12_mayOn 23 = .ok (.iconst 0, 1) := dq_3 (kX12_mayOn_0 23 rfl)
theorem dX12_mayOn_24 : decode cX12_mayOn 24 = .ok (.istore 5, 2) := dq_54 (kX12_mayOn_0 24 rfl) (kX12_mayOn_0 25 rfl) rfl
theorem dX12_mayOn_26 : decode cX12_mayOn 26 = .ok (.iload 5, 2) := dq_21 (kX12_mayOn_0 26 rfl) (kX12_mayOn_0 27 rfl) rfl
theorem dX12_mayOn_28 : decode cX12_mayOn 28 = .ok (.aload_n 0, 1) := dq_42 (kX12_mayOn_0 28 rfl)
theorem dX12_mayOn_29 : decode cX12_mayOn 29 = .ok (.getfield 115, 3) := dq_180 (kX12_mayOn_0 29 rfl) (kX12_mayOn_0 30 rfl) (kX12_mayOn_0 31 rfl) rfl
theorem dX12_mayOn_32 : decode cX12_mayOn 32 = .ok (.iload 4, 2) := dq_21 (kX12_mayOn_1 0 rfl) (kX12_mayOn_1 1 rfl) rfl
theorem dX12_mayOn_34 : decode cX12_mayOn 34 = .ok (.iaload, 1) := dq_46 (kX12_mayOn_1 2 rfl)
theorem dX12_mayOn_35 : decode cX12_mayOn 35 = .ok (.if_icmp .ge 83, 3) := dq_162 (kX12_mayOn_1 3 rfl) (kX12_mayOn_1 4 rfl) (kX12_mayOn_1 5 rfl) (by decide)
theorem dX12_mayOn_38 : decode cX12_mayOn 38 = .ok (.aload_n 0, 1) := dq_42 (kX12_mayOn_1 6 rfl)
theorem dX12_mayOn_39 : decode cX12_mayOn 39 = .ok (.getfield 157, 3) := dq_180 (kX12_mayOn_1 7 rfl) (kX12_mayOn_1 8 rfl) (kX12_mayOn_1 9 rfl) rfl
theorem dX12_mayOn_42 : decode cX12_mayOn 42 = .ok (.iload 4, 2) := dq_21 (kX12_mayOn_1 10 rfl) (kX12_mayOn_1 11 rfl) rfl
theorem dX12_mayOn_44 : decode cX12_mayOn 44 = .ok (.baload, 1) := dq_51 (kX12_mayOn_1 12 rfl)
theorem dX12_mayOn_45 : decode cX12_mayOn 45 = .ok (.ifCond .eq 73, 3) := dq_153 (kX12_mayOn_1 13 rfl) (kX12_mayOn_1 14 rfl) (kX12_mayOn_1 15 rfl) (by decide)
theorem dX12_mayOn_48 : decode cX12_mayOn 48 = .ok (.bipush 12, 2) := dq_16 (kX12_mayOn_1 16 rfl) (kX12_mayOn_1 17 rfl) (by decide)
theorem dX12_mayOn_50 : decode cX12_mayOn 50 = .ok (.iload 4, 2) := dq_21 (kX12_mayOn_1 18 rfl) (kX12_mayOn_1 19 rfl) rfl
theorem dX12_mayOn_52 : decode cX12_mayOn 52 = .ok (.imul, 1) := dq_104 (kX12_mayOn_1 20 rfl)
theorem dX12_mayOn_53 : decode cX12_mayOn 53 = .ok (.iload 5, 2) := dq_21 (kX12_mayOn_1 21 rfl) (kX12_mayOn_1 22 rfl) rfl
theorem dX12_mayOn_55 : decode cX12_mayOn 55 = .ok (.iadd, 1) := dq_96 (kX12_mayOn_1 23 rfl)
theorem dX12_mayOn_56 : decode cX12_mayOn 56 = .ok (.istore 6, 2) := dq_54 (kX12_mayOn_1 24 rfl) (kX12_mayOn_1 25 rfl) rfl
theorem dX12_mayOn_58 : decode cX12_mayOn 58 = .ok (.aload_n 0, 1) := dq_42 (kX12_mayOn_1 26 rfl)
theorem dX12_mayOn_59 : decode cX12_mayOn 59 = .ok (.getfield 160, 3) := dq_180 (kX12_mayOn_1 27 rfl) (kX12_mayOn_1 28 rfl) (kX12_mayOn_1 29 rfl) rfl
theorem dX12_mayOn_62 : decode cX12_mayOn 62 = .ok (.iload 6, 2) := dq_21 (kX12_mayOn_1 30 rfl) (kX12_mayOn_1 31 rfl) rfl
theorem dX12_mayOn_64 : decode cX12_mayOn 64 = .ok (.baload, 1) := dq_51 (kX12_mayOn_2 0 rfl)
theorem dX12_mayOn_65 : decode cX12_mayOn 65 = .ok (.ifCond .ne 47, 3) := dq_154 (kX12_mayOn_2 1 rfl) (kX12_mayOn_2 2 rfl) (kX12_mayOn_2 3 rfl) (by decide)
theorem dX12_mayOn_68 : decode cX12_mayOn 68 = .ok (.aload_n 0, 1) := dq_42 (kX12_mayOn_2 4 rfl)
theorem dX12_mayOn_69 : decode cX12_mayOn 69 = .ok (.getfield 124, 3) := dq_180 (kX12_mayOn_2 5 rfl) (kX12_mayOn_2 6 rfl) (kX12_mayOn_2 7 rfl) rfl
theorem dX12_mayOn_72 : decode cX12_mayOn 72 = .ok (.iload 6, 2) := dq_21 (kX12_mayOn_2 8 rfl) (kX12_mayOn_2 9 rfl) rfl
theorem dX12_mayOn_74 : decode cX12_mayOn 74 = .ok (.iaload, 1) := dq_46 (kX12_mayOn_2 10 rfl)
theorem dX12_mayOn_75 : decode cX12_mayOn 75 = .ok (.invokestatic 520, 3) := dq_184 (kX12_mayOn_2 11 rfl) (kX12_mayOn_2 12 rfl) (kX12_mayOn_2 13 rfl) rfl
theorem dX12_mayOn_78 : decode cX12_mayOn 78 = .ok (.ifCond .ne 6, 3) := dq_154 (kX12_mayOn_2 14 rfl) (kX12_mayOn_2 15 rfl) (kX12_mayOn_2 16 rfl) (by decide)
theorem dX12_mayOn_81 : decode cX12_mayOn 81 = .ok (.goto 31, 3) := dq_167 (kX12_mayOn_2 17 rfl) (kX12_mayOn_2 18 rfl) (kX12_mayOn_2 19 rfl) (by decide)
theorem dX12_mayOn_84 : decode cX12_mayOn 84 = .ok (.aload_n 0, 1) := dq_42 (kX12_mayOn_2 20 rfl)
theorem dX12_mayOn_85 : decode cX12_mayOn 85 = .ok (.iload 6, 2) := dq_21 (kX12_mayOn_2 21 rfl) (kX12_mayOn_2 22 rfl) rfl
theorem dX12_mayOn_87 : decode cX12_mayOn 87 = .ok (.iload_n 1, 1) := dq_27 (kX12_mayOn_2 23 rfl)
theorem dX12_mayOn_88 : decode cX12_mayOn 88 = .ok (.iload_n 2, 1) := dq_28 (kX12_mayOn_2 24 rfl)
theorem dX12_mayOn_89 : decode cX12_mayOn 89 = .ok (.iload_n 3, 1) := dq_29 (kX12_mayOn_2 25 rfl)
theorem dX12_mayOn_90 : decode cX12_mayOn 90 = .ok (.invokevirtual 602, 3) := dq_182 (kX12_mayOn_2 26 rfl) (kX12_mayOn_2 27 rfl) (kX12_mayOn_2 28 rfl) rfl
theorem dX12_mayOn_93 : decode cX12_mayOn 93 = .ok (.istore 7, 2) := dq_54 (kX12_mayOn_2 29 rfl) (kX12_mayOn_2 30 rfl) rfl
theorem dX12_mayOn_95 : decode cX12_mayOn 95 = .ok (.iload 7, 2) := dq_21 (kX12_mayOn_2 31 rfl) (kX12_mayOn_3 0 rfl) rfl
theorem dX12_mayOn_97 : decode cX12_mayOn 97 = .ok (.ifCond .ne 6, 3) := dq_154 (kX12_mayOn_3 1 rfl) (kX12_mayOn_3 2 rfl) (kX12_mayOn_3 3 rfl) (by decide)
theorem dX12_mayOn_100 : decode cX12_mayOn 100 = .ok (.goto 12, 3) := dq_167 (kX12_mayOn_3 4 rfl) (kX12_mayOn_3 5 rfl) (kX12_mayOn_3 6 rfl) (by decide)
theorem dX12_mayOn_103 : decode cX12_mayOn 103 = .ok (.aload_n 0, 1) := dq_42 (kX12_mayOn_3 7 rfl)
theorem dX12_mayOn_104 : decode cX12_mayOn 104 = .ok (.iload 6, 2) := dq_21 (kX12_mayOn_3 8 rfl) (kX12_mayOn_3 9 rfl) rfl
theorem dX12_mayOn_106 : decode cX12_mayOn 106 = .ok (.putfield 605, 3) := dq_181 (kX12_mayOn_3 10 rfl) (kX12_mayOn_3 11 rfl) (kX12_mayOn_3 12 rfl) rfl
theorem dX12_mayOn_109 : decode cX12_mayOn 109 = .ok (.iload 7, 2) := dq_21 (kX12_mayOn_3 13 rfl) (kX12_mayOn_3 14 rfl) rfl
theorem dX12_mayOn_111 : decode cX12_mayOn 111 = .ok (.ireturn, 1) := dq_172 (kX12_mayOn_3 15 rfl)
theorem dX12_mayOn_112 : decode cX12_mayOn 112 = .ok (.iinc 5 1, 3) := dq_132 (kX12_mayOn_3 16 rfl) (kX12_mayOn_3 17 rfl) (kX12_mayOn_3 18 rfl) rfl (by decide)
theorem dX12_mayOn_115 : decode cX12_mayOn 115 = .ok (.goto (-89), 3) := dq_167 (kX12_mayOn_3 19 rfl) (kX12_mayOn_3 20 rfl) (kX12_mayOn_3 21 rfl) (by decide)
theorem dX12_mayOn_118 : decode cX12_mayOn 118 = .ok (.iinc 4 1, 3) := dq_132 (kX12_mayOn_3 22 rfl) (kX12_mayOn_3 23 rfl) (kX12_mayOn_3 24 rfl) rfl (by decide)
theorem dX12_mayOn_121 : decode cX12_mayOn 121 = .ok (.goto (-107), 3) := dq_167 (kX12_mayOn_3 25 rfl) (kX12_mayOn_3 26 rfl) (kX12_mayOn_3 27 rfl) (by decide)
theorem dX12_mayOn_124 : decode cX12_mayOn 124 = .ok (.iconst 0, 1) := dq_3 (kX12_mayOn_3 28 rfl)
theorem dX12_mayOn_125 : decode cX12_mayOn 125 = .ok (.ireturn, 1) := dq_172 (kX12_mayOn_3 29 rfl)

def bX12_may_0 : List UInt8 := [42, 27, 182, 2, 54, 153, 0, 20, 28, 184, 1, 153, 153, 0, 13, 42, 27, 28, 29, 182, 2, 96, 167, 0, 4, 2, 172]
theorem kX12_may_0 (j : Nat) {b : UInt8} (hj : bX12_may_0[j]? = some b) : AtB cX12_may (0 + j) b := at_of32 (by decide +kernel) j hj
theorem dX12_may_0 : decode cX12_may 0 = .ok (.aload_n 0, 1) := dq_42 (kX12_may_0 0 rfl)
theorem dX12_may_1 : decode cX12_may 1 = .ok (.iload_n 1, 1) := dq_27 (kX12_may_0 1 rfl)
theorem dX12_may_2 : decode cX12_may 2 = .ok (.invokevirtual 566, 3) := dq_182 (kX12_may_0 2 rfl) (kX12_may_0 3 rfl) (kX12_may_0 4 rfl) rfl
theorem dX12_may_5 : decode cX12_may 5 = .ok (.ifCond .eq 20, 3) := dq_153 (kX12_may_0 5 rfl) (kX12_may_0 6 rfl) (kX12_may_0 7 rfl) (by decide)
theorem dX12_may_8 : decode cX12_may 8 = .ok (.iload_n 2, 1) := dq_28 (kX12_may_0 8 rfl)
theorem dX12_may_9 : decode cX12_may 9 = .ok (.invokestatic 409, 3) := dq_184 (kX12_may_0 9 rfl) (kX12_may_0 10 rfl) (kX12_may_0 11 rfl) rfl
theorem dX12_may_12 : decode cX12_may 12 = .ok (.ifCond .eq 13, 3) := dq_153 (kX12_may_0 12 rfl) (kX12_may_0 13 rfl) (kX12_may_0 14 rfl) (by decide)
theorem dX12_may_15 : decode cX12_may 15 = .ok (.aload_n 0, 1) := dq_42 (kX12_may_0 15 rfl)
theorem dX12_may_16 : decode cX12_may 16 = .ok (.iload_n 1, 1) := dq_27 (kX12_may_0 16 rfl)
theorem dX12_may_17 : decode cX12_may 17 = .ok (.iload_n 2, 1) := dq_28 (kX12_may_0 17 rfl)
theorem dX12_may_18 : decode cX12_may 18 = .ok (.iload_n 3, 1) := dq_29 (kX12_may_0 18 rfl)
theorem dX12_may_19 : decode cX12_may 19 = .ok (.invokevirtual 608, 3) := dq_182 (kX12_may_0 19 rfl) (kX12_may_0 20 rfl) (kX12_may_0 21 rfl) rfl
theorem dX12_may_22 : decode cX12_may 22 = .ok (.goto 4, 3) := dq_167 (kX12_may_0 22 rfl) (kX12_may_0 23 rfl) (kX12_may_0 24 rfl) (by decide)
theorem dX12_may_25 : decode cX12_may 25 = .ok (.iconst (-1), 1) := dq_2 (kX12_may_0 25 rfl)
theorem dX12_may_26 : decode cX12_may 26 = .ok (.ireturn, 1) := dq_172 (kX12_may_0 26 rfl)

def bX12_why_0 : List UInt8 := [42, 27, 182, 2, 54, 153, 0, 30, 28, 184, 1, 153, 153, 0, 23, 21, 4, 3, 4, 184, 1, 115, 153, 0, 13, 42, 27, 28, 29, 182, 2, 96]
theorem kX12_why_0 (j : Nat) {b : UInt8} (hj : bX12_why_0[j]? = some b) : AtB cX12_why (0 + j) b := at_of32 (by decide +kernel) j hj
def bX12_why_1 : List UInt8 := [154, 0, 5, 2, 172, 21, 4, 154, 0, 13, 42, 180, 2, 93, 16, 12, 108, 167, 0, 10, 42, 180, 2, 93, 16, 12, 112, 172]
theorem kX12_why_1 (j : Nat) {b : UInt8} (hj : bX12_why_1[j]? = some b) : AtB cX12_why (32 + j) b := at_of32 (by decide +kernel) j hj
theorem dX12_why_0 : decode cX12_why 0 = .ok (.aload_n 0, 1) := dq_42 (kX12_why_0 0 rfl)
theorem dX12_why_1 : decode cX12_why 1 = .ok (.iload_n 1, 1) := dq_27 (kX12_why_0 1 rfl)
theorem dX12_why_2 : decode cX12_why 2 = .ok (.invokevirtual 566, 3) := dq_182 (kX12_why_0 2 rfl) (kX12_why_0 3 rfl) (kX12_why_0 4 rfl) rfl
theorem dX12_why_5 : decode cX12_why 5 = .ok (.ifCond .eq 30, 3) := dq_153 (kX12_why_0 5 rfl) (kX12_why_0 6 rfl) (kX12_why_0 7 rfl) (by decide)
theorem dX12_why_8 : decode cX12_why 8 = .ok (.iload_n 2, 1) := dq_28 (kX12_why_0 8 rfl)
theorem dX12_why_9 : decode cX12_why 9 = .ok (.invokestatic 409, 3) := dq_184 (kX12_why_0 9 rfl) (kX12_why_0 10 rfl) (kX12_why_0 11 rfl) rfl
theorem dX12_why_12 : decode cX12_why 12 = .ok (.ifCond .eq 23, 3) := dq_153 (kX12_why_0 12 rfl) (kX12_why_0 13 rfl) (kX12_why_0 14 rfl) (by decide)
theorem dX12_why_15 : decode cX12_why 15 = .ok (.iload 4, 2) := dq_21 (kX12_why_0 15 rfl) (kX12_why_0 16 rfl) rfl
theorem dX12_why_17 : decode cX12_why 17 = .ok (.iconst 0, 1) := dq_3 (kX12_why_0 17 rfl)
theorem dX12_why_18 : decode cX12_why 18 = .ok (.iconst 1, 1) := dq_4 (kX12_why_0 18 rfl)
theorem dX12_why_19 : decode cX12_why 19 = .ok (.invokestatic 371, 3) := dq_184 (kX12_why_0 19 rfl) (kX12_why_0 20 rfl) (kX12_why_0 21 rfl) rfl
theorem dX12_why_22 : decode cX12_why 22 = .ok (.ifCond .eq 13, 3) := dq_153 (kX12_why_0 22 rfl) (kX12_why_0 23 rfl) (kX12_why_0 24 rfl) (by decide)
theorem dX12_why_25 : decode cX12_why 25 = .ok (.aload_n 0, 1) := dq_42 (kX12_why_0 25 rfl)
theorem dX12_why_26 : decode cX12_why 26 = .ok (.iload_n 1, 1) := dq_27 (kX12_why_0 26 rfl)
theorem dX12_why_27 : decode cX12_why 27 = .ok (.iload_n 2, 1) := dq_28 (kX12_why_0 27 rfl)
theorem dX12_why_28 : decode cX12_why 28 = .ok (.iload_n 3, 1) := dq_29 (kX12_why_0 28 rfl)
theorem dX12_why_29 : decode cX12_why 29 = .ok (.invokevirtual 608, 3) := dq_182 (kX12_why_0 29 rfl) (kX12_why_0 30 rfl) (kX12_why_0 31 rfl) rfl
theorem dX12_why_32 : decode cX12_why 32 = .ok (.ifCond .ne 5, 3) := dq_154 (kX12_why_1 0 rfl) (kX12_why_1 1 rfl) (kX12_why_1 2 rfl) (by decide)
theorem dX12_why_35 : decode cX12_why 35 = .ok (.iconst (-1), 1) := dq_2 (kX12_why_1 3 rfl)
theorem dX12_why_36 : decode cX12_why 36 = .ok (.ireturn, 1) := dq_172 (kX12_why_1 4 rfl)
theorem dX12_why_37 : decode cX12_why 37 = .ok (.iload 4, 2) := dq_21 (kX12_why_1 5 rfl) (kX12_why_1 6 rfl) rfl
theorem dX12_why_39 : decode cX12_why 39 = .ok (.ifCond .ne 13, 3) := dq_154 (kX12_why_1 7 rfl) (kX12_why_1 8 rfl) (kX12_why_1 9 rfl) (by decide)
theorem dX12_why_42 : decode cX12_why 42 = .ok (.aload_n 0, 1) := dq_42 (kX12_why_1 10 rfl)
theorem dX12_why_43 : decode cX12_why 43 = .ok (.getfield 605, 3) := dq_180 (kX12_why_1 11 rfl) (kX12_why_1 12 rfl) (kX12_why_1 13 rfl) rfl
theorem dX12_why_46 : decode cX12_why 46 = .ok (.bipush 12, 2) := dq_16 (kX12_why_1 14 rfl) (kX12_why_1 15 rfl) (by decide)
theorem dX12_why_48 : decode cX12_why 48 = .ok (.idiv, 1) := dq_108 (kX12_why_1 16 rfl)
theorem dX12_why_49 : decode cX12_why 49 = .ok (.goto 10, 3) := dq_167 (kX12_why_1 17 rfl) (kX12_why_1 18 rfl) (kX12_why_1 19 rfl) (by decide)
theorem dX12_why_52 : decode cX12_why 52 = .ok (.aload_n 0, 1) := dq_42 (kX12_why_1 20 rfl)
theorem dX12_why_53 : decode cX12_why 53 = .ok (.getfield 605, 3) := dq_180 (kX12_why_1 21 rfl) (kX12_why_1 22 rfl) (kX12_why_1 23 rfl) rfl
theorem dX12_why_56 : decode cX12_why 56 = .ok (.bipush 12, 2) := dq_16 (kX12_why_1 24 rfl) (kX12_why_1 25 rfl) (by decide)
theorem dX12_why_58 : decode cX12_why 58 = .ok (.irem, 1) := dq_112 (kX12_why_1 26 rfl)
theorem dX12_why_59 : decode cX12_why 59 = .ok (.ireturn, 1) := dq_172 (kX12_why_1 27 rfl)

def bX12_whose_0 : List UInt8 := [42, 27, 182, 1, 150, 153, 0, 11, 42, 28, 182, 1, 125, 154, 0, 5, 2, 172, 42, 27, 42, 180, 1, 140, 182, 1, 156, 153, 0, 29, 42, 180]
theorem kX12_whose_0 (j : Nat) {b : UInt8} (hj : bX12_whose_0[j]? = some b) : AtB cX12_whose (0 + j) b := at_of32 (by decide +kernel) j hj
def bX12_whose_1 : List UInt8 := [1, 140, 42, 180, 0, 29, 27, 46, 100, 42, 16, 97, 27, 42, 180, 1, 140, 3, 182, 2, 51, 162, 0, 6, 16, 254, 172, 2, 62, 3, 54, 4]
theorem kX12_whose_1 (j : Nat) {b : UInt8} (hj : bX12_whose_1[j]? = some b) : AtB cX12_whose (32 + j) b := at_of32 (by decide +kernel) j hj
def bX12_whose_2 : List UInt8 := [21, 4, 42, 180, 1, 119, 162, 0, 53, 42, 180, 0, 35, 21, 4, 46, 154, 0, 37, 42, 28, 21, 4, 182, 2, 57, 153, 0, 27, 29, 2, 159]
theorem kX12_whose_2 (j : Nat) {b : UInt8} (hj : bX12_whose_2[j]? = some b) : AtB cX12_whose (64 + j) b := at_of32 (by decide +kernel) j hj
def bX12_whose_3 : List UInt8 := [0, 19, 42, 180, 0, 47, 21, 4, 46, 42, 180, 0, 47, 29, 46, 164, 0, 6, 21, 4, 62, 132, 4, 1, 167, 255, 200, 29, 172]
theorem kX12_whose_3 (j : Nat) {b : UInt8} (hj : bX12_whose_3[j]? = some b) : AtB cX12_whose (96 + j) b := at_of32 (by decide +kernel) j hj
theorem dX12_whose_0 : decode cX12_whose 0 = .ok (.aload_n 0, 1) := dq_42 (kX12_whose_0 0 rfl)
theorem dX12_whose_1 : decode cX12_whose 1 = .ok (.iload_n 1, 1) := dq_27 (kX12_whose_0 1 rfl)
theorem dX12_whose_2 : decode cX12_whose 2 = .ok (.invokevirtual 406, 3) := dq_182 (kX12_whose_0 2 rfl) (kX12_whose_0 3 rfl) (kX12_whose_0 4 rfl) rfl
theorem dX12_whose_5 : decode cX12_whose 5 = .ok (.ifCond .eq 11, 3) := dq_153 (kX12_whose_0 5 rfl) (kX12_whose_0 6 rfl) (kX12_whose_0 7 rfl) (by decide)
theorem dX12_whose_8 : decode cX12_whose 8 = .ok (.aload_n 0, 1) := dq_42 (kX12_whose_0 8 rfl)
theorem dX12_whose_9 : decode cX12_whose 9 = .ok (.iload_n 2, 1) := dq_28 (kX12_whose_0 9 rfl)
theorem dX12_whose_10 : decode cX12_whose 10 = .ok (.invokevirtual 381, 3) := dq_182 (kX12_whose_0 10 rfl) (kX12_whose_0 11 rfl) (kX12_whose_0 12 rfl) rfl
theorem dX12_whose_13 : decode cX12_whose 13 = .ok (.ifCond .ne 5, 3) := dq_154 (kX12_whose_0 13 rfl) (kX12_whose_0 14 rfl) (kX12_whose_0 15 rfl) (by decide)
theorem dX12_whose_16 : decode cX12_whose 16 = .ok (.iconst (-1), 1) := dq_2 (kX12_whose_0 16 rfl)
theorem dX12_whose_17 : decode cX12_whose 17 = .ok (.ireturn, 1) := dq_172 (kX12_whose_0 17 rfl)
theorem dX12_whose_18 : decode cX12_whose 18 = .ok (.aload_n 0, 1) := dq_42 (kX12_whose_0 18 rfl)
theorem dX12_whose_19 : decode cX12_whose 19 = .ok (.iload_n 1, 1) := dq_27 (kX12_whose_0 19 rfl)
theorem dX12_whose_20 : decode cX12_whose 20 = .ok (.aload_n 0, 1) := dq_42 (kX12_whose_0 20 rfl)
theorem dX12_whose_21 : decode cX12_whose 21 = .ok (.getfield 396, 3) := dq_180 (kX12_whose_0 21 rfl) (kX12_whose_0 22 rfl) (kX12_whose_0 23 rfl) rfl
theorem dX12_whose_24 : decode cX12_whose 24 = .ok (.invokevirtual 412, 3) := dq_182 (kX12_whose_0 24 rfl) (kX12_whose_0 25 rfl) (kX12_whose_0 26 rfl) rfl
theorem dX12_whose_27 : decode cX12_whose 27 = .ok (.ifCond .eq 29, 3) := dq_153 (kX12_whose_0 27 rfl) (kX12_whose_0 28 rfl) (kX12_whose_0 29 rfl) (by decide)
theorem dX12_whose_30 : decode cX12_whose 30 = .ok (.aload_n 0, 1) := dq_42 (kX12_whose_0 30 rfl)
theorem dX12_whose_31 : decode cX12_whose 31 = .ok (.getfield 396, 3) := dq_180 (kX12_whose_0 31 rfl) (kX12_whose_1 0 rfl) (kX12_whose_1 1 rfl) rfl
theorem dX12_whose_34 : decode cX12_whose 34 = .ok (.aload_n 0, 1) := dq_42 (kX12_whose_1 2 rfl)
theorem dX12_whose_35 : decode cX12_whose 35 = .ok (.getfield 29, 3) := dq_180 (kX12_whose_1 3 rfl) (kX12_whose_1 4 rfl) (kX12_whose_1 5 rfl) rfl
theorem dX12_whose_38 : decode cX12_whose 38 = .ok (.iload_n 1, 1) := dq_27 (kX12_whose_1 6 rfl)
theorem dX12_whose_39 : decode cX12_whose 39 = .ok (.iaload, 1) := dq_46 (kX12_whose_1 7 rfl)
theorem dX12_whose_40 : decode cX12_whose 40 = .ok (.isub, 1) := dq_100 (kX12_whose_1 8 rfl)
theorem dX12_whose_41 : decode cX12_whose 41 = .ok (.aload_n 0, 1) := dq_42 (kX12_whose_1 9 rfl)
theorem dX12_whose_42 : decode cX12_whose 42 = .ok (.bipush 97, 2) := dq_16 (kX12_whose_1 10 rfl) (kX12_whose_1 11 rfl) (by decide)
theorem dX12_whose_44 : decode cX12_whose 44 = .ok (.iload_n 1, 1) := dq_27 (kX12_whose_1 12 rfl)
theorem dX12_whose_45 : decode cX12_whose 45 = .ok (.aload_n 0, 1) := dq_42 (kX12_whose_1 13 rfl)
theorem dX12_whose_46 : decode cX12_whose 46 = .ok (.getfield 396, 3) := dq_180 (kX12_whose_1 14 rfl) (kX12_whose_1 15 rfl) (kX12_whose_1 16 rfl) rfl
theorem dX12_whose_49 : decode cX12_whose 49 = .ok (.iconst 0, 1) := dq_3 (kX12_whose_1 17 rfl)
theorem dX12_whose_50 : decode cX12_whose 50 = .ok (.invokevirtual 563, 3) := dq_182 (kX12_whose_1 18 rfl) (kX12_whose_1 19 rfl) (kX12_whose_1 20 rfl) rfl
theorem dX12_whose_53 : decode cX12_whose 53 = .ok (.if_icmp .ge 6, 3) := dq_162 (kX12_whose_1 21 rfl) (kX12_whose_1 22 rfl) (kX12_whose_1 23 rfl) (by decide)
theorem dX12_whose_56 : decode cX12_whose 56 = .ok (.bipush (-2), 2) := dq_16 (kX12_whose_1 24 rfl) (kX12_whose_1 25 rfl) (by decide)
theorem dX12_whose_58 : decode cX12_whose 58 = .ok (.ireturn, 1) := dq_172 (kX12_whose_1 26 rfl)
theorem dX12_whose_59 : decode cX12_whose 59 = .ok (.iconst (-1), 1) := dq_2 (kX12_whose_1 27 rfl)
theorem dX12_whose_60 : decode cX12_whose 60 = .ok (.istore_n 3, 1) := dq_62 (kX12_whose_1 28 rfl)
theorem dX12_whose_61 : decode cX12_whose 61 = .ok (.iconst 0, 1) := dq_3 (kX12_whose_1 29 rfl)
theorem dX12_whose_62 : decode cX12_whose 62 = .ok (.istore 4, 2) := dq_54 (kX12_whose_1 30 rfl) (kX12_whose_1 31 rfl) rfl
theorem dX12_whose_64 : decode cX12_whose 64 = .ok (.iload 4, 2) := dq_21 (kX12_whose_2 0 rfl) (kX12_whose_2 1 rfl) rfl
theorem dX12_whose_66 : decode cX12_whose 66 = .ok (.aload_n 0, 1) := dq_42 (kX12_whose_2 2 rfl)
theorem dX12_whose_67 : decode cX12_whose 67 = .ok (.getfield 375, 3) := dq_180 (kX12_whose_2 3 rfl) (kX12_whose_2 4 rfl) (kX12_whose_2 5 rfl) rfl
theorem dX12_whose_70 : decode cX12_whose 70 = .ok (.if_icmp .ge 53, 3) := dq_162 (kX12_whose_2 6 rfl) (kX12_whose_2 7 rfl) (kX12_whose_2 8 rfl) (by decide)
theorem dX12_whose_73 : decode cX12_whose 73 = .ok (.aload_n 0, 1) := dq_42 (kX12_whose_2 9 rfl)
theorem dX12_whose_74 : decode cX12_whose 74 = .ok (.getfield 35, 3) := dq_180 (kX12_whose_2 10 rfl) (kX12_whose_2 11 rfl) (kX12_whose_2 12 rfl) rfl
theorem dX12_whose_77 : decode cX12_whose 77 = .ok (.iload 4, 2) := dq_21 (kX12_whose_2 13 rfl) (kX12_whose_2 14 rfl) rfl
theorem dX12_whose_79 : decode cX12_whose 79 = .ok (.iaload, 1) := dq_46 (kX12_whose_2 15 rfl)
theorem dX12_whose_80 : decode cX12_whose 80 = .ok (.ifCond .ne 37, 3) := dq_154 (kX12_whose_2 16 rfl) (kX12_whose_2 17 rfl) (kX12_whose_2 18 rfl) (by decide)
theorem dX12_whose_83 : decode cX12_whose 83 = .ok (.aload_n 0, 1) := dq_42 (kX12_whose_2 19 rfl)
theorem dX12_whose_84 : decode cX12_whose 84 = .ok (.iload_n 2, 1) := dq_28 (kX12_whose_2 20 rfl)
theorem dX12_whose_85 : decode cX12_whose 85 = .ok (.iload 4, 2) := dq_21 (kX12_whose_2 21 rfl) (kX12_whose_2 22 rfl) rfl
theorem dX12_whose_87 : decode cX12_whose 87 = .ok (.invokevirtual 569, 3) := dq_182 (kX12_whose_2 23 rfl) (kX12_whose_2 24 rfl) (kX12_whose_2 25 rfl) rfl
theorem dX12_whose_90 : decode cX12_whose 90 = .ok (.ifCond .eq 27, 3) := dq_153 (kX12_whose_2 26 rfl) (kX12_whose_2 27 rfl) (kX12_whose_2 28 rfl) (by decide)
theorem dX12_whose_93 : decode cX12_whose 93 = .ok (.iload_n 3, 1) := dq_29 (kX12_whose_2 29 rfl)
theorem dX12_whose_94 : decode cX12_whose 94 = .ok (.iconst (-1), 1) := dq_2 (kX12_whose_2 30 rfl)
theorem dX12_whose_95 : decode cX12_whose 95 = .ok (.if_icmp .eq 19, 3) := dq_159 (kX12_whose_2 31 rfl) (kX12_whose_3 0 rfl) (kX12_whose_3 1 rfl) (by decide)
theorem dX12_whose_98 : decode cX12_whose 98 = .ok (.aload_n 0, 1) := dq_42 (kX12_whose_3 2 rfl)
theorem dX12_whose_99 : decode cX12_whose 99 = .ok (.getfield 47, 3) := dq_180 (kX12_whose_3 3 rfl) (kX12_whose_3 4 rfl) (kX12_whose_3 5 rfl) rfl
theorem dX12_whose_102 : decode cX12_whose 102 = .ok (.iload 4, 2) := dq_21 (kX12_whose_3 6 rfl) (kX12_whose_3 7 rfl) rfl
theorem dX12_whose_104 : decode cX12_whose 104 = .ok (.iaload, 1) := dq_46 (kX12_whose_3 8 rfl)
theorem dX12_whose_105 : decode cX12_whose 105 = .ok (.aload_n 0, 1) := dq_42 (kX12_whose_3 9 rfl)
theorem dX12_whose_106 : decode cX12_whose 106 = .ok (.getfield 47, 3) := dq_180 (kX12_whose_3 10 rfl) (kX12_whose_3 11 rfl) (kX12_whose_3 12 rfl) rfl
theorem dX12_whose_109 : decode cX12_whose 109 = .ok (.iload_n 3, 1) := dq_29 (kX12_whose_3 13 rfl)
theorem dX12_whose_110 : decode cX12_whose 110 = .ok (.iaload, 1) := dq_46 (kX12_whose_3 14 rfl)
theorem dX12_whose_111 : decode cX12_whose 111 = .ok (.if_icmp .le 6, 3) := dq_164 (kX12_whose_3 15 rfl) (kX12_whose_3 16 rfl) (kX12_whose_3 17 rfl) (by decide)
theorem dX12_whose_114 : decode cX12_whose 114 = .ok (.iload 4, 2) := dq_21 (kX12_whose_3 18 rfl) (kX12_whose_3 19 rfl) rfl
theorem dX12_whose_116 : decode cX12_whose 116 = .ok (.istore_n 3, 1) := dq_62 (kX12_whose_3 20 rfl)
theorem dX12_whose_117 : decode cX12_whose 117 = .ok (.iinc 4 1, 3) := dq_132 (kX12_whose_3 21 rfl) (kX12_whose_3 22 rfl) (kX12_whose_3 23 rfl) rfl (by decide)
theorem dX12_whose_120 : decode cX12_whose 120 = .ok (.goto (-56), 3) := dq_167 (kX12_whose_3 24 rfl) (kX12_whose_3 25 rfl) (kX12_whose_3 26 rfl) (by decide)
theorem dX12_whose_123 : decode cX12_whose 123 = .ok (.iload_n 3, 1) := dq_29 (kX12_whose_3 27 rfl)
theorem dX12_whose_124 : decode cX12_whose 124 = .ok (.ireturn, 1) := dq_172 (kX12_whose_3 28 rfl)

def bX12_isShip_0 : List UInt8 := [27, 155, 0, 15, 27, 42, 180, 2, 100, 162, 0, 7, 4, 167, 0, 4, 3, 172]
theorem kX12_isShip_0 (j : Nat) {b : UInt8} (hj : bX12_isShip_0[j]? = some b) : AtB cX12_isShip (0 + j) b := at_of32 (by decide +kernel) j hj
theorem dX12_isShip_0 : decode cX12_isShip 0 = .ok (.iload_n 1, 1) := dq_27 (kX12_isShip_0 0 rfl)
theorem dX12_isShip_1 : decode cX12_isShip 1 = .ok (.ifCond .lt 15, 3) := dq_155 (kX12_isShip_0 1 rfl) (kX12_isShip_0 2 rfl) (kX12_isShip_0 3 rfl) (by decide)
theorem dX12_isShip_4 : decode cX12_isShip 4 = .ok (.iload_n 1, 1) := dq_27 (kX12_isShip_0 4 rfl)
theorem dX12_isShip_5 : decode cX12_isShip 5 = .ok (.aload_n 0, 1) := dq_42 (kX12_isShip_0 5 rfl)
theorem dX12_isShip_6 : decode cX12_isShip 6 = .ok (.getfield 612, 3) := dq_180 (kX12_isShip_0 6 rfl) (kX12_isShip_0 7 rfl) (kX12_isShip_0 8 rfl) rfl
theorem dX12_isShip_9 : decode cX12_isShip 9 = .ok (.if_icmp .ge 7, 3) := dq_162 (kX12_isShip_0 9 rfl) (kX12_isShip_0 10 rfl) (kX12_isShip_0 11 rfl) (by decide)
theorem dX12_isShip_12 : decode cX12_isShip 12 = .ok (.iconst 1, 1) := dq_4 (kX12_isShip_0 12 rfl)
theorem dX12_isShip_13 : decode cX12_isShip 13 = .ok (.goto 4, 3) := dq_167 (kX12_isShip_0 13 rfl) (kX12_isShip_0 14 rfl) (kX12_isShip_0 15 rfl) (by decide)
theorem dX12_isShip_16 : decode cX12_isShip 16 = .ok (.iconst 0, 1) := dq_3 (kX12_isShip_0 16 rfl)
theorem dX12_isShip_17 : decode cX12_isShip 17 = .ok (.ireturn, 1) := dq_172 (kX12_isShip_0 17 rfl)

def bX12_isSea_0 : List UInt8 := [26, 155, 0, 12, 26, 7, 162, 0, 7, 4, 167, 0, 4, 3, 172]
theorem kX12_isSea_0 (j : Nat) {b : UInt8} (hj : bX12_isSea_0[j]? = some b) : AtB cX12_isSea (0 + j) b := at_of32 (by decide +kernel) j hj
theorem dX12_isSea_0 : decode cX12_isSea 0 = .ok (.iload_n 0, 1) := dq_26 (kX12_isSea_0 0 rfl)
theorem dX12_isSea_1 : decode cX12_isSea 1 = .ok (.ifCond .lt 12, 3) := dq_155 (kX12_isSea_0 1 rfl) (kX12_isSea_0 2 rfl) (kX12_isSea_0 3 rfl) (by decide)
theorem dX12_isSea_4 : decode cX12_isSea 4 = .ok (.iload_n 0, 1) := dq_26 (kX12_isSea_0 4 rfl)
theorem dX12_isSea_5 : decode cX12_isSea 5 = .ok (.iconst 4, 1) := dq_7 (kX12_isSea_0 5 rfl)
theorem dX12_isSea_6 : decode cX12_isSea 6 = .ok (.if_icmp .ge 7, 3) := dq_162 (kX12_isSea_0 6 rfl) (kX12_isSea_0 7 rfl) (kX12_isSea_0 8 rfl) (by decide)
theorem dX12_isSea_9 : decode cX12_isSea 9 = .ok (.iconst 1, 1) := dq_4 (kX12_isSea_0 9 rfl)
theorem dX12_isSea_10 : decode cX12_isSea 10 = .ok (.goto 4, 3) := dq_167 (kX12_isSea_0 10 rfl) (kX12_isSea_0 11 rfl) (kX12_isSea_0 12 rfl) (by decide)
theorem dX12_isSea_13 : decode cX12_isSea 13 = .ok (.iconst 0, 1) := dq_3 (kX12_isSea_0 13 rfl)
theorem dX12_isSea_14 : decode cX12_isSea 14 = .ok (.ireturn, 1) := dq_172 (kX12_isSea_0 14 rfl)

def bX12_ship_0 : List UInt8 := [42, 27, 182, 1, 150, 153, 0, 33, 28, 4, 17, 39, 16, 184, 1, 115, 153, 0, 22, 29, 3, 16, 100, 184, 1, 115, 153, 0, 12, 42, 180, 2]
theorem kX12_ship_0 (j : Nat) {b : UInt8} (hj : bX12_ship_0[j]? = some b) : AtB cX12_ship (0 + j) b := at_of32 (by decide +kernel) j hj
def bX12_ship_1 : List UInt8 := [100, 16, 10, 160, 0, 5, 2, 172, 42, 180, 0, 208, 42, 180, 2, 100, 27, 79, 42, 180, 0, 211, 42, 180, 2, 100, 28, 79, 42, 180, 0, 214]
theorem kX12_ship_1 (j : Nat) {b : UInt8} (hj : bX12_ship_1[j]? = some b) : AtB cX12_ship (32 + j) b := at_of32 (by decide +kernel) j hj
def bX12_ship_2 : List UInt8 := [42, 180, 2, 100, 29, 79, 42, 180, 0, 226, 42, 180, 2, 100, 2, 79, 42, 42, 180, 2, 100, 4, 96, 181, 2, 100, 42, 180, 2, 100, 4, 100]
theorem kX12_ship_2 (j : Nat) {b : UInt8} (hj : bX12_ship_2[j]? = some b) : AtB cX12_ship (64 + j) b := at_of32 (by decide +kernel) j hj
def bX12_ship_3 : List UInt8 := [172]
theorem kX12_ship_3 (j : Nat) {b : UInt8} (hj : bX12_ship_3[j]? = some b) : AtB cX12_ship (96 + j) b := at_of32 (by decide +kernel) j hj
theorem dX12_ship_0 : decode cX12_ship 0 = .ok (.aload_n 0, 1) := dq_42 (kX12_ship_0 0 rfl)
theorem dX12_ship_1 : decode cX12_ship 1 = .ok (.iload_n 1, 1) := dq_27 (kX12_ship_0 1 rfl)
theorem dX12_ship_2 : decode cX12_ship 2 = .ok (.invokevirtual 406, 3) := dq_182 (kX12_ship_0 2 rfl) (kX12_ship_0 3 rfl) (kX12_ship_0 4 rfl) rfl
theorem dX12_ship_5 : decode cX12_ship 5 = .ok (.ifCond .eq 33, 3) := dq_153 (kX12_ship_0 5 rfl) (kX12_ship_0 6 rfl) (kX12_ship_0 7 rfl) (by decide)
theorem dX12_ship_8 : decode cX12_ship 8 = .ok (.iload_n 2, 1) := dq_28 (kX12_ship_0 8 rfl)
theorem dX12_ship_9 : decode cX12_ship 9 = .ok (.iconst 1, 1) := dq_4 (kX12_ship_0 9 rfl)
theorem dX12_ship_10 : decode cX12_ship 10 = .ok (.sipush 10000, 3) := dq_17 (kX12_ship_0 10 rfl) (kX12_ship_0 11 rfl) (kX12_ship_0 12 rfl) (by decide)
theorem dX12_ship_13 : decode cX12_ship 13 = .ok (.invokestatic 371, 3) := dq_184 (kX12_ship_0 13 rfl) (kX12_ship_0 14 rfl) (kX12_ship_0 15 rfl) rfl
theorem dX12_ship_16 : decode cX12_ship 16 = .ok (.ifCond .eq 22, 3) := dq_153 (kX12_ship_0 16 rfl) (kX12_ship_0 17 rfl) (kX12_ship_0 18 rfl) (by decide)
theorem dX12_ship_19 : decode cX12_ship 19 = .ok (.iload_n 3, 1) := dq_29 (kX12_ship_0 19 rfl)
theorem dX12_ship_20 : decode cX12_ship 20 = .ok (.iconst 0, 1) := dq_3 (kX12_ship_0 20 rfl)
theorem dX12_ship_21 : decode cX12_ship 21 = .ok (.bipush 100, 2) := dq_16 (kX12_ship_0 21 rfl) (kX12_ship_0 22 rfl) (by decide)
theorem dX12_ship_23 : decode cX12_ship 23 = .ok (.invokestatic 371, 3) := dq_184 (kX12_ship_0 23 rfl) (kX12_ship_0 24 rfl) (kX12_ship_0 25 rfl) rfl
theorem dX12_ship_26 : decode cX12_ship 26 = .ok (.ifCond .eq 12, 3) := dq_153 (kX12_ship_0 26 rfl) (kX12_ship_0 27 rfl) (kX12_ship_0 28 rfl) (by decide)
theorem dX12_ship_29 : decode cX12_ship 29 = .ok (.aload_n 0, 1) := dq_42 (kX12_ship_0 29 rfl)
theorem dX12_ship_30 : decode cX12_ship 30 = .ok (.getfield 612, 3) := dq_180 (kX12_ship_0 30 rfl) (kX12_ship_0 31 rfl) (kX12_ship_1 0 rfl) rfl
theorem dX12_ship_33 : decode cX12_ship 33 = .ok (.bipush 10, 2) := dq_16 (kX12_ship_1 1 rfl) (kX12_ship_1 2 rfl) (by decide)
theorem dX12_ship_35 : decode cX12_ship 35 = .ok (.if_icmp .ne 5, 3) := dq_160 (kX12_ship_1 3 rfl) (kX12_ship_1 4 rfl) (kX12_ship_1 5 rfl) (by decide)
theorem dX12_ship_38 : decode cX12_ship 38 = .ok (.iconst (-1), 1) := dq_2 (kX12_ship_1 6 rfl)
theorem dX12_ship_39 : decode cX12_ship 39 = .ok (.ireturn, 1) := dq_172 (kX12_ship_1 7 rfl)
theorem dX12_ship_40 : decode cX12_ship 40 = .ok (.aload_n 0, 1) := dq_42 (kX12_ship_1 8 rfl)
theorem dX12_ship_41 : decode cX12_ship 41 = .ok (.getfield 208, 3) := dq_180 (kX12_ship_1 9 rfl) (kX12_ship_1 10 rfl) (kX12_ship_1 11 rfl) rfl
theorem dX12_ship_44 : decode cX12_ship 44 = .ok (.aload_n 0, 1) := dq_42 (kX12_ship_1 12 rfl)
theorem dX12_ship_45 : decode cX12_ship 45 = .ok (.getfield 612, 3) := dq_180 (kX12_ship_1 13 rfl) (kX12_ship_1 14 rfl) (kX12_ship_1 15 rfl) rfl
theorem dX12_ship_48 : decode cX12_ship 48 = .ok (.iload_n 1, 1) := dq_27 (kX12_ship_1 16 rfl)
theorem dX12_ship_49 : decode cX12_ship 49 = .ok (.iastore, 1) := dq_79 (kX12_ship_1 17 rfl)
theorem dX12_ship_50 : decode cX12_ship 50 = .ok (.aload_n 0, 1) := dq_42 (kX12_ship_1 18 rfl)
theorem dX12_ship_51 : decode cX12_ship 51 = .ok (.getfield 211, 3) := dq_180 (kX12_ship_1 19 rfl) (kX12_ship_1 20 rfl) (kX12_ship_1 21 rfl) rfl
theorem dX12_ship_54 : decode cX12_ship 54 = .ok (.aload_n 0, 1) := dq_42 (kX12_ship_1 22 rfl)
theorem dX12_ship_55 : decode cX12_ship 55 = .ok (.getfield 612, 3) := dq_180 (kX12_ship_1 23 rfl) (kX12_ship_1 24 rfl) (kX12_ship_1 25 rfl) rfl
theorem dX12_ship_58 : decode cX12_ship 58 = .ok (.iload_n 2, 1) := dq_28 (kX12_ship_1 26 rfl)
theorem dX12_ship_59 : decode cX12_ship 59 = .ok (.iastore, 1) := dq_79 (kX12_ship_1 27 rfl)
theorem dX12_ship_60 : decode cX12_ship 60 = .ok (.aload_n 0, 1) := dq_42 (kX12_ship_1 28 rfl)
theorem dX12_ship_61 : decode cX12_ship 61 = .ok (.getfield 214, 3) := dq_180 (kX12_ship_1 29 rfl) (kX12_ship_1 30 rfl) (kX12_ship_1 31 rfl) rfl
theorem dX12_ship_64 : decode cX12_ship 64 = .ok (.aload_n 0, 1) := dq_42 (kX12_ship_2 0 rfl)
theorem dX12_ship_65 : decode cX12_ship 65 = .ok (.getfield 612, 3) := dq_180 (kX12_ship_2 1 rfl) (kX12_ship_2 2 rfl) (kX12_ship_2 3 rfl) rfl
theorem dX12_ship_68 : decode cX12_ship 68 = .ok (.iload_n 3, 1) := dq_29 (kX12_ship_2 4 rfl)
theorem dX12_ship_69 : decode cX12_ship 69 = .ok (.iastore, 1) := dq_79 (kX12_ship_2 5 rfl)
theorem dX12_ship_70 : decode cX12_ship 70 = .ok (.aload_n 0, 1) := dq_42 (kX12_ship_2 6 rfl)
theorem dX12_ship_71 : decode cX12_ship 71 = .ok (.getfield 226, 3) := dq_180 (kX12_ship_2 7 rfl) (kX12_ship_2 8 rfl) (kX12_ship_2 9 rfl) rfl
theorem dX12_ship_74 : decode cX12_ship 74 = .ok (.aload_n 0, 1) := dq_42 (kX12_ship_2 10 rfl)
theorem dX12_ship_75 : decode cX12_ship 75 = .ok (.getfield 612, 3) := dq_180 (kX12_ship_2 11 rfl) (kX12_ship_2 12 rfl) (kX12_ship_2 13 rfl) rfl
theorem dX12_ship_78 : decode cX12_ship 78 = .ok (.iconst (-1), 1) := dq_2 (kX12_ship_2 14 rfl)
theorem dX12_ship_79 : decode cX12_ship 79 = .ok (.iastore, 1) := dq_79 (kX12_ship_2 15 rfl)
theorem dX12_ship_80 : decode cX12_ship 80 = .ok (.aload_n 0, 1) := dq_42 (kX12_ship_2 16 rfl)
theorem dX12_ship_81 : decode cX12_ship 81 = .ok (.aload_n 0, 1) := dq_42 (kX12_ship_2 17 rfl)
theorem dX12_ship_82 : decode cX12_ship 82 = .ok (.getfield 612, 3) := dq_180 (kX12_ship_2 18 rfl) (kX12_ship_2 19 rfl) (kX12_ship_2 20 rfl) rfl
theorem dX12_ship_85 : decode cX12_ship 85 = .ok (.iconst 1, 1) := dq_4 (kX12_ship_2 21 rfl)
theorem dX12_ship_86 : decode cX12_ship 86 = .ok (.iadd, 1) := dq_96 (kX12_ship_2 22 rfl)
theorem dX12_ship_87 : decode cX12_ship 87 = .ok (.putfield 612, 3) := dq_181 (kX12_ship_2 23 rfl) (kX12_ship_2 24 rfl) (kX12_ship_2 25 rfl) rfl
theorem dX12_ship_90 : decode cX12_ship 90 = .ok (.aload_n 0, 1) := dq_42 (kX12_ship_2 26 rfl)
theorem dX12_ship_91 : decode cX12_ship 91 = .ok (.getfield 612, 3) := dq_180 (kX12_ship_2 27 rfl) (kX12_ship_2 28 rfl) (kX12_ship_2 29 rfl) rfl
theorem dX12_ship_94 : decode cX12_ship 94 = .ok (.iconst 1, 1) := dq_4 (kX12_ship_2 30 rfl)
theorem dX12_ship_95 : decode cX12_ship 95 = .ok (.isub, 1) := dq_100 (kX12_ship_2 31 rfl)
theorem dX12_ship_96 : decode cX12_ship 96 = .ok (.ireturn, 1) := dq_172 (kX12_ship_3 0 rfl)

def bX12_cover_0 : List UInt8 := [27, 184, 2, 103, 153, 0, 23, 28, 3, 16, 11, 184, 1, 115, 153, 0, 13, 29, 3, 16, 100, 184, 1, 115, 154, 0, 5, 3, 172, 42, 180, 0]
theorem kX12_cover_0 (j : Nat) {b : UInt8} (hj : bX12_cover_0[j]? = some b) : AtB cX12_cover (0 + j) b := at_of32 (by decide +kernel) j hj
def bX12_cover_1 : List UInt8 := [241, 16, 12, 27, 104, 28, 96, 29, 79, 4, 172]
theorem kX12_cover_1 (j : Nat) {b : UInt8} (hj : bX12_cover_1[j]? = some b) : AtB cX12_cover (32 + j) b := at_of32 (by decide +kernel) j hj
theorem dX12_cover_0 : decode cX12_cover 0 = .ok (.iload_n 1, 1) := dq_27 (kX12_cover_0 0 rfl)
theorem dX12_cover_1 : decode cX12_cover 1 = .ok (.invokestatic 615, 3) := dq_184 (kX12_cover_0 1 rfl) (kX12_cover_0 2 rfl) (kX12_cover_0 3 rfl) rfl
theorem dX12_cover_4 : decode cX12_cover 4 = .ok (.ifCond .eq 23, 3) := dq_153 (kX12_cover_0 4 rfl) (kX12_cover_0 5 rfl) (kX12_cover_0 6 rfl) (by decide)
theorem dX12_cover_7 : decode cX12_cover 7 = .ok (.iload_n 2, 1) := dq_28 (kX12_cover_0 7 rfl)
theorem dX12_cover_8 : decode cX12_cover 8 = .ok (.iconst 0, 1) := dq_3 (kX12_cover_0 8 rfl)
theorem dX12_cover_9 : decode cX12_cover 9 = .ok (.bipush 11, 2) := dq_16 (kX12_cover_0 9 rfl) (kX12_cover_0 10 rfl) (by decide)
theorem dX12_cover_11 : decode cX12_cover 11 = .ok (.invokestatic 371, 3) := dq_184 (kX12_cover_0 11 rfl) (kX12_cover_0 12 rfl) (kX12_cover_0 13 rfl) rfl
theorem dX12_cover_14 : decode cX12_cover 14 = .ok (.ifCond .eq 13, 3) := dq_153 (kX12_cover_0 14 rfl) (kX12_cover_0 15 rfl) (kX12_cover_0 16 rfl) (by decide)
theorem dX12_cover_17 : decode cX12_cover 17 = .ok (.iload_n 3, 1) := dq_29 (kX12_cover_0 17 rfl)
theorem dX12_cover_18 : decode cX12_cover 18 = .ok (.iconst 0, 1) := dq_3 (kX12_cover_0 18 rfl)
theorem dX12_cover_19 : decode cX12_cover 19 = .ok (.bipush 100, 2) := dq_16 (kX12_cover_0 19 rfl) (kX12_cover_0 20 rfl) (by decide)
theorem dX12_cover_21 : decode cX12_cover 21 = .ok (.invokestatic 371, 3) := dq_184 (kX12_cover_0 21 rfl) (kX12_cover_0 22 rfl) (kX12_cover_0 23 rfl) rfl
theorem dX12_cover_24 : decode cX12_cover 24 = .ok (.ifCond .ne 5, 3) := dq_154 (kX12_cover_0 24 rfl) (kX12_cover_0 25 rfl) (kX12_cover_0 26 rfl) (by decide)
theorem dX12_cover_27 : decode cX12_cover 27 = .ok (.iconst 0, 1) := dq_3 (kX12_cover_0 27 rfl)
theorem dX12_cover_28 : decode cX12_cover 28 = .ok (.ireturn, 1) := dq_172 (kX12_cover_0 28 rfl)
theorem dX12_cover_29 : decode cX12_cover 29 = .ok (.aload_n 0, 1) := dq_42 (kX12_cover_0 29 rfl)
theorem dX12_cover_30 : decode cX12_cover 30 = .ok (.getfield 241, 3) := dq_180 (kX12_cover_0 30 rfl) (kX12_cover_0 31 rfl) (kX12_cover_1 0 rfl) rfl
theorem dX12_cover_33 : decode cX12_cover 33 = .ok (.bipush 12, 2) := dq_16 (kX12_cover_1 1 rfl) (kX12_cover_1 2 rfl) (by decide)
theorem dX12_cover_35 : decode cX12_cover 35 = .ok (.iload_n 1, 1) := dq_27 (kX12_cover_1 3 rfl)
theorem dX12_cover_36 : decode cX12_cover 36 = .ok (.imul, 1) := dq_104 (kX12_cover_1 4 rfl)
theorem dX12_cover_37 : decode cX12_cover 37 = .ok (.iload_n 2, 1) := dq_28 (kX12_cover_1 5 rfl)
theorem dX12_cover_38 : decode cX12_cover 38 = .ok (.iadd, 1) := dq_96 (kX12_cover_1 6 rfl)
theorem dX12_cover_39 : decode cX12_cover 39 = .ok (.iload_n 3, 1) := dq_29 (kX12_cover_1 7 rfl)
theorem dX12_cover_40 : decode cX12_cover 40 = .ok (.iastore, 1) := dq_79 (kX12_cover_1 8 rfl)
theorem dX12_cover_41 : decode cX12_cover 41 = .ok (.iconst 1, 1) := dq_4 (kX12_cover_1 9 rfl)
theorem dX12_cover_42 : decode cX12_cover 42 = .ok (.ireturn, 1) := dq_172 (kX12_cover_1 10 rfl)

def bX12_sea_0 : List UInt8 := [27, 184, 2, 103, 153, 0, 13, 28, 4, 16, 90, 184, 1, 115, 154, 0, 5, 3, 172, 42, 180, 0, 244, 27, 28, 79, 4, 172]
theorem kX12_sea_0 (j : Nat) {b : UInt8} (hj : bX12_sea_0[j]? = some b) : AtB cX12_sea (0 + j) b := at_of32 (by decide +kernel) j hj
theorem dX12_sea_0 : decode cX12_sea 0 = .ok (.iload_n 1, 1) := dq_27 (kX12_sea_0 0 rfl)
theorem dX12_sea_1 : decode cX12_sea 1 = .ok (.invokestatic 615, 3) := dq_184 (kX12_sea_0 1 rfl) (kX12_sea_0 2 rfl) (kX12_sea_0 3 rfl) rfl
theorem dX12_sea_4 : decode cX12_sea 4 = .ok (.ifCond .eq 13, 3) := dq_153 (kX12_sea_0 4 rfl) (kX12_sea_0 5 rfl) (kX12_sea_0 6 rfl) (by decide)
theorem dX12_sea_7 : decode cX12_sea 7 = .ok (.iload_n 2, 1) := dq_28 (kX12_sea_0 7 rfl)
theorem dX12_sea_8 : decode cX12_sea 8 = .ok (.iconst 1, 1) := dq_4 (kX12_sea_0 8 rfl)
theorem dX12_sea_9 : decode cX12_sea 9 = .ok (.bipush 90, 2) := dq_16 (kX12_sea_0 9 rfl) (kX12_sea_0 10 rfl) (by decide)
theorem dX12_sea_11 : decode cX12_sea 11 = .ok (.invokestatic 371, 3) := dq_184 (kX12_sea_0 11 rfl) (kX12_sea_0 12 rfl) (kX12_sea_0 13 rfl) rfl
theorem dX12_sea_14 : decode cX12_sea 14 = .ok (.ifCond .ne 5, 3) := dq_154 (kX12_sea_0 14 rfl) (kX12_sea_0 15 rfl) (kX12_sea_0 16 rfl) (by decide)
theorem dX12_sea_17 : decode cX12_sea 17 = .ok (.iconst 0, 1) := dq_3 (kX12_sea_0 17 rfl)
theorem dX12_sea_18 : decode cX12_sea 18 = .ok (.ireturn, 1) := dq_172 (kX12_sea_0 18 rfl)
theorem dX12_sea_19 : decode cX12_sea 19 = .ok (.aload_n 0, 1) := dq_42 (kX12_sea_0 19 rfl)
theorem dX12_sea_20 : decode cX12_sea 20 = .ok (.getfield 244, 3) := dq_180 (kX12_sea_0 20 rfl) (kX12_sea_0 21 rfl) (kX12_sea_0 22 rfl) rfl
theorem dX12_sea_23 : decode cX12_sea 23 = .ok (.iload_n 1, 1) := dq_27 (kX12_sea_0 23 rfl)
theorem dX12_sea_24 : decode cX12_sea 24 = .ok (.iload_n 2, 1) := dq_28 (kX12_sea_0 24 rfl)
theorem dX12_sea_25 : decode cX12_sea 25 = .ok (.iastore, 1) := dq_79 (kX12_sea_0 25 rfl)
theorem dX12_sea_26 : decode cX12_sea 26 = .ok (.iconst 1, 1) := dq_4 (kX12_sea_0 26 rfl)
theorem dX12_sea_27 : decode cX12_sea 27 = .ok (.ireturn, 1) := dq_172 (kX12_sea_0 27 rfl)

def bX12_voyage_0 : List UInt8 := [42, 27, 182, 2, 106, 153, 0, 55, 42, 180, 0, 217, 27, 46, 154, 0, 46, 28, 184, 2, 103, 153, 0, 39, 42, 29, 182, 1, 177, 153, 0, 31]
theorem kX12_voyage_0 (j : Nat) {b : UInt8} (hj : bX12_voyage_0[j]? = some b) : AtB cX12_voyage (0 + j) b := at_of32 (by decide +kernel) j hj
def bX12_voyage_1 : List UInt8 := [42, 42, 180, 0, 41, 29, 46, 182, 2, 109, 153, 0, 18, 21, 4, 3, 42, 180, 0, 211, 27, 46, 184, 1, 115, 154, 0, 5, 3, 172, 42, 180]
theorem kX12_voyage_1 (j : Nat) {b : UInt8} (hj : bX12_voyage_1[j]? = some b) : AtB cX12_voyage (32 + j) b := at_of32 (by decide +kernel) j hj
def bX12_voyage_2 : List UInt8 := [0, 217, 27, 4, 79, 42, 180, 0, 220, 27, 21, 4, 79, 42, 180, 0, 223, 27, 3, 79, 42, 180, 0, 229, 27, 3, 79, 42, 180, 0, 232, 27]
theorem kX12_voyage_2 (j : Nat) {b : UInt8} (hj : bX12_voyage_2[j]? = some b) : AtB cX12_voyage (64 + j) b := at_of32 (by decide +kernel) j hj
def bX12_voyage_3 : List UInt8 := [28, 79, 42, 180, 0, 235, 27, 29, 79, 42, 180, 0, 238, 27, 42, 180, 0, 244, 28, 46, 79, 42, 180, 0, 226, 27, 42, 180, 1, 140, 42, 180]
theorem kX12_voyage_3 (j : Nat) {b : UInt8} (hj : bX12_voyage_3[j]? = some b) : AtB cX12_voyage (96 + j) b := at_of32 (by decide +kernel) j hj
def bX12_voyage_4 : List UInt8 := [0, 244, 28, 46, 96, 79, 42, 42, 180, 1, 173, 21, 4, 133, 97, 181, 1, 173, 4, 172]
theorem kX12_voyage_4 (j : Nat) {b : UInt8} (hj : bX12_voyage_4[j]? = some b) : AtB cX12_voyage (128 + j) b := at_of32 (by decide +kernel) j hj
theorem dX12_voyage_0 : decode cX12_voyage 0 = .ok (.aload_n 0, 1) := dq_42 (kX12_voyage_0 0 rfl)
theorem dX12_voyage_1 : decode cX12_voyage 1 = .ok (.iload_n 1, 1) := dq_27 (kX12_voyage_0 1 rfl)
theorem dX12_voyage_2 : decode cX12_voyage 2 = .ok (.invokevirtual 618, 3) := dq_182 (kX12_voyage_0 2 rfl) (kX12_voyage_0 3 rfl) (kX12_voyage_0 4 rfl) rfl
theorem dX12_voyage_5 : decode cX12_voyage 5 = .ok (.ifCond .eq 55, 3) := dq_153 (kX12_voyage_0 5 rfl) (kX12_voyage_0 6 rfl) (kX12_voyage_0 7 rfl) (by decide)
theorem dX12_voyage_8 : decode cX12_voyage 8 = .ok (.aload_n 0, 1) := dq_42 (kX12_voyage_0 8 rfl)
theorem dX12_voyage_9 : decode cX12_voyage 9 = .ok (.getfield 217, 3) := dq_180 (kX12_voyage_0 9 rfl) (kX12_voyage_0 10 rfl) (kX12_voyage_0 11 rfl) rfl
theorem dX12_voyage_12 : decode cX12_voyage 12 = .ok (.iload_n 1, 1) := dq_27 (kX12_voyage_0 12 rfl)
theorem dX12_voyage_13 : decode cX12_voyage 13 = .ok (.iaload, 1) := dq_46 (kX12_voyage_0 13 rfl)
theorem dX12_voyage_14 : decode cX12_voyage 14 = .ok (.ifCond .ne 46, 3) := dq_154 (kX12_voyage_0 14 rfl) (kX12_voyage_0 15 rfl) (kX12_voyage_0 16 rfl) (by decide)
theorem dX12_voyage_17 : decode cX12_voyage 17 = .ok (.iload_n 2, 1) := dq_28 (kX12_voyage_0 17 rfl)
theorem dX12_voyage_18 : decode cX12_voyage 18 = .ok (.invokestatic 615, 3) := dq_184 (kX12_voyage_0 18 rfl) (kX12_voyage_0 19 rfl) (kX12_voyage_0 20 rfl) rfl
theorem dX12_voyage_21 : decode cX12_voyage 21 = .ok (.ifCond .eq 39, 3) := dq_153 (kX12_voyage_0 21 rfl) (kX12_voyage_0 22 rfl) (kX12_voyage_0 23 rfl) (by decide)
theorem dX12_voyage_24 : decode cX12_voyage 24 = .ok (.aload_n 0, 1) := dq_42 (kX12_voyage_0 24 rfl)
theorem dX12_voyage_25 : decode cX12_voyage 25 = .ok (.iload_n 3, 1) := dq_29 (kX12_voyage_0 25 rfl)
theorem dX12_voyage_26 : decode cX12_voyage 26 = .ok (.invokevirtual 433, 3) := dq_182 (kX12_voyage_0 26 rfl) (kX12_voyage_0 27 rfl) (kX12_voyage_0 28 rfl) rfl
theorem dX12_voyage_29 : decode cX12_voyage 29 = .ok (.ifCond .eq 31, 3) := dq_153 (kX12_voyage_0 29 rfl) (kX12_voyage_0 30 rfl) (kX12_voyage_0 31 rfl) (by decide)
theorem dX12_voyage_32 : decode cX12_voyage 32 = .ok (.aload_n 0, 1) := dq_42 (kX12_voyage_1 0 rfl)
theorem dX12_voyage_33 : decode cX12_voyage 33 = .ok (.aload_n 0, 1) := dq_42 (kX12_voyage_1 1 rfl)
theorem dX12_voyage_34 : decode cX12_voyage 34 = .ok (.getfield 41, 3) := dq_180 (kX12_voyage_1 2 rfl) (kX12_voyage_1 3 rfl) (kX12_voyage_1 4 rfl) rfl
theorem dX12_voyage_37 : decode cX12_voyage 37 = .ok (.iload_n 3, 1) := dq_29 (kX12_voyage_1 5 rfl)
theorem dX12_voyage_38 : decode cX12_voyage 38 = .ok (.iaload, 1) := dq_46 (kX12_voyage_1 6 rfl)
theorem dX12_voyage_39 : decode cX12_voyage 39 = .ok (.invokevirtual 621, 3) := dq_182 (kX12_voyage_1 7 rfl) (kX12_voyage_1 8 rfl) (kX12_voyage_1 9 rfl) rfl
theorem dX12_voyage_42 : decode cX12_voyage 42 = .ok (.ifCond .eq 18, 3) := dq_153 (kX12_voyage_1 10 rfl) (kX12_voyage_1 11 rfl) (kX12_voyage_1 12 rfl) (by decide)
theorem dX12_voyage_45 : decode cX12_voyage 45 = .ok (.iload 4, 2) := dq_21 (kX12_voyage_1 13 rfl) (kX12_voyage_1 14 rfl) rfl
theorem dX12_voyage_47 : decode cX12_voyage 47 = .ok (.iconst 0, 1) := dq_3 (kX12_voyage_1 15 rfl)
theorem dX12_voyage_48 : decode cX12_voyage 48 = .ok (.aload_n 0, 1) := dq_42 (kX12_voyage_1 16 rfl)
theorem dX12_voyage_49 : decode cX12_voyage 49 = .ok (.getfield 211, 3) := dq_180 (kX12_voyage_1 17 rfl) (kX12_voyage_1 18 rfl) (kX12_voyage_1 19 rfl) rfl
theorem dX12_voyage_52 : decode cX12_voyage 52 = .ok (.iload_n 1, 1) := dq_27 (kX12_voyage_1 20 rfl)
theorem dX12_voyage_53 : decode cX12_voyage 53 = .ok (.iaload, 1) := dq_46 (kX12_voyage_1 21 rfl)
theorem dX12_voyage_54 : decode cX12_voyage 54 = .ok (.invokestatic 371, 3) := dq_184 (kX12_voyage_1 22 rfl) (kX12_voyage_1 23 rfl) (kX12_voyage_1 24 rfl) rfl
theorem dX12_voyage_57 : decode cX12_voyage 57 = .ok (.ifCond .ne 5, 3) := dq_154 (kX12_voyage_1 25 rfl) (kX12_voyage_1 26 rfl) (kX12_voyage_1 27 rfl) (by decide)
theorem dX12_voyage_60 : decode cX12_voyage 60 = .ok (.iconst 0, 1) := dq_3 (kX12_voyage_1 28 rfl)
theorem dX12_voyage_61 : decode cX12_voyage 61 = .ok (.ireturn, 1) := dq_172 (kX12_voyage_1 29 rfl)
theorem dX12_voyage_62 : decode cX12_voyage 62 = .ok (.aload_n 0, 1) := dq_42 (kX12_voyage_1 30 rfl)
theorem dX12_voyage_63 : decode cX12_voyage 63 = .ok (.getfield 217, 3) := dq_180 (kX12_voyage_1 31 rfl) (kX12_voyage_2 0 rfl) (kX12_voyage_2 1 rfl) rfl
theorem dX12_voyage_66 : decode cX12_voyage 66 = .ok (.iload_n 1, 1) := dq_27 (kX12_voyage_2 2 rfl)
theorem dX12_voyage_67 : decode cX12_voyage 67 = .ok (.iconst 1, 1) := dq_4 (kX12_voyage_2 3 rfl)
theorem dX12_voyage_68 : decode cX12_voyage 68 = .ok (.iastore, 1) := dq_79 (kX12_voyage_2 4 rfl)
theorem dX12_voyage_69 : decode cX12_voyage 69 = .ok (.aload_n 0, 1) := dq_42 (kX12_voyage_2 5 rfl)
theorem dX12_voyage_70 : decode cX12_voyage 70 = .ok (.getfield 220, 3) := dq_180 (kX12_voyage_2 6 rfl) (kX12_voyage_2 7 rfl) (kX12_voyage_2 8 rfl) rfl
theorem dX12_voyage_73 : decode cX12_voyage 73 = .ok (.iload_n 1, 1) := dq_27 (kX12_voyage_2 9 rfl)
theorem dX12_voyage_74 : decode cX12_voyage 74 = .ok (.iload 4, 2) := dq_21 (kX12_voyage_2 10 rfl) (kX12_voyage_2 11 rfl) rfl
theorem dX12_voyage_76 : decode cX12_voyage 76 = .ok (.iastore, 1) := dq_79 (kX12_voyage_2 12 rfl)
theorem dX12_voyage_77 : decode cX12_voyage 77 = .ok (.aload_n 0, 1) := dq_42 (kX12_voyage_2 13 rfl)
theorem dX12_voyage_78 : decode cX12_voyage 78 = .ok (.getfield 223, 3) := dq_180 (kX12_voyage_2 14 rfl) (kX12_voyage_2 15 rfl) (kX12_voyage_2 16 rfl) rfl
theorem dX12_voyage_81 : decode cX12_voyage 81 = .ok (.iload_n 1, 1) := dq_27 (kX12_voyage_2 17 rfl)
theorem dX12_voyage_82 : decode cX12_voyage 82 = .ok (.iconst 0, 1) := dq_3 (kX12_voyage_2 18 rfl)
theorem dX12_voyage_83 : decode cX12_voyage 83 = .ok (.iastore, 1) := dq_79 (kX12_voyage_2 19 rfl)
theorem dX12_voyage_84 : decode cX12_voyage 84 = .ok (.aload_n 0, 1) := dq_42 (kX12_voyage_2 20 rfl)
theorem dX12_voyage_85 : decode cX12_voyage 85 = .ok (.getfield 229, 3) := dq_180 (kX12_voyage_2 21 rfl) (kX12_voyage_2 22 rfl) (kX12_voyage_2 23 rfl) rfl
theorem dX12_voyage_88 : decode cX12_voyage 88 = .ok (.iload_n 1, 1) := dq_27 (kX12_voyage_2 24 rfl)
theorem dX12_voyage_89 : decode cX12_voyage 89 = .ok (.iconst 0, 1) := dq_3 (kX12_voyage_2 25 rfl)
theorem dX12_voyage_90 : decode cX12_voyage 90 = .ok (.iastore, 1) := dq_79 (kX12_voyage_2 26 rfl)
theorem dX12_voyage_91 : decode cX12_voyage 91 = .ok (.aload_n 0, 1) := dq_42 (kX12_voyage_2 27 rfl)
theorem dX12_voyage_92 : decode cX12_voyage 92 = .ok (.getfield 232, 3) := dq_180 (kX12_voyage_2 28 rfl) (kX12_voyage_2 29 rfl) (kX12_voyage_2 30 rfl) rfl
theorem dX12_voyage_95 : decode cX12_voyage 95 = .ok (.iload_n 1, 1) := dq_27 (kX12_voyage_2 31 rfl)
theorem dX12_voyage_96 : decode cX12_voyage 96 = .ok (.iload_n 2, 1) := dq_28 (kX12_voyage_3 0 rfl)
theorem dX12_voyage_97 : decode cX12_voyage 97 = .ok (.iastore, 1) := dq_79 (kX12_voyage_3 1 rfl)
theorem dX12_voyage_98 : decode cX12_voyage 98 = .ok (.aload_n 0, 1) := dq_42 (kX12_voyage_3 2 rfl)
theorem dX12_voyage_99 : decode cX12_voyage 99 = .ok (.getfield 235, 3) := dq_180 (kX12_voyage_3 3 rfl) (kX12_voyage_3 4 rfl) (kX12_voyage_3 5 rfl) rfl
theorem dX12_voyage_102 : decode cX12_voyage 102 = .ok (.iload_n 1, 1) := dq_27 (kX12_voyage_3 6 rfl)
theorem dX12_voyage_103 : decode cX12_voyage 103 = .ok (.iload_n 3, 1) := dq_29 (kX12_voyage_3 7 rfl)
theorem dX12_voyage_104 : decode cX12_voyage 104 = .ok (.iastore, 1) := dq_79 (kX12_voyage_3 8 rfl)
theorem dX12_voyage_105 : decode cX12_voyage 105 = .ok (.aload_n 0, 1) := dq_42 (kX12_voyage_3 9 rfl)
theorem dX12_voyage_106 : decode cX12_voyage 106 = .ok (.getfield 238, 3) := dq_180 (kX12_voyage_3 10 rfl) (kX12_voyage_3 11 rfl) (kX12_voyage_3 12 rfl) rfl
theorem dX12_voyage_109 : decode cX12_voyage 109 = .ok (.iload_n 1, 1) := dq_27 (kX12_voyage_3 13 rfl)
theorem dX12_voyage_110 : decode cX12_voyage 110 = .ok (.aload_n 0, 1) := dq_42 (kX12_voyage_3 14 rfl)
theorem dX12_voyage_111 : decode cX12_voyage 111 = .ok (.getfield 244, 3) := dq_180 (kX12_voyage_3 15 rfl) (kX12_voyage_3 16 rfl) (kX12_voyage_3 17 rfl) rfl
theorem dX12_voyage_114 : decode cX12_voyage 114 = .ok (.iload_n 2, 1) := dq_28 (kX12_voyage_3 18 rfl)
theorem dX12_voyage_115 : decode cX12_voyage 115 = .ok (.iaload, 1) := dq_46 (kX12_voyage_3 19 rfl)
theorem dX12_voyage_116 : decode cX12_voyage 116 = .ok (.iastore, 1) := dq_79 (kX12_voyage_3 20 rfl)
theorem dX12_voyage_117 : decode cX12_voyage 117 = .ok (.aload_n 0, 1) := dq_42 (kX12_voyage_3 21 rfl)
theorem dX12_voyage_118 : decode cX12_voyage 118 = .ok (.getfield 226, 3) := dq_180 (kX12_voyage_3 22 rfl) (kX12_voyage_3 23 rfl) (kX12_voyage_3 24 rfl) rfl
theorem dX12_voyage_121 : decode cX12_voyage 121 = .ok (.iload_n 1, 1) := dq_27 (kX12_voyage_3 25 rfl)
theorem dX12_voyage_122 : decode cX12_voyage 122 = .ok (.aload_n 0, 1) := dq_42 (kX12_voyage_3 26 rfl)
theorem dX12_voyage_123 : decode cX12_voyage 123 = .ok (.getfield 396, 3) := dq_180 (kX12_voyage_3 27 rfl) (kX12_voyage_3 28 rfl) (kX12_voyage_3 29 rfl) rfl
theorem dX12_voyage_126 : decode cX12_voyage 126 = .ok (.aload_n 0, 1) := dq_42 (kX12_voyage_3 30 rfl)
theorem dX12_voyage_127 : decode cX12_voyage 127 = .ok (.getfield 244, 3) := dq_180 (kX12_voyage_3 31 rfl) (kX12_voyage_4 0 rfl) (kX12_voyage_4 1 rfl) rfl
theorem dX12_voyage_130 : decode cX12_voyage 130 = .ok (.iload_n 2, 1) := dq_28 (kX12_voyage_4 2 rfl)
theorem dX12_voyage_131 : decode cX12_voyage 131 = .ok (.iaload, 1) := dq_46 (kX12_voyage_4 3 rfl)
theorem dX12_voyage_132 : decode cX12_voyage 132 = .ok (.iadd, 1) := dq_96 (kX12_voyage_4 4 rfl)
theorem dX12_voyage_133 : decode cX12_voyage 133 = .ok (.iastore, 1) := dq_79 (kX12_voyage_4 5 rfl)
theorem dX12_voyage_134 : decode cX12_voyage 134 = .ok (.aload_n 0, 1) := dq_42 (kX12_voyage_4 6 rfl)
theorem dX12_voyage_135 : decode cX12_voyage 135 = .ok (.aload_n 0, 1) := dq_42 (kX12_voyage_4 7 rfl)
theorem dX12_voyage_136 : decode cX12_voyage 136 = .ok (.getfield 429, 3) := dq_180 (kX12_voyage_4 8 rfl) (kX12_voyage_4 9 rfl) (kX12_voyage_4 10 rfl) rfl
theorem dX12_voyage_139 : decode cX12_voyage 139 = .ok (.iload 4, 2) := dq_21 (kX12_voyage_4 11 rfl) (kX12_voyage_4 12 rfl) rfl
theorem dX12_voyage_141 : decode cX12_voyage 141 = .ok (.i2l, 1) := dq_133 (kX12_voyage_4 13 rfl)
theorem dX12_voyage_142 : decode cX12_voyage 142 = .ok (.ladd, 1) := dq_97 (kX12_voyage_4 14 rfl)
theorem dX12_voyage_143 : decode cX12_voyage 143 = .ok (.putfield 429, 3) := dq_181 (kX12_voyage_4 15 rfl) (kX12_voyage_4 16 rfl) (kX12_voyage_4 17 rfl) rfl
theorem dX12_voyage_146 : decode cX12_voyage 146 = .ok (.iconst 1, 1) := dq_4 (kX12_voyage_4 18 rfl)
theorem dX12_voyage_147 : decode cX12_voyage 147 = .ok (.ireturn, 1) := dq_172 (kX12_voyage_4 19 rfl)

def bX12_turnsBack_0 : List UInt8 := [42, 180, 0, 217, 27, 6, 79, 42, 180, 0, 226, 27, 42, 180, 1, 140, 42, 180, 0, 238, 27, 46, 96, 79, 177]
theorem kX12_turnsBack_0 (j : Nat) {b : UInt8} (hj : bX12_turnsBack_0[j]? = some b) : AtB cX12_turnsBack (0 + j) b := at_of32 (by decide +kernel) j hj
theorem dX12_turnsBack_0 : decode cX12_turnsBack 0 = .ok (.aload_n 0, 1) := dq_42 (kX12_turnsBack_0 0 rfl)
theorem dX12_turnsBack_1 : decode cX12_turnsBack 1 = .ok (.getfield 217, 3) := dq_180 (kX12_turnsBack_0 1 rfl) (kX12_turnsBack_0 2 rfl) (kX12_turnsBack_0 3 rfl) rfl
theorem dX12_turnsBack_4 : decode cX12_turnsBack 4 = .ok (.iload_n 1, 1) := dq_27 (kX12_turnsBack_0 4 rfl)
theorem dX12_turnsBack_5 : decode cX12_turnsBack 5 = .ok (.iconst 3, 1) := dq_6 (kX12_turnsBack_0 5 rfl)
theorem dX12_turnsBack_6 : decode cX12_turnsBack 6 = .ok (.iastore, 1) := dq_79 (kX12_turnsBack_0 6 rfl)
theorem dX12_turnsBack_7 : decode cX12_turnsBack 7 = .ok (.aload_n 0, 1) := dq_42 (kX12_turnsBack_0 7 rfl)
theorem dX12_turnsBack_8 : decode cX12_turnsBack 8 = .ok (.getfield 226, 3) := dq_180 (kX12_turnsBack_0 8 rfl) (kX12_turnsBack_0 9 rfl) (kX12_turnsBack_0 10 rfl) rfl
theorem dX12_turnsBack_11 : decode cX12_turnsBack 11 = .ok (.iload_n 1, 1) := dq_27 (kX12_turnsBack_0 11 rfl)
theorem dX12_turnsBack_12 : decode cX12_turnsBack 12 = .ok (.aload_n 0, 1) := dq_42 (kX12_turnsBack_0 12 rfl)
theorem dX12_turnsBack_13 : decode cX12_turnsBack 13 = .ok (.getfield 396, 3) := dq_180 (kX12_turnsBack_0 13 rfl) (kX12_turnsBack_0 14 rfl) (kX12_turnsBack_0 15 rfl) rfl
theorem dX12_turnsBack_16 : decode cX12_turnsBack 16 = .ok (.aload_n 0, 1) := dq_42 (kX12_turnsBack_0 16 rfl)
theorem dX12_turnsBack_17 : decode cX12_turnsBack 17 = .ok (.getfield 238, 3) := dq_180 (kX12_turnsBack_0 17 rfl) (kX12_turnsBack_0 18 rfl) (kX12_turnsBack_0 19 rfl) rfl
theorem dX12_turnsBack_20 : decode cX12_turnsBack 20 = .ok (.iload_n 1, 1) := dq_27 (kX12_turnsBack_0 20 rfl)
theorem dX12_turnsBack_21 : decode cX12_turnsBack 21 = .ok (.iaload, 1) := dq_46 (kX12_turnsBack_0 21 rfl)
theorem dX12_turnsBack_22 : decode cX12_turnsBack 22 = .ok (.iadd, 1) := dq_96 (kX12_turnsBack_0 22 rfl)
theorem dX12_turnsBack_23 : decode cX12_turnsBack 23 = .ok (.iastore, 1) := dq_79 (kX12_turnsBack_0 23 rfl)
theorem dX12_turnsBack_24 : decode cX12_turnsBack 24 = .ok (.return_, 1) := dq_177 (kX12_turnsBack_0 24 rfl)

def bX12_arrives_0 : List UInt8 := [42, 180, 0, 235, 27, 46, 61, 42, 180, 0, 80, 28, 51, 154, 0, 16, 42, 42, 180, 0, 41, 28, 46, 182, 2, 109, 154, 0, 9, 42, 27, 182]
theorem kX12_arrives_0 (j : Nat) {b : UInt8} (hj : bX12_arrives_0[j]? = some b) : AtB cX12_arrives (0 + j) b := at_of32 (by decide +kernel) j hj
def bX12_arrives_1 : List UInt8 := [2, 112, 177, 42, 180, 0, 56, 28, 42, 180, 0, 56, 28, 46, 42, 180, 0, 220, 27, 46, 96, 79, 42, 180, 0, 220, 27, 3, 79, 6, 62, 29]
theorem kX12_arrives_1 (j : Nat) {b : UInt8} (hj : bX12_arrives_1[j]? = some b) : AtB cX12_arrives (32 + j) b := at_of32 (by decide +kernel) j hj
def bX12_arrives_2 : List UInt8 := [155, 0, 94, 42, 180, 0, 211, 27, 46, 42, 180, 0, 223, 27, 46, 100, 54, 4, 42, 180, 0, 65, 7, 28, 104, 29, 96, 46, 21, 4, 162, 0]
theorem kX12_arrives_2 (j : Nat) {b : UInt8} (hj : bX12_arrives_2[j]? = some b) : AtB cX12_arrives (64 + j) b := at_of32 (by decide +kernel) j hj
def bX12_arrives_3 : List UInt8 := [16, 42, 180, 0, 65, 7, 28, 104, 29, 96, 46, 167, 0, 5, 21, 4, 54, 5, 42, 180, 0, 65, 7, 28, 104, 29, 96, 42, 180, 0, 65, 7]
theorem kX12_arrives_3 (j : Nat) {b : UInt8} (hj : bX12_arrives_3[j]? = some b) : AtB cX12_arrives (96 + j) b := at_of32 (by decide +kernel) j hj
def bX12_arrives_4 : List UInt8 := [28, 104, 29, 96, 46, 21, 5, 100, 79, 42, 180, 0, 223, 27, 42, 180, 0, 223, 27, 46, 21, 5, 96, 79, 132, 3, 255, 167, 255, 164, 42, 27]
theorem kX12_arrives_4 (j : Nat) {b : UInt8} (hj : bX12_arrives_4[j]? = some b) : AtB cX12_arrives (128 + j) b := at_of32 (by decide +kernel) j hj
def bX12_arrives_5 : List UInt8 := [182, 2, 112, 177]
theorem kX12_arrives_5 (j : Nat) {b : UInt8} (hj : bX12_arrives_5[j]? = some b) : AtB cX12_arrives (160 + j) b := at_of32 (by decide +kernel) j hj
theorem dX12_arrives_0 : decode cX12_arrives 0 = .ok (.aload_n 0, 1) := dq_42 (kX12_arrives_0 0 rfl)
theorem dX12_arrives_1 : decode cX12_arrives 1 = .ok (.getfield 235, 3) := dq_180 (kX12_arrives_0 1 rfl) (kX12_arrives_0 2 rfl) (kX12_arrives_0 3 rfl) rfl
theorem dX12_arrives_4 : decode cX12_arrives 4 = .ok (.iload_n 1, 1) := dq_27 (kX12_arrives_0 4 rfl)
theorem dX12_arrives_5 : decode cX12_arrives 5 = .ok (.iaload, 1) := dq_46 (kX12_arrives_0 5 rfl)
theorem dX12_arrives_6 : decode cX12_arrives 6 = .ok (.istore_n 2, 1) := dq_61 (kX12_arrives_0 6 rfl)
theorem dX12_arrives_7 : decode cX12_arrives 7 = .ok (.aload_n 0, 1) := dq_42 (kX12_arrives_0 7 rfl)
theorem dX12_arrives_8 : decode cX12_arrives 8 = .ok (.getfield 80, 3) := dq_180 (kX12_arrives_0 8 rfl) (kX12_arrives_0 9 rfl) (kX12_arrives_0 10 rfl) rfl
theorem dX12_arrives_11 : decode cX12_arrives 11 = .ok (.iload_n 2, 1) := dq_28 (kX12_arrives_0 11 rfl)
theorem dX12_arrives_12 : decode cX12_arrives 12 = .ok (.baload, 1) := dq_51 (kX12_arrives_0 12 rfl)
theorem dX12_arrives_13 : decode cX12_arrives 13 = .ok (.ifCond .ne 16, 3) := dq_154 (kX12_arrives_0 13 rfl) (kX12_arrives_0 14 rfl) (kX12_arrives_0 15 rfl) (by decide)
theorem dX12_arrives_16 : decode cX12_arrives 16 = .ok (.aload_n 0, 1) := dq_42 (kX12_arrives_0 16 rfl)
theorem dX12_arrives_17 : decode cX12_arrives 17 = .ok (.aload_n 0, 1) := dq_42 (kX12_arrives_0 17 rfl)
theorem dX12_arrives_18 : decode cX12_arrives 18 = .ok (.getfield 41, 3) := dq_180 (kX12_arrives_0 18 rfl) (kX12_arrives_0 19 rfl) (kX12_arrives_0 20 rfl) rfl
theorem dX12_arrives_21 : decode cX12_arrives 21 = .ok (.iload_n 2, 1) := dq_28 (kX12_arrives_0 21 rfl)
theorem dX12_arrives_22 : decode cX12_arrives 22 = .ok (.iaload, 1) := dq_46 (kX12_arrives_0 22 rfl)
theorem dX12_arrives_23 : decode cX12_arrives 23 = .ok (.invokevirtual 621, 3) := dq_182 (kX12_arrives_0 23 rfl) (kX12_arrives_0 24 rfl) (kX12_arrives_0 25 rfl) rfl
theorem dX12_arrives_26 : decode cX12_arrives 26 = .ok (.ifCond .ne 9, 3) := dq_154 (kX12_arrives_0 26 rfl) (kX12_arrives_0 27 rfl) (kX12_arrives_0 28 rfl) (by decide)
theorem dX12_arrives_29 : decode cX12_arrives 29 = .ok (.aload_n 0, 1) := dq_42 (kX12_arrives_0 29 rfl)
theorem dX12_arrives_30 : decode cX12_arrives 30 = .ok (.iload_n 1, 1) := dq_27 (kX12_arrives_0 30 rfl)
theorem dX12_arrives_31 : decode cX12_arrives 31 = .ok (.invokevirtual 624, 3) := dq_182 (kX12_arrives_0 31 rfl) (kX12_arrives_1 0 rfl) (kX12_arrives_1 1 rfl) rfl
theorem dX12_arrives_34 : decode cX12_arrives 34 = .ok (.return_, 1) := dq_177 (kX12_arrives_1 2 rfl)
theorem dX12_arrives_35 : decode cX12_arrives 35 = .ok (.aload_n 0, 1) := dq_42 (kX12_arrives_1 3 rfl)
theorem dX12_arrives_36 : decode cX12_arrives 36 = .ok (.getfield 56, 3) := dq_180 (kX12_arrives_1 4 rfl) (kX12_arrives_1 5 rfl) (kX12_arrives_1 6 rfl) rfl
theorem dX12_arrives_39 : decode cX12_arrives 39 = .ok (.iload_n 2, 1) := dq_28 (kX12_arrives_1 7 rfl)
theorem dX12_arrives_40 : decode cX12_arrives 40 = .ok (.aload_n 0, 1) := dq_42 (kX12_arrives_1 8 rfl)
theorem dX12_arrives_41 : decode cX12_arrives 41 = .ok (.getfield 56, 3) := dq_180 (kX12_arrives_1 9 rfl) (kX12_arrives_1 10 rfl) (kX12_arrives_1 11 rfl) rfl
theorem dX12_arrives_44 : decode cX12_arrives 44 = .ok (.iload_n 2, 1) := dq_28 (kX12_arrives_1 12 rfl)
theorem dX12_arrives_45 : decode cX12_arrives 45 = .ok (.iaload, 1) := dq_46 (kX12_arrives_1 13 rfl)
theorem dX12_arrives_46 : decode cX12_arrives 46 = .ok (.aload_n 0, 1) := dq_42 (kX12_arrives_1 14 rfl)
theorem dX12_arrives_47 : decode cX12_arrives 47 = .ok (.getfield 220, 3) := dq_180 (kX12_arrives_1 15 rfl) (kX12_arrives_1 16 rfl) (kX12_arrives_1 17 rfl) rfl
theorem dX12_arrives_50 : decode cX12_arrives 50 = .ok (.iload_n 1, 1) := dq_27 (kX12_arrives_1 18 rfl)
theorem dX12_arrives_51 : decode cX12_arrives 51 = .ok (.iaload, 1) := dq_46 (kX12_arrives_1 19 rfl)
theorem dX12_arrives_52 : decode cX12_arrives 52 = .ok (.iadd, 1) := dq_96 (kX12_arrives_1 20 rfl)
theorem dX12_arrives_53 : decode cX12_arrives 53 = .ok (.iastore, 1) := dq_79 (kX12_arrives_1 21 rfl)
theorem dX12_arrives_54 : decode cX12_arrives 54 = .ok (.aload_n 0, 1) := dq_42 (kX12_arrives_1 22 rfl)
theorem dX12_arrives_55 : decode cX12_arrives 55 = .ok (.getfield 220, 3) := dq_180 (kX12_arrives_1 23 rfl) (kX12_arrives_1 24 rfl) (kX12_arrives_1 25 rfl) rfl
theorem dX12_arrives_58 : decode cX12_arrives 58 = .ok (.iload_n 1, 1) := dq_27 (kX12_arrives_1 26 rfl)
theorem dX12_arrives_59 : decode cX12_arrives 59 = .ok (.iconst 0, 1) := dq_3 (kX12_arrives_1 27 rfl)
theorem dX12_arrives_60 : decode cX12_arrives 60 = .ok (.iastore, 1) := dq_79 (kX12_arrives_1 28 rfl)
theorem dX12_arrives_61 : decode cX12_arrives 61 = .ok (.iconst 3, 1) := dq_6 (kX12_arrives_1 29 rfl)
theorem dX12_arrives_62 : decode cX12_arrives 62 = .ok (.istore_n 3, 1) := dq_62 (kX12_arrives_1 30 rfl)
theorem dX12_arrives_63 : decode cX12_arrives 63 = .ok (.iload_n 3, 1) := dq_29 (kX12_arrives_1 31 rfl)
theorem dX12_arrives_64 : decode cX12_arrives 64 = .ok (.ifCond .lt 94, 3) := dq_155 (kX12_arrives_2 0 rfl) (kX12_arrives_2 1 rfl) (kX12_arrives_2 2 rfl) (by decide)
theorem dX12_arrives_67 : decode cX12_arrives 67 = .ok (.aload_n 0, 1) := dq_42 (kX12_arrives_2 3 rfl)
theorem dX12_arrives_68 : decode cX12_arrives 68 = .ok (.getfield 211, 3) := dq_180 (kX12_arrives_2 4 rfl) (kX12_arrives_2 5 rfl) (kX12_arrives_2 6 rfl) rfl
theorem dX12_arrives_71 : decode cX12_arrives 71 = .ok (.iload_n 1, 1) := dq_27 (kX12_arrives_2 7 rfl)
theorem dX12_arrives_72 : decode cX12_arrives 72 = .ok (.iaload, 1) := dq_46 (kX12_arrives_2 8 rfl)
theorem dX12_arrives_73 : decode cX12_arrives 73 = .ok (.aload_n 0, 1) := dq_42 (kX12_arrives_2 9 rfl)
theorem dX12_arrives_74 : decode cX12_arrives 74 = .ok (.getfield 223, 3) := dq_180 (kX12_arrives_2 10 rfl) (kX12_arrives_2 11 rfl) (kX12_arrives_2 12 rfl) rfl
theorem dX12_arrives_77 : decode cX12_arrives 77 = .ok (.iload_n 1, 1) := dq_27 (kX12_arrives_2 13 rfl)
theorem dX12_arrives_78 : decode cX12_arrives 78 = .ok (.iaload, 1) := dq_46 (kX12_arrives_2 14 rfl)
theorem dX12_arrives_79 : decode cX12_arrives 79 = .ok (.isub, 1) := dq_100 (kX12_arrives_2 15 rfl)
theorem dX12_arrives_80 : decode cX12_arrives 80 = .ok (.istore 4, 2) := dq_54 (kX12_arrives_2 16 rfl) (kX12_arrives_2 17 rfl) rfl
theorem dX12_arrives_82 : decode cX12_arrives 82 = .ok (.aload_n 0, 1) := dq_42 (kX12_arrives_2 18 rfl)
theorem dX12_arrives_83 : decode cX12_arrives 83 = .ok (.getfield 65, 3) := dq_180 (kX12_arrives_2 19 rfl) (kX12_arrives_2 20 rfl) (kX12_arrives_2 21 rfl) rfl
theorem dX12_arrives_86 : decode cX12_arrives 86 = .ok (.iconst 4, 1) := dq_7 (kX12_arrives_2 22 rfl)
theorem dX12_arrives_87 : decode cX12_arrives 87 = .ok (.iload_n 2, 1) := dq_28 (kX12_arrives_2 23 rfl)
theorem dX12_arrives_88 : decode cX12_arrives 88 = .ok (.imul, 1) := dq_104 (kX12_arrives_2 24 rfl)
theorem dX12_arrives_89 : decode cX12_arrives 89 = .ok (.iload_n 3, 1) := dq_29 (kX12_arrives_2 25 rfl)
theorem dX12_arrives_90 : decode cX12_arrives 90 = .ok (.iadd, 1) := dq_96 (kX12_arrives_2 26 rfl)
theorem dX12_arrives_91 : decode cX12_arrives 91 = .ok (.iaload, 1) := dq_46 (kX12_arrives_2 27 rfl)
theorem dX12_arrives_92 : decode cX12_arrives 92 = .ok (.iload 4, 2) := dq_21 (kX12_arrives_2 28 rfl) (kX12_arrives_2 29 rfl) rfl
theorem dX12_arrives_94 : decode cX12_arrives 94 = .ok (.if_icmp .ge 16, 3) := dq_162 (kX12_arrives_2 30 rfl) (kX12_arrives_2 31 rfl) (kX12_arrives_3 0 rfl) (by decide)
theorem dX12_arrives_97 : decode cX12_arrives 97 = .ok (.aload_n 0, 1) := dq_42 (kX12_arrives_3 1 rfl)
theorem dX12_arrives_98 : decode cX12_arrives 98 = .ok (.getfield 65, 3) := dq_180 (kX12_arrives_3 2 rfl) (kX12_arrives_3 3 rfl) (kX12_arrives_3 4 rfl) rfl
theorem dX12_arrives_101 : decode cX12_arrives 101 = .ok (.iconst 4, 1) := dq_7 (kX12_arrives_3 5 rfl)
theorem dX12_arrives_102 : decode cX12_arrives 102 = .ok (.iload_n 2, 1) := dq_28 (kX12_arrives_3 6 rfl)
theorem dX12_arrives_103 : decode cX12_arrives 103 = .ok (.imul, 1) := dq_104 (kX12_arrives_3 7 rfl)
theorem dX12_arrives_104 : decode cX12_arrives 104 = .ok (.iload_n 3, 1) := dq_29 (kX12_arrives_3 8 rfl)
theorem dX12_arrives_105 : decode cX12_arrives 105 = .ok (.iadd, 1) := dq_96 (kX12_arrives_3 9 rfl)
theorem dX12_arrives_106 : decode cX12_arrives 106 = .ok (.iaload, 1) := dq_46 (kX12_arrives_3 10 rfl)
theorem dX12_arrives_107 : decode cX12_arrives 107 = .ok (.goto 5, 3) := dq_167 (kX12_arrives_3 11 rfl) (kX12_arrives_3 12 rfl) (kX12_arrives_3 13 rfl) (by decide)
theorem dX12_arrives_110 : decode cX12_arrives 110 = .ok (.iload 4, 2) := dq_21 (kX12_arrives_3 14 rfl) (kX12_arrives_3 15 rfl) rfl
theorem dX12_arrives_112 : decode cX12_arrives 112 = .ok (.istore 5, 2) := dq_54 (kX12_arrives_3 16 rfl) (kX12_arrives_3 17 rfl) rfl
theorem dX12_arrives_114 : decode cX12_arrives 114 = .ok (.aload_n 0, 1) := dq_42 (kX12_arrives_3 18 rfl)
theorem dX12_arrives_115 : decode cX12_arrives 115 = .ok (.getfield 65, 3) := dq_180 (kX12_arrives_3 19 rfl) (kX12_arrives_3 20 rfl) (kX12_arrives_3 21 rfl) rfl
theorem dX12_arrives_118 : decode cX12_arrives 118 = .ok (.iconst 4, 1) := dq_7 (kX12_arrives_3 22 rfl)
theorem dX12_arrives_119 : decode cX12_arrives 119 = .ok (.iload_n 2, 1) := dq_28 (kX12_arrives_3 23 rfl)
theorem dX12_arrives_120 : decode cX12_arrives 120 = .ok (.imul, 1) := dq_104 (kX12_arrives_3 24 rfl)
theorem dX12_arrives_121 : decode cX12_arrives 121 = .ok (.iload_n 3, 1) := dq_29 (kX12_arrives_3 25 rfl)
theorem dX12_arrives_122 : decode cX12_arrives 122 = .ok (.iadd, 1) := dq_96 (kX12_arrives_3 26 rfl)
theorem dX12_arrives_123 : decode cX12_arrives 123 = .ok (.aload_n 0, 1) := dq_42 (kX12_arrives_3 27 rfl)
theorem dX12_arrives_124 : decode cX12_arrives 124 = .ok (.getfield 65, 3) := dq_180 (kX12_arrives_3 28 rfl) (kX12_arrives_3 29 rfl) (kX12_arrives_3 30 rfl) rfl
theorem dX12_arrives_127 : decode cX12_arrives 127 = .ok (.iconst 4, 1) := dq_7 (kX12_arrives_3 31 rfl)
theorem dX12_arrives_128 : decode cX12_arrives 128 = .ok (.iload_n 2, 1) := dq_28 (kX12_arrives_4 0 rfl)
theorem dX12_arrives_129 : decode cX12_arrives 129 = .ok (.imul, 1) := dq_104 (kX12_arrives_4 1 rfl)
theorem dX12_arrives_130 : decode cX12_arrives 130 = .ok (.iload_n 3, 1) := dq_29 (kX12_arrives_4 2 rfl)
theorem dX12_arrives_131 : decode cX12_arrives 131 = .ok (.iadd, 1) := dq_96 (kX12_arrives_4 3 rfl)
theorem dX12_arrives_132 : decode cX12_arrives 132 = .ok (.iaload, 1) := dq_46 (kX12_arrives_4 4 rfl)
theorem dX12_arrives_133 : decode cX12_arrives 133 = .ok (.iload 5, 2) := dq_21 (kX12_arrives_4 5 rfl) (kX12_arrives_4 6 rfl) rfl
theorem dX12_arrives_135 : decode cX12_arrives 135 = .ok (.isub, 1) := dq_100 (kX12_arrives_4 7 rfl)
theorem dX12_arrives_136 : decode cX12_arrives 136 = .ok (.iastore, 1) := dq_79 (kX12_arrives_4 8 rfl)
theorem dX12_arrives_137 : decode cX12_arrives 137 = .ok (.aload_n 0, 1) := dq_42 (kX12_arrives_4 9 rfl)
theorem dX12_arrives_138 : decode cX12_arrives 138 = .ok (.getfield 223, 3) := dq_180 (kX12_arrives_4 10 rfl) (kX12_arrives_4 11 rfl) (kX12_arrives_4 12 rfl) rfl
theorem dX12_arrives_141 : decode cX12_arrives 141 = .ok (.iload_n 1, 1) := dq_27 (kX12_arrives_4 13 rfl)
theorem dX12_arrives_142 : decode cX12_arrives 142 = .ok (.aload_n 0, 1) := dq_42 (kX12_arrives_4 14 rfl)
theorem dX12_arrives_143 : decode cX12_arrives 143 = .ok (.getfield 223, 3) := dq_180 (kX12_arrives_4 15 rfl) (kX12_arrives_4 16 rfl) (kX12_arrives_4 17 rfl) rfl
theorem dX12_arrives_146 : decode cX12_arrives 146 = .ok (.iload_n 1, 1) := dq_27 (kX12_arrives_4 18 rfl)
theorem dX12_arrives_147 : decode cX12_arrives 147 = .ok (.iaload, 1) := dq_46 (kX12_arrives_4 19 rfl)
theorem dX12_arrives_148 : decode cX12_arrives 148 = .ok (.iload 5, 2) := dq_21 (kX12_arrives_4 20 rfl) (kX12_arrives_4 21 rfl) rfl
theorem dX12_arrives_150 : decode cX12_arrives 150 = .ok (.iadd, 1) := dq_96 (kX12_arrives_4 22 rfl)
theorem dX12_arrives_151 : decode cX12_arrives 151 = .ok (.iastore, 1) := dq_79 (kX12_arrives_4 23 rfl)
theorem dX12_arrives_152 : decode cX12_arrives 152 = .ok (.iinc 3 (-1), 3) := dq_132 (kX12_arrives_4 24 rfl) (kX12_arrives_4 25 rfl) (kX12_arrives_4 26 rfl) rfl (by decide)
theorem dX12_arrives_155 : decode cX12_arrives 155 = .ok (.goto (-92), 3) := dq_167 (kX12_arrives_4 27 rfl) (kX12_arrives_4 28 rfl) (kX12_arrives_4 29 rfl) (by decide)
theorem dX12_arrives_158 : decode cX12_arrives 158 = .ok (.aload_n 0, 1) := dq_42 (kX12_arrives_4 30 rfl)
theorem dX12_arrives_159 : decode cX12_arrives 159 = .ok (.iload_n 1, 1) := dq_27 (kX12_arrives_4 31 rfl)
theorem dX12_arrives_160 : decode cX12_arrives 160 = .ok (.invokevirtual 624, 3) := dq_182 (kX12_arrives_5 0 rfl) (kX12_arrives_5 1 rfl) (kX12_arrives_5 2 rfl) rfl
theorem dX12_arrives_163 : decode cX12_arrives 163 = .ok (.return_, 1) := dq_177 (kX12_arrives_5 3 rfl)

def bX12_waits_0 : List UInt8 := [42, 180, 0, 241, 16, 12, 42, 180, 0, 232, 27, 46, 104, 42, 180, 1, 140, 17, 1, 104, 112, 16, 30, 108, 96, 46, 42, 180, 0, 214, 27, 46]
theorem kX12_waits_0 (j : Nat) {b : UInt8} (hj : bX12_waits_0[j]? = some b) : AtB cX12_waits (0 + j) b := at_of32 (by decide +kernel) j hj
def bX12_waits_1 : List UInt8 := [163, 0, 9, 42, 27, 182, 2, 115, 177, 42, 180, 0, 229, 27, 42, 180, 0, 229, 27, 46, 4, 96, 79, 42, 180, 0, 229, 27, 46, 16, 60, 160]
theorem kX12_waits_1 (j : Nat) {b : UInt8} (hj : bX12_waits_1[j]? = some b) : AtB cX12_waits (32 + j) b := at_of32 (by decide +kernel) j hj
def bX12_waits_2 : List UInt8 := [0, 8, 42, 27, 182, 2, 112, 177]
theorem kX12_waits_2 (j : Nat) {b : UInt8} (hj : bX12_waits_2[j]? = some b) : AtB cX12_waits (64 + j) b := at_of32 (by decide +kernel) j hj
theorem dX12_waits_0 : decode cX12_waits 0 = .ok (.aload_n 0, 1) := dq_42 (kX12_waits_0 0 rfl)
theorem dX12_waits_1 : decode cX12_waits 1 = .ok (.getfield 241, 3) := dq_180 (kX12_waits_0 1 rfl) (kX12_waits_0 2 rfl) (kX12_waits_0 3 rfl) rfl
theorem dX12_waits_4 : decode cX12_waits 4 = .ok (.bipush 12, 2) := dq_16 (kX12_waits_0 4 rfl) (kX12_waits_0 5 rfl) (by decide)
theorem dX12_waits_6 : decode cX12_waits 6 = .ok (.aload_n 0, 1) := dq_42 (kX12_waits_0 6 rfl)
theorem dX12_waits_7 : decode cX12_waits 7 = .ok (.getfield 232, 3) := dq_180 (kX12_waits_0 7 rfl) (kX12_waits_0 8 rfl) (kX12_waits_0 9 rfl) rfl
theorem dX12_waits_10 : decode cX12_waits 10 = .ok (.iload_n 1, 1) := dq_27 (kX12_waits_0 10 rfl)
theorem dX12_waits_11 : decode cX12_waits 11 = .ok (.iaload, 1) := dq_46 (kX12_waits_0 11 rfl)
theorem dX12_waits_12 : decode cX12_waits 12 = .ok (.imul, 1) := dq_104 (kX12_waits_0 12 rfl)
theorem dX12_waits_13 : decode cX12_waits 13 = .ok (.aload_n 0, 1) := dq_42 (kX12_waits_0 13 rfl)
theorem dX12_waits_14 : decode cX12_waits 14 = .ok (.getfield 396, 3) := dq_180 (kX12_waits_0 14 rfl) (kX12_waits_0 15 rfl) (kX12_waits_0 16 rfl) rfl
theorem dX12_waits_17 : decode cX12_waits 17 = .ok (.sipush 360, 3) := dq_17 (kX12_waits_0 17 rfl) (kX12_waits_0 18 rfl) (kX12_waits_0 19 rfl) (by decide)
theorem dX12_waits_20 : decode cX12_waits 20 = .ok (.irem, 1) := dq_112 (kX12_waits_0 20 rfl)
theorem dX12_waits_21 : decode cX12_waits 21 = .ok (.bipush 30, 2) := dq_16 (kX12_waits_0 21 rfl) (kX12_waits_0 22 rfl) (by decide)
theorem dX12_waits_23 : decode cX12_waits 23 = .ok (.idiv, 1) := dq_108 (kX12_waits_0 23 rfl)
theorem dX12_waits_24 : decode cX12_waits 24 = .ok (.iadd, 1) := dq_96 (kX12_waits_0 24 rfl)
theorem dX12_waits_25 : decode cX12_waits 25 = .ok (.iaload, 1) := dq_46 (kX12_waits_0 25 rfl)
theorem dX12_waits_26 : decode cX12_waits 26 = .ok (.aload_n 0, 1) := dq_42 (kX12_waits_0 26 rfl)
theorem dX12_waits_27 : decode cX12_waits 27 = .ok (.getfield 214, 3) := dq_180 (kX12_waits_0 27 rfl) (kX12_waits_0 28 rfl) (kX12_waits_0 29 rfl) rfl
theorem dX12_waits_30 : decode cX12_waits 30 = .ok (.iload_n 1, 1) := dq_27 (kX12_waits_0 30 rfl)
theorem dX12_waits_31 : decode cX12_waits 31 = .ok (.iaload, 1) := dq_46 (kX12_waits_0 31 rfl)
theorem dX12_waits_32 : decode cX12_waits 32 = .ok (.if_icmp .gt 9, 3) := dq_163 (kX12_waits_1 0 rfl) (kX12_waits_1 1 rfl) (kX12_waits_1 2 rfl) (by decide)
theorem dX12_waits_35 : decode cX12_waits 35 = .ok (.aload_n 0, 1) := dq_42 (kX12_waits_1 3 rfl)
theorem dX12_waits_36 : decode cX12_waits 36 = .ok (.iload_n 1, 1) := dq_27 (kX12_waits_1 4 rfl)
theorem dX12_waits_37 : decode cX12_waits 37 = .ok (.invokevirtual 627, 3) := dq_182 (kX12_waits_1 5 rfl) (kX12_waits_1 6 rfl) (kX12_waits_1 7 rfl) rfl
theorem dX12_waits_40 : decode cX12_waits 40 = .ok (.return_, 1) := dq_177 (kX12_waits_1 8 rfl)
theorem dX12_waits_41 : decode cX12_waits 41 = .ok (.aload_n 0, 1) := dq_42 (kX12_waits_1 9 rfl)
theorem dX12_waits_42 : decode cX12_waits 42 = .ok (.getfield 229, 3) := dq_180 (kX12_waits_1 10 rfl) (kX12_waits_1 11 rfl) (kX12_waits_1 12 rfl) rfl
theorem dX12_waits_45 : decode cX12_waits 45 = .ok (.iload_n 1, 1) := dq_27 (kX12_waits_1 13 rfl)
theorem dX12_waits_46 : decode cX12_waits 46 = .ok (.aload_n 0, 1) := dq_42 (kX12_waits_1 14 rfl)
theorem dX12_waits_47 : decode cX12_waits 47 = .ok (.getfield 229, 3) := dq_180 (kX12_waits_1 15 rfl) (kX12_waits_1 16 rfl) (kX12_waits_1 17 rfl) rfl
theorem dX12_waits_50 : decode cX12_waits 50 = .ok (.iload_n 1, 1) := dq_27 (kX12_waits_1 18 rfl)
theorem dX12_waits_51 : decode cX12_waits 51 = .ok (.iaload, 1) := dq_46 (kX12_waits_1 19 rfl)
theorem dX12_waits_52 : decode cX12_waits 52 = .ok (.iconst 1, 1) := dq_4 (kX12_waits_1 20 rfl)
theorem dX12_waits_53 : decode cX12_waits 53 = .ok (.iadd, 1) := dq_96 (kX12_waits_1 21 rfl)
theorem dX12_waits_54 : decode cX12_waits 54 = .ok (.iastore, 1) := dq_79 (kX12_waits_1 22 rfl)
theorem dX12_waits_55 : decode cX12_waits 55 = .ok (.aload_n 0, 1) := dq_42 (kX12_waits_1 23 rfl)
theorem dX12_waits_56 : decode cX12_waits 56 = .ok (.getfield 229, 3) := dq_180 (kX12_waits_1 24 rfl) (kX12_waits_1 25 rfl) (kX12_waits_1 26 rfl) rfl
theorem dX12_waits_59 : decode cX12_waits 59 = .ok (.iload_n 1, 1) := dq_27 (kX12_waits_1 27 rfl)
theorem dX12_waits_60 : decode cX12_waits 60 = .ok (.iaload, 1) := dq_46 (kX12_waits_1 28 rfl)
theorem dX12_waits_61 : decode cX12_waits 61 = .ok (.bipush 60, 2) := dq_16 (kX12_waits_1 29 rfl) (kX12_waits_1 30 rfl) (by decide)
theorem dX12_waits_63 : decode cX12_waits 63 = .ok (.if_icmp .ne 8, 3) := dq_160 (kX12_waits_1 31 rfl) (kX12_waits_2 0 rfl) (kX12_waits_2 1 rfl) (by decide)
theorem dX12_waits_66 : decode cX12_waits 66 = .ok (.aload_n 0, 1) := dq_42 (kX12_waits_2 2 rfl)
theorem dX12_waits_67 : decode cX12_waits 67 = .ok (.iload_n 1, 1) := dq_27 (kX12_waits_2 3 rfl)
theorem dX12_waits_68 : decode cX12_waits 68 = .ok (.invokevirtual 624, 3) := dq_182 (kX12_waits_2 4 rfl) (kX12_waits_2 5 rfl) (kX12_waits_2 6 rfl) rfl
theorem dX12_waits_71 : decode cX12_waits 71 = .ok (.return_, 1) := dq_177 (kX12_waits_2 7 rfl)

def bX12_shipGoes_0 : List UInt8 := [42, 180, 0, 217, 27, 46, 4, 160, 0, 30, 42, 180, 1, 140, 42, 180, 0, 226, 27, 46, 161, 0, 17, 42, 180, 0, 217, 27, 5, 79, 42, 180]
theorem kX12_shipGoes_0 (j : Nat) {b : UInt8} (hj : bX12_shipGoes_0[j]? = some b) : AtB cX12_shipGoes (0 + j) b := at_of32 (by decide +kernel) j hj
def bX12_shipGoes_1 : List UInt8 := [0, 226, 27, 2, 79, 42, 180, 0, 217, 27, 46, 5, 160, 0, 9, 42, 27, 182, 2, 118, 177, 42, 180, 0, 217, 27, 46, 6, 160, 0, 16, 42]
theorem kX12_shipGoes_1 (j : Nat) {b : UInt8} (hj : bX12_shipGoes_1[j]? = some b) : AtB cX12_shipGoes (32 + j) b := at_of32 (by decide +kernel) j hj
def bX12_shipGoes_2 : List UInt8 := [180, 1, 140, 42, 180, 0, 226, 27, 46, 162, 0, 4, 177, 42, 42, 180, 2, 120, 42, 180, 0, 220, 27, 46, 133, 97, 181, 2, 120, 42, 42, 180]
theorem kX12_shipGoes_2 (j : Nat) {b : UInt8} (hj : bX12_shipGoes_2[j]? = some b) : AtB cX12_shipGoes (64 + j) b := at_of32 (by decide +kernel) j hj
def bX12_shipGoes_3 : List UInt8 := [2, 123, 42, 180, 0, 223, 27, 46, 133, 97, 181, 2, 123, 42, 180, 0, 220, 27, 3, 79, 42, 180, 0, 223, 27, 3, 79, 42, 180, 0, 217, 27]
theorem kX12_shipGoes_3 (j : Nat) {b : UInt8} (hj : bX12_shipGoes_3[j]? = some b) : AtB cX12_shipGoes (96 + j) b := at_of32 (by decide +kernel) j hj
def bX12_shipGoes_4 : List UInt8 := [3, 79, 42, 180, 0, 226, 27, 2, 79, 177]
theorem kX12_shipGoes_4 (j : Nat) {b : UInt8} (hj : bX12_shipGoes_4[j]? = some b) : AtB cX12_shipGoes (128 + j) b := at_of32 (by decide +kernel) j hj
theorem dX12_shipGoes_0 : decode cX12_shipGoes 0 = .ok (.aload_n 0, 1) := dq_42 (kX12_shipGoes_0 0 rfl)
theorem dX12_shipGoes_1 : decode cX12_shipGoes 1 = .ok (.getfield 217, 3) := dq_180 (kX12_shipGoes_0 1 rfl) (kX12_shipGoes_0 2 rfl) (kX12_shipGoes_0 3 rfl) rfl
theorem dX12_shipGoes_4 : decode cX12_shipGoes 4 = .ok (.iload_n 1, 1) := dq_27 (kX12_shipGoes_0 4 rfl)
theorem dX12_shipGoes_5 : decode cX12_shipGoes 5 = .ok (.iaload, 1) := dq_46 (kX12_shipGoes_0 5 rfl)
theorem dX12_shipGoes_6 : decode cX12_shipGoes 6 = .ok (.iconst 1, 1) := dq_4 (kX12_shipGoes_0 6 rfl)
theorem dX12_shipGoes_7 : decode cX12_shipGoes 7 = .ok (.if_icmp .ne 30, 3) := dq_160 (kX12_shipGoes_0 7 rfl) (kX12_shipGoes_0 8 rfl) (kX12_shipGoes_0 9 rfl) (by decide)
theorem dX12_shipGoes_10 : decode cX12_shipGoes 10 = .ok (.aload_n 0, 1) := dq_42 (kX12_shipGoes_0 10 rfl)
theorem dX12_shipGoes_11 : decode cX12_shipGoes 11 = .ok (.getfield 396, 3) := dq_180 (kX12_shipGoes_0 11 rfl) (kX12_shipGoes_0 12 rfl) (kX12_shipGoes_0 13 rfl) rfl
theorem dX12_shipGoes_14 : decode cX12_shipGoes 14 = .ok (.aload_n 0, 1) := dq_42 (kX12_shipGoes_0 14 rfl)
theorem dX12_shipGoes_15 : decode cX12_shipGoes 15 = .ok (.getfield 226, 3) := dq_180 (kX12_shipGoes_0 15 rfl) (kX12_shipGoes_0 16 rfl) (kX12_shipGoes_0 17 rfl) rfl
theorem dX12_shipGoes_18 : decode cX12_shipGoes 18 = .ok (.iload_n 1, 1) := dq_27 (kX12_shipGoes_0 18 rfl)
theorem dX12_shipGoes_19 : decode cX12_shipGoes 19 = .ok (.iaload, 1) := dq_46 (kX12_shipGoes_0 19 rfl)
theorem dX12_shipGoes_20 : decode cX12_shipGoes 20 = .ok (.if_icmp .lt 17, 3) := dq_161 (kX12_shipGoes_0 20 rfl) (kX12_shipGoes_0 21 rfl) (kX12_shipGoes_0 22 rfl) (by decide)
theorem dX12_shipGoes_23 : decode cX12_shipGoes 23 = .ok (.aload_n 0, 1) := dq_42 (kX12_shipGoes_0 23 rfl)
theorem dX12_shipGoes_24 : decode cX12_shipGoes 24 = .ok (.getfield 217, 3) := dq_180 (kX12_shipGoes_0 24 rfl) (kX12_shipGoes_0 25 rfl) (kX12_shipGoes_0 26 rfl) rfl
theorem dX12_shipGoes_27 : decode cX12_shipGoes 27 = .ok (.iload_n 1, 1) := dq_27 (kX12_shipGoes_0 27 rfl)
theorem dX12_shipGoes_28 : decode cX12_shipGoes 28 = .ok (.iconst 2, 1) := dq_5 (kX12_shipGoes_0 28 rfl)
theorem dX12_shipGoes_29 : decode cX12_shipGoes 29 = .ok (.iastore, 1) := dq_79 (kX12_shipGoes_0 29 rfl)
theorem dX12_shipGoes_30 : decode cX12_shipGoes 30 = .ok (.aload_n 0, 1) := dq_42 (kX12_shipGoes_0 30 rfl)
theorem dX12_shipGoes_31 : decode cX12_shipGoes 31 = .ok (.getfield 226, 3) := dq_180 (kX12_shipGoes_0 31 rfl) (kX12_shipGoes_1 0 rfl) (kX12_shipGoes_1 1 rfl) rfl
theorem dX12_shipGoes_34 : decode cX12_shipGoes 34 = .ok (.iload_n 1, 1) := dq_27 (kX12_shipGoes_1 2 rfl)
theorem dX12_shipGoes_35 : decode cX12_shipGoes 35 = .ok (.iconst (-1), 1) := dq_2 (kX12_shipGoes_1 3 rfl)
theorem dX12_shipGoes_36 : decode cX12_shipGoes 36 = .ok (.iastore, 1) := dq_79 (kX12_shipGoes_1 4 rfl)
theorem dX12_shipGoes_37 : decode cX12_shipGoes 37 = .ok (.aload_n 0, 1) := dq_42 (kX12_shipGoes_1 5 rfl)
theorem dX12_shipGoes_38 : decode cX12_shipGoes 38 = .ok (.getfield 217, 3) := dq_180 (kX12_shipGoes_1 6 rfl) (kX12_shipGoes_1 7 rfl) (kX12_shipGoes_1 8 rfl) rfl
theorem dX12_shipGoes_41 : decode cX12_shipGoes 41 = .ok (.iload_n 1, 1) := dq_27 (kX12_shipGoes_1 9 rfl)
theorem dX12_shipGoes_42 : decode cX12_shipGoes 42 = .ok (.iaload, 1) := dq_46 (kX12_shipGoes_1 10 rfl)
theorem dX12_shipGoes_43 : decode cX12_shipGoes 43 = .ok (.iconst 2, 1) := dq_5 (kX12_shipGoes_1 11 rfl)
theorem dX12_shipGoes_44 : decode cX12_shipGoes 44 = .ok (.if_icmp .ne 9, 3) := dq_160 (kX12_shipGoes_1 12 rfl) (kX12_shipGoes_1 13 rfl) (kX12_shipGoes_1 14 rfl) (by decide)
theorem dX12_shipGoes_47 : decode cX12_shipGoes 47 = .ok (.aload_n 0, 1) := dq_42 (kX12_shipGoes_1 15 rfl)
theorem dX12_shipGoes_48 : decode cX12_shipGoes 48 = .ok (.iload_n 1, 1) := dq_27 (kX12_shipGoes_1 16 rfl)
theorem dX12_shipGoes_49 : decode cX12_shipGoes 49 = .ok (.invokevirtual 630, 3) := dq_182 (kX12_shipGoes_1 17 rfl) (kX12_shipGoes_1 18 rfl) (kX12_shipGoes_1 19 rfl) rfl
theorem dX12_shipGoes_52 : decode cX12_shipGoes 52 = .ok (.return_, 1) := dq_177 (kX12_shipGoes_1 20 rfl)
theorem dX12_shipGoes_53 : decode cX12_shipGoes 53 = .ok (.aload_n 0, 1) := dq_42 (kX12_shipGoes_1 21 rfl)
theorem dX12_shipGoes_54 : decode cX12_shipGoes 54 = .ok (.getfield 217, 3) := dq_180 (kX12_shipGoes_1 22 rfl) (kX12_shipGoes_1 23 rfl) (kX12_shipGoes_1 24 rfl) rfl
theorem dX12_shipGoes_57 : decode cX12_shipGoes 57 = .ok (.iload_n 1, 1) := dq_27 (kX12_shipGoes_1 25 rfl)
theorem dX12_shipGoes_58 : decode cX12_shipGoes 58 = .ok (.iaload, 1) := dq_46 (kX12_shipGoes_1 26 rfl)
theorem dX12_shipGoes_59 : decode cX12_shipGoes 59 = .ok (.iconst 3, 1) := dq_6 (kX12_shipGoes_1 27 rfl)
theorem dX12_shipGoes_60 : decode cX12_shipGoes 60 = .ok (.if_icmp .ne 16, 3) := dq_160 (kX12_shipGoes_1 28 rfl) (kX12_shipGoes_1 29 rfl) (kX12_shipGoes_1 30 rfl) (by decide)
theorem dX12_shipGoes_63 : decode cX12_shipGoes 63 = .ok (.aload_n 0, 1) := dq_42 (kX12_shipGoes_1 31 rfl)
theorem dX12_shipGoes_64 : decode cX12_shipGoes 64 = .ok (.getfield 396, 3) := dq_180 (kX12_shipGoes_2 0 rfl) (kX12_shipGoes_2 1 rfl) (kX12_shipGoes_2 2 rfl) rfl
theorem dX12_shipGoes_67 : decode cX12_shipGoes 67 = .ok (.aload_n 0, 1) := dq_42 (kX12_shipGoes_2 3 rfl)
theorem dX12_shipGoes_68 : decode cX12_shipGoes 68 = .ok (.getfield 226, 3) := dq_180 (kX12_shipGoes_2 4 rfl) (kX12_shipGoes_2 5 rfl) (kX12_shipGoes_2 6 rfl) rfl
theorem dX12_shipGoes_71 : decode cX12_shipGoes 71 = .ok (.iload_n 1, 1) := dq_27 (kX12_shipGoes_2 7 rfl)
theorem dX12_shipGoes_72 : decode cX12_shipGoes 72 = .ok (.iaload, 1) := dq_46 (kX12_shipGoes_2 8 rfl)
theorem dX12_shipGoes_73 : decode cX12_shipGoes 73 = .ok (.if_icmp .ge 4, 3) := dq_162 (kX12_shipGoes_2 9 rfl) (kX12_shipGoes_2 10 rfl) (kX12_shipGoes_2 11 rfl) (by decide)
theorem dX12_shipGoes_76 : decode cX12_shipGoes 76 = .ok (.return_, 1) := dq_177 (kX12_shipGoes_2 12 rfl)
theorem dX12_shipGoes_77 : decode cX12_shipGoes 77 = .ok (.aload_n 0, 1) := dq_42 (kX12_shipGoes_2 13 rfl)
theorem dX12_shipGoes_78 : decode cX12_shipGoes 78 = .ok (.aload_n 0, 1) := dq_42 (kX12_shipGoes_2 14 rfl)
theorem dX12_shipGoes_79 : decode cX12_shipGoes 79 = .ok (.getfield 632, 3) := dq_180 (kX12_shipGoes_2 15 rfl) (kX12_shipGoes_2 16 rfl) (kX12_shipGoes_2 17 rfl) rfl
theorem dX12_shipGoes_82 : decode cX12_shipGoes 82 = .ok (.aload_n 0, 1) := dq_42 (kX12_shipGoes_2 18 rfl)
theorem dX12_shipGoes_83 : decode cX12_shipGoes 83 = .ok (.getfield 220, 3) := dq_180 (kX12_shipGoes_2 19 rfl) (kX12_shipGoes_2 20 rfl) (kX12_shipGoes_2 21 rfl) rfl
theorem dX12_shipGoes_86 : decode cX12_shipGoes 86 = .ok (.iload_n 1, 1) := dq_27 (kX12_shipGoes_2 22 rfl)
theorem dX12_shipGoes_87 : decode cX12_shipGoes 87 = .ok (.iaload, 1) := dq_46 (kX12_shipGoes_2 23 rfl)
theorem dX12_shipGoes_88 : decode cX12_shipGoes 88 = .ok (.i2l, 1) := dq_133 (kX12_shipGoes_2 24 rfl)
theorem dX12_shipGoes_89 : decode cX12_shipGoes 89 = .ok (.ladd, 1) := dq_97 (kX12_shipGoes_2 25 rfl)
theorem dX12_shipGoes_90 : decode cX12_shipGoes 90 = .ok (.putfield 632, 3) := dq_181 (kX12_shipGoes_2 26 rfl) (kX12_shipGoes_2 27 rfl) (kX12_shipGoes_2 28 rfl) rfl
theorem dX12_shipGoes_93 : decode cX12_shipGoes 93 = .ok (.aload_n 0, 1) := dq_42 (kX12_shipGoes_2 29 rfl)
theorem dX12_shipGoes_94 : decode cX12_shipGoes 94 = .ok (.aload_n 0, 1) := dq_42 (kX12_shipGoes_2 30 rfl)
theorem dX12_shipGoes_95 : decode cX12_shipGoes 95 = .ok (.getfield 635, 3) := dq_180 (kX12_shipGoes_2 31 rfl) (kX12_shipGoes_3 0 rfl) (kX12_shipGoes_3 1 rfl) rfl
theorem dX12_shipGoes_98 : decode cX12_shipGoes 98 = .ok (.aload_n 0, 1) := dq_42 (kX12_shipGoes_3 2 rfl)
theorem dX12_shipGoes_99 : decode cX12_shipGoes 99 = .ok (.getfield 223, 3) := dq_180 (kX12_shipGoes_3 3 rfl) (kX12_shipGoes_3 4 rfl) (kX12_shipGoes_3 5 rfl) rfl
theorem dX12_shipGoes_102 : decode cX12_shipGoes 102 = .ok (.iload_n 1, 1) := dq_27 (kX12_shipGoes_3 6 rfl)
theorem dX12_shipGoes_103 : decode cX12_shipGoes 103 = .ok (.iaload, 1) := dq_46 (kX12_shipGoes_3 7 rfl)
theorem dX12_shipGoes_104 : decode cX12_shipGoes 104 = .ok (.i2l, 1) := dq_133 (kX12_shipGoes_3 8 rfl)
theorem dX12_shipGoes_105 : decode cX12_shipGoes 105 = .ok (.ladd, 1) := dq_97 (kX12_shipGoes_3 9 rfl)
theorem dX12_shipGoes_106 : decode cX12_shipGoes 106 = .ok (.putfield 635, 3) := dq_181 (kX12_shipGoes_3 10 rfl) (kX12_shipGoes_3 11 rfl) (kX12_shipGoes_3 12 rfl) rfl
theorem dX12_shipGoes_109 : decode cX12_shipGoes 109 = .ok (.aload_n 0, 1) := dq_42 (kX12_shipGoes_3 13 rfl)
theorem dX12_shipGoes_110 : decode cX12_shipGoes 110 = .ok (.getfield 220, 3) := dq_180 (kX12_shipGoes_3 14 rfl) (kX12_shipGoes_3 15 rfl) (kX12_shipGoes_3 16 rfl) rfl
theorem dX12_shipGoes_113 : decode cX12_shipGoes 113 = .ok (.iload_n 1, 1) := dq_27 (kX12_shipGoes_3 17 rfl)
theorem dX12_shipGoes_114 : decode cX12_shipGoes 114 = .ok (.iconst 0, 1) := dq_3 (kX12_shipGoes_3 18 rfl)
theorem dX12_shipGoes_115 : decode cX12_shipGoes 115 = .ok (.iastore, 1) := dq_79 (kX12_shipGoes_3 19 rfl)
theorem dX12_shipGoes_116 : decode cX12_shipGoes 116 = .ok (.aload_n 0, 1) := dq_42 (kX12_shipGoes_3 20 rfl)
theorem dX12_shipGoes_117 : decode cX12_shipGoes 117 = .ok (.getfield 223, 3) := dq_180 (kX12_shipGoes_3 21 rfl) (kX12_shipGoes_3 22 rfl) (kX12_shipGoes_3 23 rfl) rfl
theorem dX12_shipGoes_120 : decode cX12_shipGoes 120 = .ok (.iload_n 1, 1) := dq_27 (kX12_shipGoes_3 24 rfl)
theorem dX12_shipGoes_121 : decode cX12_shipGoes 121 = .ok (.iconst 0, 1) := dq_3 (kX12_shipGoes_3 25 rfl)
theorem dX12_shipGoes_122 : decode cX12_shipGoes 122 = .ok (.iastore, 1) := dq_79 (kX12_shipGoes_3 26 rfl)
theorem dX12_shipGoes_123 : decode cX12_shipGoes 123 = .ok (.aload_n 0, 1) := dq_42 (kX12_shipGoes_3 27 rfl)
theorem dX12_shipGoes_124 : decode cX12_shipGoes 124 = .ok (.getfield 217, 3) := dq_180 (kX12_shipGoes_3 28 rfl) (kX12_shipGoes_3 29 rfl) (kX12_shipGoes_3 30 rfl) rfl
theorem dX12_shipGoes_127 : decode cX12_shipGoes 127 = .ok (.iload_n 1, 1) := dq_27 (kX12_shipGoes_3 31 rfl)
theorem dX12_shipGoes_128 : decode cX12_shipGoes 128 = .ok (.iconst 0, 1) := dq_3 (kX12_shipGoes_4 0 rfl)
theorem dX12_shipGoes_129 : decode cX12_shipGoes 129 = .ok (.iastore, 1) := dq_79 (kX12_shipGoes_4 1 rfl)
theorem dX12_shipGoes_130 : decode cX12_shipGoes 130 = .ok (.aload_n 0, 1) := dq_42 (kX12_shipGoes_4 2 rfl)
theorem dX12_shipGoes_131 : decode cX12_shipGoes 131 = .ok (.getfield 226, 3) := dq_180 (kX12_shipGoes_4 3 rfl) (kX12_shipGoes_4 4 rfl) (kX12_shipGoes_4 5 rfl) rfl
theorem dX12_shipGoes_134 : decode cX12_shipGoes 134 = .ok (.iload_n 1, 1) := dq_27 (kX12_shipGoes_4 6 rfl)
theorem dX12_shipGoes_135 : decode cX12_shipGoes 135 = .ok (.iconst (-1), 1) := dq_2 (kX12_shipGoes_4 7 rfl)
theorem dX12_shipGoes_136 : decode cX12_shipGoes 136 = .ok (.iastore, 1) := dq_79 (kX12_shipGoes_4 8 rfl)
theorem dX12_shipGoes_137 : decode cX12_shipGoes 137 = .ok (.return_, 1) := dq_177 (kX12_shipGoes_4 9 rfl)

def bX12_goesOver_0 : List UInt8 := [3, 61, 28, 42, 180, 1, 109, 42, 180, 1, 112, 104, 162, 0, 27, 42, 180, 1, 21, 28, 28, 27, 160, 0, 7, 3, 167, 0, 6, 19, 2, 126]
theorem kX12_goesOver_0 (j : Nat) {b : UInt8} (hj : bX12_goesOver_0[j]? = some b) : AtB cX12_goesOver (0 + j) b := at_of32 (by decide +kernel) j hj
def bX12_goesOver_1 : List UInt8 := [79, 132, 2, 1, 167, 255, 222, 4, 61, 28, 153, 0, 146, 3, 61, 3, 62, 29, 42, 180, 1, 109, 42, 180, 1, 112, 104, 162, 0, 126, 3, 54]
theorem kX12_goesOver_1 (j : Nat) {b : UInt8} (hj : bX12_goesOver_1[j]? = some b) : AtB cX12_goesOver (32 + j) b := at_of32 (by decide +kernel) j hj
def bX12_goesOver_2 : List UInt8 := [4, 21, 4, 16, 8, 162, 0, 110, 42, 180, 1, 21, 29, 46, 19, 2, 126, 162, 0, 98, 42, 29, 21, 4, 184, 2, 127, 21, 4, 184, 2, 130]
theorem kX12_goesOver_2 (j : Nat) {b : UInt8} (hj : bX12_goesOver_2[j]? = some b) : AtB cX12_goesOver (64 + j) b := at_of32 (by decide +kernel) j hj
def bX12_goesOver_3 : List UInt8 := [182, 2, 133, 54, 5, 21, 5, 2, 159, 0, 69, 42, 21, 5, 182, 1, 169, 154, 0, 6, 167, 0, 57, 42, 180, 1, 21, 29, 46, 4, 96, 42]
theorem kX12_goesOver_3 (j : Nat) {b : UInt8} (hj : bX12_goesOver_3[j]? = some b) : AtB cX12_goesOver (96 + j) b := at_of32 (by decide +kernel) j hj
def bX12_goesOver_4 : List UInt8 := [180, 0, 16, 21, 5, 46, 42, 180, 0, 16, 29, 46, 100, 184, 1, 129, 96, 54, 6, 21, 6, 42, 180, 1, 21, 21, 5, 46, 161, 0, 6, 167]
theorem kX12_goesOver_4 (j : Nat) {b : UInt8} (hj : bX12_goesOver_4[j]? = some b) : AtB cX12_goesOver (128 + j) b := at_of32 (by decide +kernel) j hj
def bX12_goesOver_5 : List UInt8 := [0, 14, 42, 180, 1, 21, 21, 5, 21, 6, 79, 4, 61, 132, 4, 1, 167, 255, 145, 132, 3, 1, 167, 255, 123, 167, 255, 112, 177]
theorem kX12_goesOver_5 (j : Nat) {b : UInt8} (hj : bX12_goesOver_5[j]? = some b) : AtB cX12_goesOver (160 + j) b := at_of32 (by decide +kernel) j hj
theorem dX12_goesOver_0 : decode cX12_goesOver 0 = .ok (.iconst 0, 1) := dq_3 (kX12_goesOver_0 0 rfl)
theorem dX12_goesOver_1 : decode cX12_goesOver 1 = .ok (.istore_n 2, 1) := dq_61 (kX12_goesOver_0 1 rfl)
theorem dX12_goesOver_2 : decode cX12_goesOver 2 = .ok (.iload_n 2, 1) := dq_28 (kX12_goesOver_0 2 rfl)
theorem dX12_goesOver_3 : decode cX12_goesOver 3 = .ok (.aload_n 0, 1) := dq_42 (kX12_goesOver_0 3 rfl)
theorem dX12_goesOver_4 : decode cX12_goesOver 4 = .ok (.getfield 365, 3) := dq_180 (kX12_goesOver_0 4 rfl) (kX12_goesOver_0 5 rfl) (kX12_goesOver_0 6 rfl) rfl
theorem dX12_goesOver_7 : decode cX12_goesOver 7 = .ok (.aload_n 0, 1) := dq_42 (kX12_goesOver_0 7 rfl)
theorem dX12_goesOver_8 : decode cX12_goesOver 8 = .ok (.getfield 368, 3) := dq_180 (kX12_goesOver_0 8 rfl) (kX12_goesOver_0 9 rfl) (kX12_goesOver_0 10 rfl) rfl
theorem dX12_goesOver_11 : decode cX12_goesOver 11 = .ok (.imul, 1) := dq_104 (kX12_goesOver_0 11 rfl)
theorem dX12_goesOver_12 : decode cX12_goesOver 12 = .ok (.if_icmp .ge 27, 3) := dq_162 (kX12_goesOver_0 12 rfl) (kX12_goesOver_0 13 rfl) (kX12_goesOver_0 14 rfl) (by decide)
theorem dX12_goesOver_15 : decode cX12_goesOver 15 = .ok (.aload_n 0, 1) := dq_42 (kX12_goesOver_0 15 rfl)
theorem dX12_goesOver_16 : decode cX12_goesOver 16 = .ok (.getfield 277, 3) := dq_180 (kX12_goesOver_0 16 rfl) (kX12_goesOver_0 17 rfl) (kX12_goesOver_0 18 rfl) rfl
theorem dX12_goesOver_19 : decode cX12_goesOver 19 = .ok (.iload_n 2, 1) := dq_28 (kX12_goesOver_0 19 rfl)
theorem dX12_goesOver_20 : decode cX12_goesOver 20 = .ok (.iload_n 2, 1) := dq_28 (kX12_goesOver_0 20 rfl)
theorem dX12_goesOver_21 : decode cX12_goesOver 21 = .ok (.iload_n 1, 1) := dq_27 (kX12_goesOver_0 21 rfl)
theorem dX12_goesOver_22 : decode cX12_goesOver 22 = .ok (.if_icmp .ne 7, 3) := dq_160 (kX12_goesOver_0 22 rfl) (kX12_goesOver_0 23 rfl) (kX12_goesOver_0 24 rfl) (by decide)
theorem dX12_goesOver_25 : decode cX12_goesOver 25 = .ok (.iconst 0, 1) := dq_3 (kX12_goesOver_0 25 rfl)
theorem dX12_goesOver_26 : decode cX12_goesOver 26 = .ok (.goto 6, 3) := dq_167 (kX12_goesOver_0 26 rfl) (kX12_goesOver_0 27 rfl) (kX12_goesOver_0 28 rfl) (by decide)
theorem dX12_goesOver_29 : decode cX12_goesOver 29 = .ok (.ldc_w 638, 3) := dq_19 (kX12_goesOver_0 29 rfl) (kX12_goesOver_0 30 rfl) (kX12_goesOver_0 31 rfl) rfl
theorem dX12_goesOver_32 : decode cX12_goesOver 32 = .ok (.iastore, 1) := dq_79 (kX12_goesOver_1 0 rfl)
theorem dX12_goesOver_33 : decode cX12_goesOver 33 = .ok (.iinc 2 1, 3) := dq_132 (kX12_goesOver_1 1 rfl) (kX12_goesOver_1 2 rfl) (kX12_goesOver_1 3 rfl) rfl (by decide)
theorem dX12_goesOver_36 : decode cX12_goesOver 36 = .ok (.goto (-34), 3) := dq_167 (kX12_goesOver_1 4 rfl) (kX12_goesOver_1 5 rfl) (kX12_goesOver_1 6 rfl) (by decide)
theorem dX12_goesOver_39 : decode cX12_goesOver 39 = .ok (.iconst 1, 1) := dq_4 (kX12_goesOver_1 7 rfl)
theorem dX12_goesOver_40 : decode cX12_goesOver 40 = .ok (.istore_n 2, 1) := dq_61 (kX12_goesOver_1 8 rfl)
theorem dX12_goesOver_41 : decode cX12_goesOver 41 = .ok (.iload_n 2, 1) := dq_28 (kX12_goesOver_1 9 rfl)
theorem dX12_goesOver_42 : decode cX12_goesOver 42 = .ok (.ifCond .eq 146, 3) := dq_153 (kX12_goesOver_1 10 rfl) (kX12_goesOver_1 11 rfl) (kX12_goesOver_1 12 rfl) (by decide)
theorem dX12_goesOver_45 : decode cX12_goesOver 45 = .ok (.iconst 0, 1) := dq_3 (kX12_goesOver_1 13 rfl)
theorem dX12_goesOver_46 : decode cX12_goesOver 46 = .ok (.istore_n 2, 1) := dq_61 (kX12_goesOver_1 14 rfl)
theorem dX12_goesOver_47 : decode cX12_goesOver 47 = .ok (.iconst 0, 1) := dq_3 (kX12_goesOver_1 15 rfl)
theorem dX12_goesOver_48 : decode cX12_goesOver 48 = .ok (.istore_n 3, 1) := dq_62 (kX12_goesOver_1 16 rfl)
theorem dX12_goesOver_49 : decode cX12_goesOver 49 = .ok (.iload_n 3, 1) := dq_29 (kX12_goesOver_1 17 rfl)
theorem dX12_goesOver_50 : decode cX12_goesOver 50 = .ok (.aload_n 0, 1) := dq_42 (kX12_goesOver_1 18 rfl)
theorem dX12_goesOver_51 : decode cX12_goesOver 51 = .ok (.getfield 365, 3) := dq_180 (kX12_goesOver_1 19 rfl) (kX12_goesOver_1 20 rfl) (kX12_goesOver_1 21 rfl) rfl
theorem dX12_goesOver_54 : decode cX12_goesOver 54 = .ok (.aload_n 0, 1) := dq_42 (kX12_goesOver_1 22 rfl)
theorem dX12_goesOver_55 : decode cX12_goesOver 55 = .ok (.getfield 368, 3) := dq_180 (kX12_goesOver_1 23 rfl) (kX12_goesOver_1 24 rfl) (kX12_goesOver_1 25 rfl) rfl
theorem dX12_goesOver_58 : decode cX12_goesOver 58 = .ok (.imul, 1) := dq_104 (kX12_goesOver_1 26 rfl)
theorem dX12_goesOver_59 : decode cX12_goesOver 59 = .ok (.if_icmp .ge 126, 3) := dq_162 (kX12_goesOver_1 27 rfl) (kX12_goesOver_1 28 rfl) (kX12_goesOver_1 29 rfl) (by decide)
theorem dX12_goesOver_62 : decode cX12_goesOver 62 = .ok (.iconst 0, 1) := dq_3 (kX12_goesOver_1 30 rfl)
theorem dX12_goesOver_63 : decode cX12_goesOver 63 = .ok (.istore 4, 2) := dq_54 (kX12_goesOver_1 31 rfl) (kX12_goesOver_2 0 rfl) rfl
theorem dX12_goesOver_65 : decode cX12_goesOver 65 = .ok (.iload 4, 2) := dq_21 (kX12_goesOver_2 1 rfl) (kX12_goesOver_2 2 rfl) rfl
theorem dX12_goesOver_67 : decode cX12_goesOver 67 = .ok (.bipush 8, 2) := dq_16 (kX12_goesOver_2 3 rfl) (kX12_goesOver_2 4 rfl) (by decide)
theorem dX12_goesOver_69 : decode cX12_goesOver 69 = .ok (.if_icmp .ge 110, 3) := dq_162 (kX12_goesOver_2 5 rfl) (kX12_goesOver_2 6 rfl) (kX12_goesOver_2 7 rfl) (by decide)
theorem dX12_goesOver_72 : decode cX12_goesOver 72 = .ok (.aload_n 0, 1) := dq_42 (kX12_goesOver_2 8 rfl)
theorem dX12_goesOver_73 : decode cX12_goesOver 73 = .ok (.getfield 277, 3) := dq_180 (kX12_goesOver_2 9 rfl) (kX12_goesOver_2 10 rfl) (kX12_goesOver_2 11 rfl) rfl
theorem dX12_goesOver_76 : decode cX12_goesOver 76 = .ok (.iload_n 3, 1) := dq_29 (kX12_goesOver_2 12 rfl)
theorem dX12_goesOver_77 : decode cX12_goesOver 77 = .ok (.iaload, 1) := dq_46 (kX12_goesOver_2 13 rfl)
theorem dX12_goesOver_78 : decode cX12_goesOver 78 = .ok (.ldc_w 638, 3) := dq_19 (kX12_goesOver_2 14 rfl) (kX12_goesOver_2 15 rfl) (kX12_goesOver_2 16 rfl) rfl
theorem dX12_goesOver_81 : decode cX12_goesOver 81 = .ok (.if_icmp .ge 98, 3) := dq_162 (kX12_goesOver_2 17 rfl) (kX12_goesOver_2 18 rfl) (kX12_goesOver_2 19 rfl) (by decide)
theorem dX12_goesOver_84 : decode cX12_goesOver 84 = .ok (.aload_n 0, 1) := dq_42 (kX12_goesOver_2 20 rfl)
theorem dX12_goesOver_85 : decode cX12_goesOver 85 = .ok (.iload_n 3, 1) := dq_29 (kX12_goesOver_2 21 rfl)
theorem dX12_goesOver_86 : decode cX12_goesOver 86 = .ok (.iload 4, 2) := dq_21 (kX12_goesOver_2 22 rfl) (kX12_goesOver_2 23 rfl) rfl
theorem dX12_goesOver_88 : decode cX12_goesOver 88 = .ok (.invokestatic 639, 3) := dq_184 (kX12_goesOver_2 24 rfl) (kX12_goesOver_2 25 rfl) (kX12_goesOver_2 26 rfl) rfl
theorem dX12_goesOver_91 : decode cX12_goesOver 91 = .ok (.iload 4, 2) := dq_21 (kX12_goesOver_2 27 rfl) (kX12_goesOver_2 28 rfl) rfl
theorem dX12_goesOver_93 : decode cX12_goesOver 93 = .ok (.invokestatic 642, 3) := dq_184 (kX12_goesOver_2 29 rfl) (kX12_goesOver_2 30 rfl) (kX12_goesOver_2 31 rfl) rfl
theorem dX12_goesOver_96 : decode cX12_goesOver 96 = .ok (.invokevirtual 645, 3) := dq_182 (kX12_goesOver_3 0 rfl) (kX12_goesOver_3 1 rfl) (kX12_goesOver_3 2 rfl) rfl
theorem dX12_goesOver_99 : decode cX12_goesOver 99 = .ok (.istore 5, 2) := dq_54 (kX12_goesOver_3 3 rfl) (kX12_goesOver_3 4 rfl) rfl
theorem dX12_goesOver_101 : decode cX12_goesOver 101 = .ok (.iload 5, 2) := dq_21 (kX12_goesOver_3 5 rfl) (kX12_goesOver_3 6 rfl) rfl
theorem dX12_goesOver_103 : decode cX12_goesOver 103 = .ok (.iconst (-1), 1) := dq_2 (kX12_goesOver_3 7 rfl)
theorem dX12_goesOver_104 : decode cX12_goesOver 104 = .ok (.if_icmp .eq 69, 3) := dq_159 (kX12_goesOver_3 8 rfl) (kX12_goesOver_3 9 rfl) (kX12_goesOver_3 10 rfl) (by decide)
theorem dX12_goesOver_107 : decode cX12_goesOver 107 = .ok (.aload_n 0, 1) := dq_42 (kX12_goesOver_3 11 rfl)
theorem dX12_goesOver_108 : decode cX12_goesOver 108 = .ok (.iload 5, 2) := dq_21 (kX12_goesOver_3 12 rfl) (kX12_goesOver_3 13 rfl) rfl
theorem dX12_goesOver_110 : decode cX12_goesOver 110 = .ok (.invokevirtual 425, 3) := dq_182 (kX12_goesOver_3 14 rfl) (kX12_goesOver_3 15 rfl) (kX12_goesOver_3 16 rfl) rfl
theorem dX12_goesOver_113 : decode cX12_goesOver 113 = .ok (.ifCond .ne 6, 3) := dq_154 (kX12_goesOver_3 17 rfl) (kX12_goesOver_3 18 rfl) (kX12_goesOver_3 19 rfl) (by decide)
theorem dX12_goesOver_116 : decode cX12_goesOver 116 = .ok (.goto 57, 3) := dq_167 (kX12_goesOver_3 20 rfl) (kX12_goesOver_3 21 rfl) (kX12_goesOver_3 22 rfl) (by decide)
theorem dX12_goesOver_119 : decode cX12_goesOver 119 = .ok (.aload_n 0, 1) := dq_42 (kX12_goesOver_3 23 rfl)
theorem dX12_goesOver_120 : decode cX12_goesOver 120 = .ok (.getfield 277, 3) := dq_180 (kX12_goesOver_3 24 rfl) (kX12_goesOver_3 25 rfl) (kX12_goesOver_3 26 rfl) rfl
theorem dX12_goesOver_123 : decode cX12_goesOver 123 = .ok (.iload_n 3, 1) := dq_29 (kX12_goesOver_3 27 rfl)
theorem dX12_goesOver_124 : decode cX12_goesOver 124 = .ok (.iaload, 1) := dq_46 (kX12_goesOver_3 28 rfl)
theorem dX12_goesOver_125 : decode cX12_goesOver 125 = .ok (.iconst 1, 1) := dq_4 (kX12_goesOver_3 29 rfl)
theorem dX12_goesOver_126 : decode cX12_goesOver 126 = .ok (.iadd, 1) := dq_96 (kX12_goesOver_3 30 rfl)
theorem dX12_goesOver_127 : decode cX12_goesOver 127 = .ok (.aload_n 0, 1) := dq_42 (kX12_goesOver_3 31 rfl)
theorem dX12_goesOver_128 : decode cX12_goesOver 128 = .ok (.getfield 16, 3) := dq_180 (kX12_goesOver_4 0 rfl) (kX12_goesOver_4 1 rfl) (kX12_goesOver_4 2 rfl) rfl
theorem dX12_goesOver_131 : decode cX12_goesOver 131 = .ok (.iload 5, 2) := dq_21 (kX12_goesOver_4 3 rfl) (kX12_goesOver_4 4 rfl) rfl
theorem dX12_goesOver_133 : decode cX12_goesOver 133 = .ok (.iaload, 1) := dq_46 (kX12_goesOver_4 5 rfl)
theorem dX12_goesOver_134 : decode cX12_goesOver 134 = .ok (.aload_n 0, 1) := dq_42 (kX12_goesOver_4 6 rfl)
theorem dX12_goesOver_135 : decode cX12_goesOver 135 = .ok (.getfield 16, 3) := dq_180 (kX12_goesOver_4 7 rfl) (kX12_goesOver_4 8 rfl) (kX12_goesOver_4 9 rfl) rfl
theorem dX12_goesOver_138 : decode cX12_goesOver 138 = .ok (.iload_n 3, 1) := dq_29 (kX12_goesOver_4 10 rfl)
theorem dX12_goesOver_139 : decode cX12_goesOver 139 = .ok (.iaload, 1) := dq_46 (kX12_goesOver_4 11 rfl)
theorem dX12_goesOver_140 : decode cX12_goesOver 140 = .ok (.isub, 1) := dq_100 (kX12_goesOver_4 12 rfl)
theorem dX12_goesOver_141 : decode cX12_goesOver 141 = .ok (.invokestatic 385, 3) := dq_184 (kX12_goesOver_4 13 rfl) (kX12_goesOver_4 14 rfl) (kX12_goesOver_4 15 rfl) rfl
theorem dX12_goesOver_144 : decode cX12_goesOver 144 = .ok (.iadd, 1) := dq_96 (kX12_goesOver_4 16 rfl)
theorem dX12_goesOver_145 : decode cX12_goesOver 145 = .ok (.istore 6, 2) := dq_54 (kX12_goesOver_4 17 rfl) (kX12_goesOver_4 18 rfl) rfl
theorem dX12_goesOver_147 : decode cX12_goesOver 147 = .ok (.iload 6, 2) := dq_21 (kX12_goesOver_4 19 rfl) (kX12_goesOver_4 20 rfl) rfl
theorem dX12_goesOver_149 : decode cX12_goesOver 149 = .ok (.aload_n 0, 1) := dq_42 (kX12_goesOver_4 21 rfl)
theorem dX12_goesOver_150 : decode cX12_goesOver 150 = .ok (.getfield 277, 3) := dq_180 (kX12_goesOver_4 22 rfl) (kX12_goesOver_4 23 rfl) (kX12_goesOver_4 24 rfl) rfl
theorem dX12_goesOver_153 : decode cX12_goesOver 153 = .ok (.iload 5, 2) := dq_21 (kX12_goesOver_4 25 rfl) (kX12_goesOver_4 26 rfl) rfl
theorem dX12_goesOver_155 : decode cX12_goesOver 155 = .ok (.iaload, 1) := dq_46 (kX12_goesOver_4 27 rfl)
theorem dX12_goesOver_156 : decode cX12_goesOver 156 = .ok (.if_icmp .lt 6, 3) := dq_161 (kX12_goesOver_4 28 rfl) (kX12_goesOver_4 29 rfl) (kX12_goesOver_4 30 rfl) (by decide)
theorem dX12_goesOver_159 : decode cX12_goesOver 159 = .ok (.goto 14, 3) := dq_167 (kX12_goesOver_4 31 rfl) (kX12_goesOver_5 0 rfl) (kX12_goesOver_5 1 rfl) (by decide)
theorem dX12_goesOver_162 : decode cX12_goesOver 162 = .ok (.aload_n 0, 1) := dq_42 (kX12_goesOver_5 2 rfl)
theorem dX12_goesOver_163 : decode cX12_goesOver 163 = .ok (.getfield 277, 3) := dq_180 (kX12_goesOver_5 3 rfl) (kX12_goesOver_5 4 rfl) (kX12_goesOver_5 5 rfl) rfl
theorem dX12_goesOver_166 : decode cX12_goesOver 166 = .ok (.iload 5, 2) := dq_21 (kX12_goesOver_5 6 rfl) (kX12_goesOver_5 7 rfl) rfl
theorem dX12_goesOver_168 : decode cX12_goesOver 168 = .ok (.iload 6, 2) := dq_21 (kX12_goesOver_5 8 rfl) (kX12_goesOver_5 9 rfl) rfl
theorem dX12_goesOver_170 : decode cX12_goesOver 170 = .ok (.iastore, 1) := dq_79 (kX12_goesOver_5 10 rfl)
theorem dX12_goesOver_171 : decode cX12_goesOver 171 = .ok (.iconst 1, 1) := dq_4 (kX12_goesOver_5 11 rfl)
theorem dX12_goesOver_172 : decode cX12_goesOver 172 = .ok (.istore_n 2, 1) := dq_61 (kX12_goesOver_5 12 rfl)
theorem dX12_goesOver_173 : decode cX12_goesOver 173 = .ok (.iinc 4 1, 3) := dq_132 (kX12_goesOver_5 13 rfl) (kX12_goesOver_5 14 rfl) (kX12_goesOver_5 15 rfl) rfl (by decide)
theorem dX12_goesOver_176 : decode cX12_goesOver 176 = .ok (.goto (-111), 3) := dq_167 (kX12_goesOver_5 16 rfl) (kX12_goesOver_5 17 rfl) (kX12_goesOver_5 18 rfl) (by decide)
theorem dX12_goesOver_179 : decode cX12_goesOver 179 = .ok (.iinc 3 1, 3) := dq_132 (kX12_goesOver_5 19 rfl) (kX12_goesOver_5 20 rfl) (kX12_goesOver_5 21 rfl) rfl (by decide)
theorem dX12_goesOver_182 : decode cX12_goesOver 182 = .ok (.goto (-133), 3) := dq_167 (kX12_goesOver_5 22 rfl) (kX12_goesOver_5 23 rfl) (kX12_goesOver_5 24 rfl) (by decide)
theorem dX12_goesOver_185 : decode cX12_goesOver 185 = .ok (.goto (-144), 3) := dq_167 (kX12_goesOver_5 25 rfl) (kX12_goesOver_5 26 rfl) (kX12_goesOver_5 27 rfl) (by decide)
theorem dX12_goesOver_188 : decode cX12_goesOver 188 = .ok (.return_, 1) := dq_177 (kX12_goesOver_5 28 rfl)
