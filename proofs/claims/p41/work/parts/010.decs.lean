def bX12_sledge_0 : List UInt8 := [42, 27, 182, 1, 177, 153, 0, 61, 42, 28, 182, 1, 177, 153, 0, 53, 27, 28, 159, 0, 48, 42, 180, 0, 38, 27, 46, 42, 180, 0, 38, 28]
theorem kX12_sledge_0 (j : Nat) {b : UInt8} (hj : bX12_sledge_0[j]? = some b) : AtB cX12_sledge (0 + j) b := at_of32 (by decide +kernel) j hj
def bX12_sledge_1 : List UInt8 := [46, 160, 0, 33, 29, 4, 17, 1, 244, 184, 1, 115, 153, 0, 22, 29, 42, 180, 0, 56, 27, 46, 163, 0, 12, 42, 180, 2, 136, 16, 40, 160]
theorem kX12_sledge_1 (j : Nat) {b : UInt8} (hj : bX12_sledge_1[j]? = some b) : AtB cX12_sledge (32 + j) b := at_of32 (by decide +kernel) j hj
def bX12_sledge_2 : List UInt8 := [0, 5, 2, 172, 42, 42, 180, 0, 41, 27, 46, 182, 2, 139, 42, 180, 1, 21, 42, 180, 0, 41, 28, 46, 46, 54, 4, 21, 4, 29, 161, 0]
theorem kX12_sledge_2 (j : Nat) {b : UInt8} (hj : bX12_sledge_2[j]? = some b) : AtB cX12_sledge (64 + j) b := at_of32 (by decide +kernel) j hj
def bX12_sledge_3 : List UInt8 := [5, 2, 172, 42, 180, 0, 56, 27, 42, 180, 0, 56, 27, 46, 29, 100, 79, 42, 42, 180, 2, 142, 21, 4, 133, 97, 181, 2, 142, 42, 180, 0]
theorem kX12_sledge_3 (j : Nat) {b : UInt8} (hj : bX12_sledge_3[j]? = some b) : AtB cX12_sledge (96 + j) b := at_of32 (by decide +kernel) j hj
def bX12_sledge_4 : List UInt8 := [247, 42, 180, 2, 136, 28, 79, 42, 180, 0, 250, 42, 180, 2, 136, 42, 180, 0, 41, 28, 46, 79, 42, 180, 0, 253, 42, 180, 2, 136, 29, 21]
theorem kX12_sledge_4 (j : Nat) {b : UInt8} (hj : bX12_sledge_4[j]? = some b) : AtB cX12_sledge (128 + j) b := at_of32 (by decide +kernel) j hj
def bX12_sledge_5 : List UInt8 := [4, 100, 79, 42, 180, 1, 0, 42, 180, 2, 136, 42, 180, 1, 140, 21, 4, 158, 0, 8, 21, 4, 167, 0, 4, 4, 96, 79, 42, 180, 1, 3]
theorem kX12_sledge_5 (j : Nat) {b : UInt8} (hj : bX12_sledge_5[j]? = some b) : AtB cX12_sledge (160 + j) b := at_of32 (by decide +kernel) j hj
def bX12_sledge_6 : List UInt8 := [42, 180, 2, 136, 4, 84, 42, 42, 180, 2, 136, 4, 96, 181, 2, 136, 42, 180, 1, 0, 42, 180, 2, 136, 4, 100, 46, 172]
theorem kX12_sledge_6 (j : Nat) {b : UInt8} (hj : bX12_sledge_6[j]? = some b) : AtB cX12_sledge (192 + j) b := at_of32 (by decide +kernel) j hj
theorem dX12_sledge_0 : decode cX12_sledge 0 = .ok (.aload_n 0, 1) := dq_42 (kX12_sledge_0 0 rfl)
theorem dX12_sledge_1 : decode cX12_sledge 1 = .ok (.iload_n 1, 1) := dq_27 (kX12_sledge_0 1 rfl)
theorem dX12_sledge_2 : decode cX12_sledge 2 = .ok (.invokevirtual 433, 3) := dq_182 (kX12_sledge_0 2 rfl) (kX12_sledge_0 3 rfl) (kX12_sledge_0 4 rfl) rfl
theorem dX12_sledge_5 : decode cX12_sledge 5 = .ok (.ifCond .eq 61, 3) := dq_153 (kX12_sledge_0 5 rfl) (kX12_sledge_0 6 rfl) (kX12_sledge_0 7 rfl) (by decide)
theorem dX12_sledge_8 : decode cX12_sledge 8 = .ok (.aload_n 0, 1) := dq_42 (kX12_sledge_0 8 rfl)
theorem dX12_sledge_9 : decode cX12_sledge 9 = .ok (.iload_n 2, 1) := dq_28 (kX12_sledge_0 9 rfl)
theorem dX12_sledge_10 : decode cX12_sledge 10 = .ok (.invokevirtual 433, 3) := dq_182 (kX12_sledge_0 10 rfl) (kX12_sledge_0 11 rfl) (kX12_sledge_0 12 rfl) rfl
theorem dX12_sledge_13 : decode cX12_sledge 13 = .ok (.ifCond .eq 53, 3) := dq_153 (kX12_sledge_0 13 rfl) (kX12_sledge_0 14 rfl) (kX12_sledge_0 15 rfl) (by decide)
theorem dX12_sledge_16 : decode cX12_sledge 16 = .ok (.iload_n 1, 1) := dq_27 (kX12_sledge_0 16 rfl)
theorem dX12_sledge_17 : decode cX12_sledge 17 = .ok (.iload_n 2, 1) := dq_28 (kX12_sledge_0 17 rfl)
theorem dX12_sledge_18 : decode cX12_sledge 18 = .ok (.if_icmp .eq 48, 3) := dq_159 (kX12_sledge_0 18 rfl) (kX12_sledge_0 19 rfl) (kX12_sledge_0 20 rfl) (by decide)
theorem dX12_sledge_21 : decode cX12_sledge 21 = .ok (.aload_n 0, 1) := dq_42 (kX12_sledge_0 21 rfl)
theorem dX12_sledge_22 : decode cX12_sledge 22 = .ok (.getfield 38, 3) := dq_180 (kX12_sledge_0 22 rfl) (kX12_sledge_0 23 rfl) (kX12_sledge_0 24 rfl) rfl
theorem dX12_sledge_25 : decode cX12_sledge 25 = .ok (.iload_n 1, 1) := dq_27 (kX12_sledge_0 25 rfl)
theorem dX12_sledge_26 : decode cX12_sledge 26 = .ok (.iaload, 1) := dq_46 (kX12_sledge_0 26 rfl)
theorem dX12_sledge_27 : decode cX12_sledge 27 = .ok (.aload_n 0, 1) := dq_42 (kX12_sledge_0 27 rfl)
theorem dX12_sledge_28 : decode cX12_sledge 28 = .ok (.getfield 38, 3) := dq_180 (kX12_sledge_0 28 rfl) (kX12_sledge_0 29 rfl) (kX12_sledge_0 30 rfl) rfl
theorem dX12_sledge_31 : decode cX12_sledge 31 = .ok (.iload_n 2, 1) := dq_28 (kX12_sledge_0 31 rfl)
theorem dX12_sledge_32 : decode cX12_sledge 32 = .ok (.iaload, 1) := dq_46 (kX12_sledge_1 0 rfl)
theorem dX12_sledge_33 : decode cX12_sledge 33 = .ok (.if_icmp .ne 33, 3) := dq_160 (kX12_sledge_1 1 rfl) (kX12_sledge_1 2 rfl) (kX12_sledge_1 3 rfl) (by decide)
theorem dX12_sledge_36 : decode cX12_sledge 36 = .ok (.iload_n 3, 1) := dq_29 (kX12_sledge_1 4 rfl)
theorem dX12_sledge_37 : decode cX12_sledge 37 = .ok (.iconst 1, 1) := dq_4 (kX12_sledge_1 5 rfl)
theorem dX12_sledge_38 : decode cX12_sledge 38 = .ok (.sipush 500, 3) := dq_17 (kX12_sledge_1 6 rfl) (kX12_sledge_1 7 rfl) (kX12_sledge_1 8 rfl) (by decide)
theorem dX12_sledge_41 : decode cX12_sledge 41 = .ok (.invokestatic 371, 3) := dq_184 (kX12_sledge_1 9 rfl) (kX12_sledge_1 10 rfl) (kX12_sledge_1 11 rfl) rfl
theorem dX12_sledge_44 : decode cX12_sledge 44 = .ok (.ifCond .eq 22, 3) := dq_153 (kX12_sledge_1 12 rfl) (kX12_sledge_1 13 rfl) (kX12_sledge_1 14 rfl) (by decide)
theorem dX12_sledge_47 : decode cX12_sledge 47 = .ok (.iload_n 3, 1) := dq_29 (kX12_sledge_1 15 rfl)
theorem dX12_sledge_48 : decode cX12_sledge 48 = .ok (.aload_n 0, 1) := dq_42 (kX12_sledge_1 16 rfl)
theorem dX12_sledge_49 : decode cX12_sledge 49 = .ok (.getfield 56, 3) := dq_180 (kX12_sledge_1 17 rfl) (kX12_sledge_1 18 rfl) (kX12_sledge_1 19 rfl) rfl
theorem dX12_sledge_52 : decode cX12_sledge 52 = .ok (.iload_n 1, 1) := dq_27 (kX12_sledge_1 20 rfl)
theorem dX12_sledge_53 : decode cX12_sledge 53 = .ok (.iaload, 1) := dq_46 (kX12_sledge_1 21 rfl)
theorem dX12_sledge_54 : decode cX12_sledge 54 = .ok (.if_icmp .gt 12, 3) := dq_163 (kX12_sledge_1 22 rfl) (kX12_sledge_1 23 rfl) (kX12_sledge_1 24 rfl) (by decide)
theorem dX12_sledge_57 : decode cX12_sledge 57 = .ok (.aload_n 0, 1) := dq_42 (kX12_sledge_1 25 rfl)
theorem dX12_sledge_58 : decode cX12_sledge 58 = .ok (.getfield 648, 3) := dq_180 (kX12_sledge_1 26 rfl) (kX12_sledge_1 27 rfl) (kX12_sledge_1 28 rfl) rfl
theorem dX12_sledge_61 : decode cX12_sledge 61 = .ok (.bipush 40, 2) := dq_16 (kX12_sledge_1 29 rfl) (kX12_sledge_1 30 rfl) (by decide)
theorem dX12_sledge_63 : decode cX12_sledge 63 = .ok (.if_icmp .ne 5, 3) := dq_160 (kX12_sledge_1 31 rfl) (kX12_sledge_2 0 rfl) (kX12_sledge_2 1 rfl) (by decide)
theorem dX12_sledge_66 : decode cX12_sledge 66 = .ok (.iconst (-1), 1) := dq_2 (kX12_sledge_2 2 rfl)
theorem dX12_sledge_67 : decode cX12_sledge 67 = .ok (.ireturn, 1) := dq_172 (kX12_sledge_2 3 rfl)
theorem dX12_sledge_68 : decode cX12_sledge 68 = .ok (.aload_n 0, 1) := dq_42 (kX12_sledge_2 4 rfl)
theorem dX12_sledge_69 : decode cX12_sledge 69 = .ok (.aload_n 0, 1) := dq_42 (kX12_sledge_2 5 rfl)
theorem dX12_sledge_70 : decode cX12_sledge 70 = .ok (.getfield 41, 3) := dq_180 (kX12_sledge_2 6 rfl) (kX12_sledge_2 7 rfl) (kX12_sledge_2 8 rfl) rfl
theorem dX12_sledge_73 : decode cX12_sledge 73 = .ok (.iload_n 1, 1) := dq_27 (kX12_sledge_2 9 rfl)
theorem dX12_sledge_74 : decode cX12_sledge 74 = .ok (.iaload, 1) := dq_46 (kX12_sledge_2 10 rfl)
theorem dX12_sledge_75 : decode cX12_sledge 75 = .ok (.invokevirtual 651, 3) := dq_182 (kX12_sledge_2 11 rfl) (kX12_sledge_2 12 rfl) (kX12_sledge_2 13 rfl) rfl
theorem dX12_sledge_78 : decode cX12_sledge 78 = .ok (.aload_n 0, 1) := dq_42 (kX12_sledge_2 14 rfl)
theorem dX12_sledge_79 : decode cX12_sledge 79 = .ok (.getfield 277, 3) := dq_180 (kX12_sledge_2 15 rfl) (kX12_sledge_2 16 rfl) (kX12_sledge_2 17 rfl) rfl
theorem dX12_sledge_82 : decode cX12_sledge 82 = .ok (.aload_n 0, 1) := dq_42 (kX12_sledge_2 18 rfl)
theorem dX12_sledge_83 : decode cX12_sledge 83 = .ok (.getfield 41, 3) := dq_180 (kX12_sledge_2 19 rfl) (kX12_sledge_2 20 rfl) (kX12_sledge_2 21 rfl) rfl
theorem dX12_sledge_86 : decode cX12_sledge 86 = .ok (.iload_n 2, 1) := dq_28 (kX12_sledge_2 22 rfl)
theorem dX12_sledge_87 : decode cX12_sledge 87 = .ok (.iaload, 1) := dq_46 (kX12_sledge_2 23 rfl)
theorem dX12_sledge_88 : decode cX12_sledge 88 = .ok (.iaload, 1) := dq_46 (kX12_sledge_2 24 rfl)
theorem dX12_sledge_89 : decode cX12_sledge 89 = .ok (.istore 4, 2) := dq_54 (kX12_sledge_2 25 rfl) (kX12_sledge_2 26 rfl) rfl
theorem dX12_sledge_91 : decode cX12_sledge 91 = .ok (.iload 4, 2) := dq_21 (kX12_sledge_2 27 rfl) (kX12_sledge_2 28 rfl) rfl
theorem dX12_sledge_93 : decode cX12_sledge 93 = .ok (.iload_n 3, 1) := dq_29 (kX12_sledge_2 29 rfl)
theorem dX12_sledge_94 : decode cX12_sledge 94 = .ok (.if_icmp .lt 5, 3) := dq_161 (kX12_sledge_2 30 rfl) (kX12_sledge_2 31 rfl) (kX12_sledge_3 0 rfl) (by decide)
theorem dX12_sledge_97 : decode cX12_sledge 97 = .ok (.iconst (-1), 1) := dq_2 (kX12_sledge_3 1 rfl)
theorem dX12_sledge_98 : decode cX12_sledge 98 = .ok (.ireturn, 1) := dq_172 (kX12_sledge_3 2 rfl)
theorem dX12_sledge_99 : decode cX12_sledge 99 = .ok (.aload_n 0, 1) := dq_42 (kX12_sledge_3 3 rfl)
theorem dX12_sledge_100 : decode cX12_sledge 100 = .ok (.getfield 56, 3) := dq_180 (kX12_sledge_3 4 rfl) (kX12_sledge_3 5 rfl) (kX12_sledge_3 6 rfl) rfl
theorem dX12_sledge_103 : decode cX12_sledge 103 = .ok (.iload_n 1, 1) := dq_27 (kX12_sledge_3 7 rfl)
theorem dX12_sledge_104 : decode cX12_sledge 104 = .ok (.aload_n 0, 1) := dq_42 (kX12_sledge_3 8 rfl)
theorem dX12_sledge_105 : decode cX12_sledge 105 = .ok (.getfield 56, 3) := dq_180 (kX12_sledge_3 9 rfl) (kX12_sledge_3 10 rfl) (kX12_sledge_3 11 rfl) rfl
theorem dX12_sledge_108 : decode cX12_sledge 108 = .ok (.iload_n 1, 1) := dq_27 (kX12_sledge_3 12 rfl)
theorem dX12_sledge_109 : decode cX12_sledge 109 = .ok (.iaload, 1) := dq_46 (kX12_sledge_3 13 rfl)
theorem dX12_sledge_110 : decode cX12_sledge 110 = .ok (.iload_n 3, 1) := dq_29 (kX12_sledge_3 14 rfl)
theorem dX12_sledge_111 : decode cX12_sledge 111 = .ok (.isub, 1) := dq_100 (kX12_sledge_3 15 rfl)
theorem dX12_sledge_112 : decode cX12_sledge 112 = .ok (.iastore, 1) := dq_79 (kX12_sledge_3 16 rfl)
theorem dX12_sledge_113 : decode cX12_sledge 113 = .ok (.aload_n 0, 1) := dq_42 (kX12_sledge_3 17 rfl)
theorem dX12_sledge_114 : decode cX12_sledge 114 = .ok (.aload_n 0, 1) := dq_42 (kX12_sledge_3 18 rfl)
theorem dX12_sledge_115 : decode cX12_sledge 115 = .ok (.getfield 654, 3) := dq_180 (kX12_sledge_3 19 rfl) (kX12_sledge_3 20 rfl) (kX12_sledge_3 21 rfl) rfl
theorem dX12_sledge_118 : decode cX12_sledge 118 = .ok (.iload 4, 2) := dq_21 (kX12_sledge_3 22 rfl) (kX12_sledge_3 23 rfl) rfl
theorem dX12_sledge_120 : decode cX12_sledge 120 = .ok (.i2l, 1) := dq_133 (kX12_sledge_3 24 rfl)
theorem dX12_sledge_121 : decode cX12_sledge 121 = .ok (.ladd, 1) := dq_97 (kX12_sledge_3 25 rfl)
theorem dX12_sledge_122 : decode cX12_sledge 122 = .ok (.putfield 654, 3) := dq_181 (kX12_sledge_3 26 rfl) (kX12_sledge_3 27 rfl) (kX12_sledge_3 28 rfl) rfl
theorem dX12_sledge_125 : decode cX12_sledge 125 = .ok (.aload_n 0, 1) := dq_42 (kX12_sledge_3 29 rfl)
theorem dX12_sledge_126 : decode cX12_sledge 126 = .ok (.getfield 247, 3) := dq_180 (kX12_sledge_3 30 rfl) (kX12_sledge_3 31 rfl) (kX12_sledge_4 0 rfl) rfl
theorem dX12_sledge_129 : decode cX12_sledge 129 = .ok (.aload_n 0, 1) := dq_42 (kX12_sledge_4 1 rfl)
theorem dX12_sledge_130 : decode cX12_sledge 130 = .ok (.getfield 648, 3) := dq_180 (kX12_sledge_4 2 rfl) (kX12_sledge_4 3 rfl) (kX12_sledge_4 4 rfl) rfl
theorem dX12_sledge_133 : decode cX12_sledge 133 = .ok (.iload_n 2, 1) := dq_28 (kX12_sledge_4 5 rfl)
theorem dX12_sledge_134 : decode cX12_sledge 134 = .ok (.iastore, 1) := dq_79 (kX12_sledge_4 6 rfl)
theorem dX12_sledge_135 : decode cX12_sledge 135 = .ok (.aload_n 0, 1) := dq_42 (kX12_sledge_4 7 rfl)
theorem dX12_sledge_136 : decode cX12_sledge 136 = .ok (.getfield 250, 3) := dq_180 (kX12_sledge_4 8 rfl) (kX12_sledge_4 9 rfl) (kX12_sledge_4 10 rfl) rfl
theorem dX12_sledge_139 : decode cX12_sledge 139 = .ok (.aload_n 0, 1) := dq_42 (kX12_sledge_4 11 rfl)
theorem dX12_sledge_140 : decode cX12_sledge 140 = .ok (.getfield 648, 3) := dq_180 (kX12_sledge_4 12 rfl) (kX12_sledge_4 13 rfl) (kX12_sledge_4 14 rfl) rfl
theorem dX12_sledge_143 : decode cX12_sledge 143 = .ok (.aload_n 0, 1) := dq_42 (kX12_sledge_4 15 rfl)
theorem dX12_sledge_144 : decode cX12_sledge 144 = .ok (.getfield 41, 3) := dq_180 (kX12_sledge_4 16 rfl) (kX12_sledge_4 17 rfl) (kX12_sledge_4 18 rfl) rfl
theorem dX12_sledge_147 : decode cX12_sledge 147 = .ok (.iload_n 2, 1) := dq_28 (kX12_sledge_4 19 rfl)
theorem dX12_sledge_148 : decode cX12_sledge 148 = .ok (.iaload, 1) := dq_46 (kX12_sledge_4 20 rfl)
theorem dX12_sledge_149 : decode cX12_sledge 149 = .ok (.iastore, 1) := dq_79 (kX12_sledge_4 21 rfl)
theorem dX12_sledge_150 : decode cX12_sledge 150 = .ok (.aload_n 0, 1) := dq_42 (kX12_sledge_4 22 rfl)
theorem dX12_sledge_151 : decode cX12_sledge 151 = .ok (.getfield 253, 3) := dq_180 (kX12_sledge_4 23 rfl) (kX12_sledge_4 24 rfl) (kX12_sledge_4 25 rfl) rfl
theorem dX12_sledge_154 : decode cX12_sledge 154 = .ok (.aload_n 0, 1) := dq_42 (kX12_sledge_4 26 rfl)
theorem dX12_sledge_155 : decode cX12_sledge 155 = .ok (.getfield 648, 3) := dq_180 (kX12_sledge_4 27 rfl) (kX12_sledge_4 28 rfl) (kX12_sledge_4 29 rfl) rfl
theorem dX12_sledge_158 : decode cX12_sledge 158 = .ok (.iload_n 3, 1) := dq_29 (kX12_sledge_4 30 rfl)
theorem dX12_sledge_159 : decode cX12_sledge 159 = .ok (.iload 4, 2) := dq_21 (kX12_sledge_4 31 rfl) (kX12_sledge_5 0 rfl) rfl
theorem dX12_sledge_161 : decode cX12_sledge 161 = .ok (.isub, 1) := dq_100 (kX12_sledge_5 1 rfl)
theorem dX12_sledge_162 : decode cX12_sledge 162 = .ok (.iastore, 1) := dq_79 (kX12_sledge_5 2 rfl)
theorem dX12_sledge_163 : decode cX12_sledge 163 = .ok (.aload_n 0, 1) := dq_42 (kX12_sledge_5 3 rfl)
theorem dX12_sledge_164 : decode cX12_sledge 164 = .ok (.getfield 256, 3) := dq_180 (kX12_sledge_5 4 rfl) (kX12_sledge_5 5 rfl) (kX12_sledge_5 6 rfl) rfl
theorem dX12_sledge_167 : decode cX12_sledge 167 = .ok (.aload_n 0, 1) := dq_42 (kX12_sledge_5 7 rfl)
theorem dX12_sledge_168 : decode cX12_sledge 168 = .ok (.getfield 648, 3) := dq_180 (kX12_sledge_5 8 rfl) (kX12_sledge_5 9 rfl) (kX12_sledge_5 10 rfl) rfl
theorem dX12_sledge_171 : decode cX12_sledge 171 = .ok (.aload_n 0, 1) := dq_42 (kX12_sledge_5 11 rfl)
theorem dX12_sledge_172 : decode cX12_sledge 172 = .ok (.getfield 396, 3) := dq_180 (kX12_sledge_5 12 rfl) (kX12_sledge_5 13 rfl) (kX12_sledge_5 14 rfl) rfl
theorem dX12_sledge_175 : decode cX12_sledge 175 = .ok (.iload 4, 2) := dq_21 (kX12_sledge_5 15 rfl) (kX12_sledge_5 16 rfl) rfl
theorem dX12_sledge_177 : decode cX12_sledge 177 = .ok (.ifCond .le 8, 3) := dq_158 (kX12_sledge_5 17 rfl) (kX12_sledge_5 18 rfl) (kX12_sledge_5 19 rfl) (by decide)
theorem dX12_sledge_180 : decode cX12_sledge 180 = .ok (.iload 4, 2) := dq_21 (kX12_sledge_5 20 rfl) (kX12_sledge_5 21 rfl) rfl
theorem dX12_sledge_182 : decode cX12_sledge 182 = .ok (.goto 4, 3) := dq_167 (kX12_sledge_5 22 rfl) (kX12_sledge_5 23 rfl) (kX12_sledge_5 24 rfl) (by decide)
theorem dX12_sledge_185 : decode cX12_sledge 185 = .ok (.iconst 1, 1) := dq_4 (kX12_sledge_5 25 rfl)
theorem dX12_sledge_186 : decode cX12_sledge 186 = .ok (.iadd, 1) := dq_96 (kX12_sledge_5 26 rfl)
theorem dX12_sledge_187 : decode cX12_sledge 187 = .ok (.iastore, 1) := dq_79 (kX12_sledge_5 27 rfl)
theorem dX12_sledge_188 : decode cX12_sledge 188 = .ok (.aload_n 0, 1) := dq_42 (kX12_sledge_5 28 rfl)
theorem dX12_sledge_189 : decode cX12_sledge 189 = .ok (.getfield 259, 3) := dq_180 (kX12_sledge_5 29 rfl) (kX12_sledge_5 30 rfl) (kX12_sledge_5 31 rfl) rfl
theorem dX12_sledge_192 : decode cX12_sledge 192 = .ok (.aload_n 0, 1) := dq_42 (kX12_sledge_6 0 rfl)
theorem dX12_sledge_193 : decode cX12_sledge 193 = .ok (.getfield 648, 3) := dq_180 (kX12_sledge_6 1 rfl) (kX12_sledge_6 2 rfl) (kX12_sledge_6 3 rfl) rfl
theorem dX12_sledge_196 : decode cX12_sledge 196 = .ok (.iconst 1, 1) := dq_4 (kX12_sledge_6 4 rfl)
theorem dX12_sledge_197 : decode cX12_sledge 197 = .ok (.bastore, 1) := dq_84 (kX12_sledge_6 5 rfl)
theorem dX12_sledge_198 : decode cX12_sledge 198 = .ok (.aload_n 0, 1) := dq_42 (kX12_sledge_6 6 rfl)
theorem dX12_sledge_199 : decode cX12_sledge 199 = .ok (.aload_n 0, 1) := dq_42 (kX12_sledge_6 7 rfl)
theorem dX12_sledge_200 : decode cX12_sledge 200 = .ok (.getfield 648, 3) := dq_180 (kX12_sledge_6 8 rfl) (kX12_sledge_6 9 rfl) (kX12_sledge_6 10 rfl) rfl
theorem dX12_sledge_203 : decode cX12_sledge 203 = .ok (.iconst 1, 1) := dq_4 (kX12_sledge_6 11 rfl)
theorem dX12_sledge_204 : decode cX12_sledge 204 = .ok (.iadd, 1) := dq_96 (kX12_sledge_6 12 rfl)
theorem dX12_sledge_205 : decode cX12_sledge 205 = .ok (.putfield 648, 3) := dq_181 (kX12_sledge_6 13 rfl) (kX12_sledge_6 14 rfl) (kX12_sledge_6 15 rfl) rfl
theorem dX12_sledge_208 : decode cX12_sledge 208 = .ok (.aload_n 0, 1) := dq_42 (kX12_sledge_6 16 rfl)
theorem dX12_sledge_209 : decode cX12_sledge 209 = .ok (.getfield 256, 3) := dq_180 (kX12_sledge_6 17 rfl) (kX12_sledge_6 18 rfl) (kX12_sledge_6 19 rfl) rfl
theorem dX12_sledge_212 : decode cX12_sledge 212 = .ok (.aload_n 0, 1) := dq_42 (kX12_sledge_6 20 rfl)
theorem dX12_sledge_213 : decode cX12_sledge 213 = .ok (.getfield 648, 3) := dq_180 (kX12_sledge_6 21 rfl) (kX12_sledge_6 22 rfl) (kX12_sledge_6 23 rfl) rfl
theorem dX12_sledge_216 : decode cX12_sledge 216 = .ok (.iconst 1, 1) := dq_4 (kX12_sledge_6 24 rfl)
theorem dX12_sledge_217 : decode cX12_sledge 217 = .ok (.isub, 1) := dq_100 (kX12_sledge_6 25 rfl)
theorem dX12_sledge_218 : decode cX12_sledge 218 = .ok (.iaload, 1) := dq_46 (kX12_sledge_6 26 rfl)
theorem dX12_sledge_219 : decode cX12_sledge 219 = .ok (.ireturn, 1) := dq_172 (kX12_sledge_6 27 rfl)

def bX12_sledgeGoes_0 : List UInt8 := [42, 180, 1, 3, 27, 51, 153, 0, 16, 42, 180, 1, 140, 42, 180, 1, 0, 27, 46, 162, 0, 4, 177, 42, 180, 1, 3, 27, 3, 84, 42, 180]
theorem kX12_sledgeGoes_0 (j : Nat) {b : UInt8} (hj : bX12_sledgeGoes_0[j]? = some b) : AtB cX12_sledgeGoes (0 + j) b := at_of32 (by decide +kernel) j hj
def bX12_sledgeGoes_1 : List UInt8 := [0, 247, 27, 46, 61, 42, 180, 0, 80, 28, 51, 154, 0, 18, 42, 180, 0, 41, 28, 46, 42, 180, 0, 250, 27, 46, 159, 0, 22, 42, 42, 180]
theorem kX12_sledgeGoes_1 (j : Nat) {b : UInt8} (hj : bX12_sledgeGoes_1[j]? = some b) : AtB cX12_sledgeGoes (32 + j) b := at_of32 (by decide +kernel) j hj
def bX12_sledgeGoes_2 : List UInt8 := [2, 145, 42, 180, 0, 253, 27, 46, 133, 97, 181, 2, 145, 167, 0, 22, 42, 180, 0, 56, 28, 42, 180, 0, 56, 28, 46, 42, 180, 0, 253, 27]
theorem kX12_sledgeGoes_2 (j : Nat) {b : UInt8} (hj : bX12_sledgeGoes_2[j]? = some b) : AtB cX12_sledgeGoes (64 + j) b := at_of32 (by decide +kernel) j hj
def bX12_sledgeGoes_3 : List UInt8 := [46, 96, 79, 177]
theorem kX12_sledgeGoes_3 (j : Nat) {b : UInt8} (hj : bX12_sledgeGoes_3[j]? = some b) : AtB cX12_sledgeGoes (96 + j) b := at_of32 (by decide +kernel) j hj
theorem dX12_sledgeGoes_0 : decode cX12_sledgeGoes 0 = .ok (.aload_n 0, 1) := dq_42 (kX12_sledgeGoes_0 0 rfl)
theorem dX12_sledgeGoes_1 : decode cX12_sledgeGoes 1 = .ok (.getfield 259, 3) := dq_180 (kX12_sledgeGoes_0 1 rfl) (kX12_sledgeGoes_0 2 rfl) (kX12_sledgeGoes_0 3 rfl) rfl
theorem dX12_sledgeGoes_4 : decode cX12_sledgeGoes 4 = .ok (.iload_n 1, 1) := dq_27 (kX12_sledgeGoes_0 4 rfl)
theorem dX12_sledgeGoes_5 : decode cX12_sledgeGoes 5 = .ok (.baload, 1) := dq_51 (kX12_sledgeGoes_0 5 rfl)
theorem dX12_sledgeGoes_6 : decode cX12_sledgeGoes 6 = .ok (.ifCond .eq 16, 3) := dq_153 (kX12_sledgeGoes_0 6 rfl) (kX12_sledgeGoes_0 7 rfl) (kX12_sledgeGoes_0 8 rfl) (by decide)
theorem dX12_sledgeGoes_9 : decode cX12_sledgeGoes 9 = .ok (.aload_n 0, 1) := dq_42 (kX12_sledgeGoes_0 9 rfl)
theorem dX12_sledgeGoes_10 : decode cX12_sledgeGoes 10 = .ok (.getfield 396, 3) := dq_180 (kX12_sledgeGoes_0 10 rfl) (kX12_sledgeGoes_0 11 rfl) (kX12_sledgeGoes_0 12 rfl) rfl
theorem dX12_sledgeGoes_13 : decode cX12_sledgeGoes 13 = .ok (.aload_n 0, 1) := dq_42 (kX12_sledgeGoes_0 13 rfl)
theorem dX12_sledgeGoes_14 : decode cX12_sledgeGoes 14 = .ok (.getfield 256, 3) := dq_180 (kX12_sledgeGoes_0 14 rfl) (kX12_sledgeGoes_0 15 rfl) (kX12_sledgeGoes_0 16 rfl) rfl
theorem dX12_sledgeGoes_17 : decode cX12_sledgeGoes 17 = .ok (.iload_n 1, 1) := dq_27 (kX12_sledgeGoes_0 17 rfl)
theorem dX12_sledgeGoes_18 : decode cX12_sledgeGoes 18 = .ok (.iaload, 1) := dq_46 (kX12_sledgeGoes_0 18 rfl)
theorem dX12_sledgeGoes_19 : decode cX12_sledgeGoes 19 = .ok (.if_icmp .ge 4, 3) := dq_162 (kX12_sledgeGoes_0 19 rfl) (kX12_sledgeGoes_0 20 rfl) (kX12_sledgeGoes_0 21 rfl) (by decide)
theorem dX12_sledgeGoes_22 : decode cX12_sledgeGoes 22 = .ok (.return_, 1) := dq_177 (kX12_sledgeGoes_0 22 rfl)
theorem dX12_sledgeGoes_23 : decode cX12_sledgeGoes 23 = .ok (.aload_n 0, 1) := dq_42 (kX12_sledgeGoes_0 23 rfl)
theorem dX12_sledgeGoes_24 : decode cX12_sledgeGoes 24 = .ok (.getfield 259, 3) := dq_180 (kX12_sledgeGoes_0 24 rfl) (kX12_sledgeGoes_0 25 rfl) (kX12_sledgeGoes_0 26 rfl) rfl
theorem dX12_sledgeGoes_27 : decode cX12_sledgeGoes 27 = .ok (.iload_n 1, 1) := dq_27 (kX12_sledgeGoes_0 27 rfl)
theorem dX12_sledgeGoes_28 : decode cX12_sledgeGoes 28 = .ok (.iconst 0, 1) := dq_3 (kX12_sledgeGoes_0 28 rfl)
theorem dX12_sledgeGoes_29 : decode cX12_sledgeGoes 29 = .ok (.bastore, 1) := dq_84 (kX12_sledgeGoes_0 29 rfl)
theorem dX12_sledgeGoes_30 : decode cX12_sledgeGoes 30 = .ok (.aload_n 0, 1) := dq_42 (kX12_sledgeGoes_0 30 rfl)
theorem dX12_sledgeGoes_31 : decode cX12_sledgeGoes 31 = .ok (.getfield 247, 3) := dq_180 (kX12_sledgeGoes_0 31 rfl) (kX12_sledgeGoes_1 0 rfl) (kX12_sledgeGoes_1 1 rfl) rfl
theorem dX12_sledgeGoes_34 : decode cX12_sledgeGoes 34 = .ok (.iload_n 1, 1) := dq_27 (kX12_sledgeGoes_1 2 rfl)
theorem dX12_sledgeGoes_35 : decode cX12_sledgeGoes 35 = .ok (.iaload, 1) := dq_46 (kX12_sledgeGoes_1 3 rfl)
theorem dX12_sledgeGoes_36 : decode cX12_sledgeGoes 36 = .ok (.istore_n 2, 1) := dq_61 (kX12_sledgeGoes_1 4 rfl)
theorem dX12_sledgeGoes_37 : decode cX12_sledgeGoes 37 = .ok (.aload_n 0, 1) := dq_42 (kX12_sledgeGoes_1 5 rfl)
theorem dX12_sledgeGoes_38 : decode cX12_sledgeGoes 38 = .ok (.getfield 80, 3) := dq_180 (kX12_sledgeGoes_1 6 rfl) (kX12_sledgeGoes_1 7 rfl) (kX12_sledgeGoes_1 8 rfl) rfl
theorem dX12_sledgeGoes_41 : decode cX12_sledgeGoes 41 = .ok (.iload_n 2, 1) := dq_28 (kX12_sledgeGoes_1 9 rfl)
theorem dX12_sledgeGoes_42 : decode cX12_sledgeGoes 42 = .ok (.baload, 1) := dq_51 (kX12_sledgeGoes_1 10 rfl)
theorem dX12_sledgeGoes_43 : decode cX12_sledgeGoes 43 = .ok (.ifCond .ne 18, 3) := dq_154 (kX12_sledgeGoes_1 11 rfl) (kX12_sledgeGoes_1 12 rfl) (kX12_sledgeGoes_1 13 rfl) (by decide)
theorem dX12_sledgeGoes_46 : decode cX12_sledgeGoes 46 = .ok (.aload_n 0, 1) := dq_42 (kX12_sledgeGoes_1 14 rfl)
theorem dX12_sledgeGoes_47 : decode cX12_sledgeGoes 47 = .ok (.getfield 41, 3) := dq_180 (kX12_sledgeGoes_1 15 rfl) (kX12_sledgeGoes_1 16 rfl) (kX12_sledgeGoes_1 17 rfl) rfl
theorem dX12_sledgeGoes_50 : decode cX12_sledgeGoes 50 = .ok (.iload_n 2, 1) := dq_28 (kX12_sledgeGoes_1 18 rfl)
theorem dX12_sledgeGoes_51 : decode cX12_sledgeGoes 51 = .ok (.iaload, 1) := dq_46 (kX12_sledgeGoes_1 19 rfl)
theorem dX12_sledgeGoes_52 : decode cX12_sledgeGoes 52 = .ok (.aload_n 0, 1) := dq_42 (kX12_sledgeGoes_1 20 rfl)
theorem dX12_sledgeGoes_53 : decode cX12_sledgeGoes 53 = .ok (.getfield 250, 3) := dq_180 (kX12_sledgeGoes_1 21 rfl) (kX12_sledgeGoes_1 22 rfl) (kX12_sledgeGoes_1 23 rfl) rfl
theorem dX12_sledgeGoes_56 : decode cX12_sledgeGoes 56 = .ok (.iload_n 1, 1) := dq_27 (kX12_sledgeGoes_1 24 rfl)
theorem dX12_sledgeGoes_57 : decode cX12_sledgeGoes 57 = .ok (.iaload, 1) := dq_46 (kX12_sledgeGoes_1 25 rfl)
theorem dX12_sledgeGoes_58 : decode cX12_sledgeGoes 58 = .ok (.if_icmp .eq 22, 3) := dq_159 (kX12_sledgeGoes_1 26 rfl) (kX12_sledgeGoes_1 27 rfl) (kX12_sledgeGoes_1 28 rfl) (by decide)
theorem dX12_sledgeGoes_61 : decode cX12_sledgeGoes 61 = .ok (.aload_n 0, 1) := dq_42 (kX12_sledgeGoes_1 29 rfl)
theorem dX12_sledgeGoes_62 : decode cX12_sledgeGoes 62 = .ok (.aload_n 0, 1) := dq_42 (kX12_sledgeGoes_1 30 rfl)
theorem dX12_sledgeGoes_63 : decode cX12_sledgeGoes 63 = .ok (.getfield 657, 3) := dq_180 (kX12_sledgeGoes_1 31 rfl) (kX12_sledgeGoes_2 0 rfl) (kX12_sledgeGoes_2 1 rfl) rfl
theorem dX12_sledgeGoes_66 : decode cX12_sledgeGoes 66 = .ok (.aload_n 0, 1) := dq_42 (kX12_sledgeGoes_2 2 rfl)
theorem dX12_sledgeGoes_67 : decode cX12_sledgeGoes 67 = .ok (.getfield 253, 3) := dq_180 (kX12_sledgeGoes_2 3 rfl) (kX12_sledgeGoes_2 4 rfl) (kX12_sledgeGoes_2 5 rfl) rfl
theorem dX12_sledgeGoes_70 : decode cX12_sledgeGoes 70 = .ok (.iload_n 1, 1) := dq_27 (kX12_sledgeGoes_2 6 rfl)
theorem dX12_sledgeGoes_71 : decode cX12_sledgeGoes 71 = .ok (.iaload, 1) := dq_46 (kX12_sledgeGoes_2 7 rfl)
theorem dX12_sledgeGoes_72 : decode cX12_sledgeGoes 72 = .ok (.i2l, 1) := dq_133 (kX12_sledgeGoes_2 8 rfl)
theorem dX12_sledgeGoes_73 : decode cX12_sledgeGoes 73 = .ok (.ladd, 1) := dq_97 (kX12_sledgeGoes_2 9 rfl)
theorem dX12_sledgeGoes_74 : decode cX12_sledgeGoes 74 = .ok (.putfield 657, 3) := dq_181 (kX12_sledgeGoes_2 10 rfl) (kX12_sledgeGoes_2 11 rfl) (kX12_sledgeGoes_2 12 rfl) rfl
theorem dX12_sledgeGoes_77 : decode cX12_sledgeGoes 77 = .ok (.goto 22, 3) := dq_167 (kX12_sledgeGoes_2 13 rfl) (kX12_sledgeGoes_2 14 rfl) (kX12_sledgeGoes_2 15 rfl) (by decide)
theorem dX12_sledgeGoes_80 : decode cX12_sledgeGoes 80 = .ok (.aload_n 0, 1) := dq_42 (kX12_sledgeGoes_2 16 rfl)
theorem dX12_sledgeGoes_81 : decode cX12_sledgeGoes 81 = .ok (.getfield 56, 3) := dq_180 (kX12_sledgeGoes_2 17 rfl) (kX12_sledgeGoes_2 18 rfl) (kX12_sledgeGoes_2 19 rfl) rfl
theorem dX12_sledgeGoes_84 : decode cX12_sledgeGoes 84 = .ok (.iload_n 2, 1) := dq_28 (kX12_sledgeGoes_2 20 rfl)
theorem dX12_sledgeGoes_85 : decode cX12_sledgeGoes 85 = .ok (.aload_n 0, 1) := dq_42 (kX12_sledgeGoes_2 21 rfl)
theorem dX12_sledgeGoes_86 : decode cX12_sledgeGoes 86 = .ok (.getfield 56, 3) := dq_180 (kX12_sledgeGoes_2 22 rfl) (kX12_sledgeGoes_2 23 rfl) (kX12_sledgeGoes_2 24 rfl) rfl
theorem dX12_sledgeGoes_89 : decode cX12_sledgeGoes 89 = .ok (.iload_n 2, 1) := dq_28 (kX12_sledgeGoes_2 25 rfl)
theorem dX12_sledgeGoes_90 : decode cX12_sledgeGoes 90 = .ok (.iaload, 1) := dq_46 (kX12_sledgeGoes_2 26 rfl)
theorem dX12_sledgeGoes_91 : decode cX12_sledgeGoes 91 = .ok (.aload_n 0, 1) := dq_42 (kX12_sledgeGoes_2 27 rfl)
theorem dX12_sledgeGoes_92 : decode cX12_sledgeGoes 92 = .ok (.getfield 253, 3) := dq_180 (kX12_sledgeGoes_2 28 rfl) (kX12_sledgeGoes_2 29 rfl) (kX12_sledgeGoes_2 30 rfl) rfl
theorem dX12_sledgeGoes_95 : decode cX12_sledgeGoes 95 = .ok (.iload_n 1, 1) := dq_27 (kX12_sledgeGoes_2 31 rfl)
theorem dX12_sledgeGoes_96 : decode cX12_sledgeGoes 96 = .ok (.iaload, 1) := dq_46 (kX12_sledgeGoes_3 0 rfl)
theorem dX12_sledgeGoes_97 : decode cX12_sledgeGoes 97 = .ok (.iadd, 1) := dq_96 (kX12_sledgeGoes_3 1 rfl)
theorem dX12_sledgeGoes_98 : decode cX12_sledgeGoes 98 = .ok (.iastore, 1) := dq_79 (kX12_sledgeGoes_3 2 rfl)
theorem dX12_sledgeGoes_99 : decode cX12_sledgeGoes 99 = .ok (.return_, 1) := dq_177 (kX12_sledgeGoes_3 3 rfl)

def bX12_people_0 : List UInt8 := [42, 27, 182, 1, 177, 153, 0, 34, 28, 17, 254, 12, 17, 1, 244, 184, 1, 115, 153, 0, 21, 42, 180, 0, 53, 27, 46, 28, 96, 3, 17, 1]
theorem kX12_people_0 (j : Nat) {b : UInt8} (hj : bX12_people_0[j]? = some b) : AtB cX12_people (0 + j) b := at_of32 (by decide +kernel) j hj
def bX12_people_1 : List UInt8 := [244, 184, 1, 115, 154, 0, 5, 3, 172, 42, 180, 0, 53, 27, 42, 180, 0, 53, 27, 46, 28, 96, 79, 4, 172]
theorem kX12_people_1 (j : Nat) {b : UInt8} (hj : bX12_people_1[j]? = some b) : AtB cX12_people (32 + j) b := at_of32 (by decide +kernel) j hj
theorem dX12_people_0 : decode cX12_people 0 = .ok (.aload_n 0, 1) := dq_42 (kX12_people_0 0 rfl)
theorem dX12_people_1 : decode cX12_people 1 = .ok (.iload_n 1, 1) := dq_27 (kX12_people_0 1 rfl)
theorem dX12_people_2 : decode cX12_people 2 = .ok (.invokevirtual 433, 3) := dq_182 (kX12_people_0 2 rfl) (kX12_people_0 3 rfl) (kX12_people_0 4 rfl) rfl
theorem dX12_people_5 : decode cX12_people 5 = .ok (.ifCond .eq 34, 3) := dq_153 (kX12_people_0 5 rfl) (kX12_people_0 6 rfl) (kX12_people_0 7 rfl) (by decide)
theorem dX12_people_8 : decode cX12_people 8 = .ok (.iload_n 2, 1) := dq_28 (kX12_people_0 8 rfl)
theorem dX12_people_9 : decode cX12_people 9 = .ok (.sipush (-500), 3) := dq_17 (kX12_people_0 9 rfl) (kX12_people_0 10 rfl) (kX12_people_0 11 rfl) (by decide)
theorem dX12_people_12 : decode cX12_people 12 = .ok (.sipush 500, 3) := dq_17 (kX12_people_0 12 rfl) (kX12_people_0 13 rfl) (kX12_people_0 14 rfl) (by decide)
theorem dX12_people_15 : decode cX12_people 15 = .ok (.invokestatic 371, 3) := dq_184 (kX12_people_0 15 rfl) (kX12_people_0 16 rfl) (kX12_people_0 17 rfl) rfl
theorem dX12_people_18 : decode cX12_people 18 = .ok (.ifCond .eq 21, 3) := dq_153 (kX12_people_0 18 rfl) (kX12_people_0 19 rfl) (kX12_people_0 20 rfl) (by decide)
theorem dX12_people_21 : decode cX12_people 21 = .ok (.aload_n 0, 1) := dq_42 (kX12_people_0 21 rfl)
theorem dX12_people_22 : decode cX12_people 22 = .ok (.getfield 53, 3) := dq_180 (kX12_people_0 22 rfl) (kX12_people_0 23 rfl) (kX12_people_0 24 rfl) rfl
theorem dX12_people_25 : decode cX12_people 25 = .ok (.iload_n 1, 1) := dq_27 (kX12_people_0 25 rfl)
theorem dX12_people_26 : decode cX12_people 26 = .ok (.iaload, 1) := dq_46 (kX12_people_0 26 rfl)
theorem dX12_people_27 : decode cX12_people 27 = .ok (.iload_n 2, 1) := dq_28 (kX12_people_0 27 rfl)
theorem dX12_people_28 : decode cX12_people 28 = .ok (.iadd, 1) := dq_96 (kX12_people_0 28 rfl)
theorem dX12_people_29 : decode cX12_people 29 = .ok (.iconst 0, 1) := dq_3 (kX12_people_0 29 rfl)
theorem dX12_people_30 : decode cX12_people 30 = .ok (.sipush 500, 3) := dq_17 (kX12_people_0 30 rfl) (kX12_people_0 31 rfl) (kX12_people_1 0 rfl) (by decide)
theorem dX12_people_33 : decode cX12_people 33 = .ok (.invokestatic 371, 3) := dq_184 (kX12_people_1 1 rfl) (kX12_people_1 2 rfl) (kX12_people_1 3 rfl) rfl
theorem dX12_people_36 : decode cX12_people 36 = .ok (.ifCond .ne 5, 3) := dq_154 (kX12_people_1 4 rfl) (kX12_people_1 5 rfl) (kX12_people_1 6 rfl) (by decide)
theorem dX12_people_39 : decode cX12_people 39 = .ok (.iconst 0, 1) := dq_3 (kX12_people_1 7 rfl)
theorem dX12_people_40 : decode cX12_people 40 = .ok (.ireturn, 1) := dq_172 (kX12_people_1 8 rfl)
theorem dX12_people_41 : decode cX12_people 41 = .ok (.aload_n 0, 1) := dq_42 (kX12_people_1 9 rfl)
theorem dX12_people_42 : decode cX12_people 42 = .ok (.getfield 53, 3) := dq_180 (kX12_people_1 10 rfl) (kX12_people_1 11 rfl) (kX12_people_1 12 rfl) rfl
theorem dX12_people_45 : decode cX12_people 45 = .ok (.iload_n 1, 1) := dq_27 (kX12_people_1 13 rfl)
theorem dX12_people_46 : decode cX12_people 46 = .ok (.aload_n 0, 1) := dq_42 (kX12_people_1 14 rfl)
theorem dX12_people_47 : decode cX12_people 47 = .ok (.getfield 53, 3) := dq_180 (kX12_people_1 15 rfl) (kX12_people_1 16 rfl) (kX12_people_1 17 rfl) rfl
theorem dX12_people_50 : decode cX12_people 50 = .ok (.iload_n 1, 1) := dq_27 (kX12_people_1 18 rfl)
theorem dX12_people_51 : decode cX12_people 51 = .ok (.iaload, 1) := dq_46 (kX12_people_1 19 rfl)
theorem dX12_people_52 : decode cX12_people 52 = .ok (.iload_n 2, 1) := dq_28 (kX12_people_1 20 rfl)
theorem dX12_people_53 : decode cX12_people 53 = .ok (.iadd, 1) := dq_96 (kX12_people_1 21 rfl)
theorem dX12_people_54 : decode cX12_people 54 = .ok (.iastore, 1) := dq_79 (kX12_people_1 22 rfl)
theorem dX12_people_55 : decode cX12_people 55 = .ok (.iconst 1, 1) := dq_4 (kX12_people_1 23 rfl)
theorem dX12_people_56 : decode cX12_people 56 = .ok (.ireturn, 1) := dq_172 (kX12_people_1 24 rfl)

def bX12_hide_0 : List UInt8 := [42, 27, 182, 1, 177, 153, 0, 24, 28, 42, 180, 0, 56, 27, 46, 163, 0, 14, 28, 42, 180, 0, 59, 27, 46, 116, 162, 0, 5, 3, 172, 42]
theorem kX12_hide_0 (j : Nat) {b : UInt8} (hj : bX12_hide_0[j]? = some b) : AtB cX12_hide (0 + j) b := at_of32 (by decide +kernel) j hj
def bX12_hide_1 : List UInt8 := [180, 0, 56, 27, 42, 180, 0, 56, 27, 46, 28, 100, 79, 42, 180, 0, 59, 27, 42, 180, 0, 59, 27, 46, 28, 96, 79, 4, 172]
theorem kX12_hide_1 (j : Nat) {b : UInt8} (hj : bX12_hide_1[j]? = some b) : AtB cX12_hide (32 + j) b := at_of32 (by decide +kernel) j hj
theorem dX12_hide_0 : decode cX12_hide 0 = .ok (.aload_n 0, 1) := dq_42 (kX12_hide_0 0 rfl)
theorem dX12_hide_1 : decode cX12_hide 1 = .ok (.iload_n 1, 1) := dq_27 (kX12_hide_0 1 rfl)
theorem dX12_hide_2 : decode cX12_hide 2 = .ok (.invokevirtual 433, 3) := dq_182 (kX12_hide_0 2 rfl) (kX12_hide_0 3 rfl) (kX12_hide_0 4 rfl) rfl
theorem dX12_hide_5 : decode cX12_hide 5 = .ok (.ifCond .eq 24, 3) := dq_153 (kX12_hide_0 5 rfl) (kX12_hide_0 6 rfl) (kX12_hide_0 7 rfl) (by decide)
theorem dX12_hide_8 : decode cX12_hide 8 = .ok (.iload_n 2, 1) := dq_28 (kX12_hide_0 8 rfl)
theorem dX12_hide_9 : decode cX12_hide 9 = .ok (.aload_n 0, 1) := dq_42 (kX12_hide_0 9 rfl)
theorem dX12_hide_10 : decode cX12_hide 10 = .ok (.getfield 56, 3) := dq_180 (kX12_hide_0 10 rfl) (kX12_hide_0 11 rfl) (kX12_hide_0 12 rfl) rfl
theorem dX12_hide_13 : decode cX12_hide 13 = .ok (.iload_n 1, 1) := dq_27 (kX12_hide_0 13 rfl)
theorem dX12_hide_14 : decode cX12_hide 14 = .ok (.iaload, 1) := dq_46 (kX12_hide_0 14 rfl)
theorem dX12_hide_15 : decode cX12_hide 15 = .ok (.if_icmp .gt 14, 3) := dq_163 (kX12_hide_0 15 rfl) (kX12_hide_0 16 rfl) (kX12_hide_0 17 rfl) (by decide)
theorem dX12_hide_18 : decode cX12_hide 18 = .ok (.iload_n 2, 1) := dq_28 (kX12_hide_0 18 rfl)
theorem dX12_hide_19 : decode cX12_hide 19 = .ok (.aload_n 0, 1) := dq_42 (kX12_hide_0 19 rfl)
theorem dX12_hide_20 : decode cX12_hide 20 = .ok (.getfield 59, 3) := dq_180 (kX12_hide_0 20 rfl) (kX12_hide_0 21 rfl) (kX12_hide_0 22 rfl) rfl
theorem dX12_hide_23 : decode cX12_hide 23 = .ok (.iload_n 1, 1) := dq_27 (kX12_hide_0 23 rfl)
theorem dX12_hide_24 : decode cX12_hide 24 = .ok (.iaload, 1) := dq_46 (kX12_hide_0 24 rfl)
theorem dX12_hide_25 : decode cX12_hide 25 = .ok (.ineg, 1) := dq_116 (kX12_hide_0 25 rfl)
theorem dX12_hide_26 : decode cX12_hide 26 = .ok (.if_icmp .ge 5, 3) := dq_162 (kX12_hide_0 26 rfl) (kX12_hide_0 27 rfl) (kX12_hide_0 28 rfl) (by decide)
theorem dX12_hide_29 : decode cX12_hide 29 = .ok (.iconst 0, 1) := dq_3 (kX12_hide_0 29 rfl)
theorem dX12_hide_30 : decode cX12_hide 30 = .ok (.ireturn, 1) := dq_172 (kX12_hide_0 30 rfl)
theorem dX12_hide_31 : decode cX12_hide 31 = .ok (.aload_n 0, 1) := dq_42 (kX12_hide_0 31 rfl)
theorem dX12_hide_32 : decode cX12_hide 32 = .ok (.getfield 56, 3) := dq_180 (kX12_hide_1 0 rfl) (kX12_hide_1 1 rfl) (kX12_hide_1 2 rfl) rfl
theorem dX12_hide_35 : decode cX12_hide 35 = .ok (.iload_n 1, 1) := dq_27 (kX12_hide_1 3 rfl)
theorem dX12_hide_36 : decode cX12_hide 36 = .ok (.aload_n 0, 1) := dq_42 (kX12_hide_1 4 rfl)
theorem dX12_hide_37 : decode cX12_hide 37 = .ok (.getfield 56, 3) := dq_180 (kX12_hide_1 5 rfl) (kX12_hide_1 6 rfl) (kX12_hide_1 7 rfl) rfl
theorem dX12_hide_40 : decode cX12_hide 40 = .ok (.iload_n 1, 1) := dq_27 (kX12_hide_1 8 rfl)
theorem dX12_hide_41 : decode cX12_hide 41 = .ok (.iaload, 1) := dq_46 (kX12_hide_1 9 rfl)
theorem dX12_hide_42 : decode cX12_hide 42 = .ok (.iload_n 2, 1) := dq_28 (kX12_hide_1 10 rfl)
theorem dX12_hide_43 : decode cX12_hide 43 = .ok (.isub, 1) := dq_100 (kX12_hide_1 11 rfl)
theorem dX12_hide_44 : decode cX12_hide 44 = .ok (.iastore, 1) := dq_79 (kX12_hide_1 12 rfl)
theorem dX12_hide_45 : decode cX12_hide 45 = .ok (.aload_n 0, 1) := dq_42 (kX12_hide_1 13 rfl)
theorem dX12_hide_46 : decode cX12_hide 46 = .ok (.getfield 59, 3) := dq_180 (kX12_hide_1 14 rfl) (kX12_hide_1 15 rfl) (kX12_hide_1 16 rfl) rfl
theorem dX12_hide_49 : decode cX12_hide 49 = .ok (.iload_n 1, 1) := dq_27 (kX12_hide_1 17 rfl)
theorem dX12_hide_50 : decode cX12_hide 50 = .ok (.aload_n 0, 1) := dq_42 (kX12_hide_1 18 rfl)
theorem dX12_hide_51 : decode cX12_hide 51 = .ok (.getfield 59, 3) := dq_180 (kX12_hide_1 19 rfl) (kX12_hide_1 20 rfl) (kX12_hide_1 21 rfl) rfl
theorem dX12_hide_54 : decode cX12_hide 54 = .ok (.iload_n 1, 1) := dq_27 (kX12_hide_1 22 rfl)
theorem dX12_hide_55 : decode cX12_hide 55 = .ok (.iaload, 1) := dq_46 (kX12_hide_1 23 rfl)
theorem dX12_hide_56 : decode cX12_hide 56 = .ok (.iload_n 2, 1) := dq_28 (kX12_hide_1 24 rfl)
theorem dX12_hide_57 : decode cX12_hide 57 = .ok (.iadd, 1) := dq_96 (kX12_hide_1 25 rfl)
theorem dX12_hide_58 : decode cX12_hide 58 = .ok (.iastore, 1) := dq_79 (kX12_hide_1 26 rfl)
theorem dX12_hide_59 : decode cX12_hide 59 = .ok (.iconst 1, 1) := dq_4 (kX12_hide_1 27 rfl)
theorem dX12_hide_60 : decode cX12_hide 60 = .ok (.ireturn, 1) := dq_172 (kX12_hide_1 28 rfl)

def bX12_declare_0 : List UInt8 := [42, 27, 182, 1, 147, 153, 0, 25, 28, 3, 17, 1, 244, 184, 1, 115, 153, 0, 14, 29, 3, 19, 2, 126, 184, 1, 115, 154, 0, 5, 3, 172]
theorem kX12_declare_0 (j : Nat) {b : UInt8} (hj : bX12_declare_0[j]? = some b) : AtB cX12_declare (0 + j) b := at_of32 (by decide +kernel) j hj
def bX12_declare_1 : List UInt8 := [42, 180, 0, 68, 27, 28, 79, 42, 180, 0, 71, 27, 29, 79, 4, 172]
theorem kX12_declare_1 (j : Nat) {b : UInt8} (hj : bX12_declare_1[j]? = some b) : AtB cX12_declare (32 + j) b := at_of32 (by decide +kernel) j hj
theorem dX12_declare_0 : decode cX12_declare 0 = .ok (.aload_n 0, 1) := dq_42 (kX12_declare_0 0 rfl)
theorem dX12_declare_1 : decode cX12_declare 1 = .ok (.iload_n 1, 1) := dq_27 (kX12_declare_0 1 rfl)
theorem dX12_declare_2 : decode cX12_declare 2 = .ok (.invokevirtual 403, 3) := dq_182 (kX12_declare_0 2 rfl) (kX12_declare_0 3 rfl) (kX12_declare_0 4 rfl) rfl
theorem dX12_declare_5 : decode cX12_declare 5 = .ok (.ifCond .eq 25, 3) := dq_153 (kX12_declare_0 5 rfl) (kX12_declare_0 6 rfl) (kX12_declare_0 7 rfl) (by decide)
theorem dX12_declare_8 : decode cX12_declare 8 = .ok (.iload_n 2, 1) := dq_28 (kX12_declare_0 8 rfl)
theorem dX12_declare_9 : decode cX12_declare 9 = .ok (.iconst 0, 1) := dq_3 (kX12_declare_0 9 rfl)
theorem dX12_declare_10 : decode cX12_declare 10 = .ok (.sipush 500, 3) := dq_17 (kX12_declare_0 10 rfl) (kX12_declare_0 11 rfl) (kX12_declare_0 12 rfl) (by decide)
theorem dX12_declare_13 : decode cX12_declare 13 = .ok (.invokestatic 371, 3) := dq_184 (kX12_declare_0 13 rfl) (kX12_declare_0 14 rfl) (kX12_declare_0 15 rfl) rfl
theorem dX12_declare_16 : decode cX12_declare 16 = .ok (.ifCond .eq 14, 3) := dq_153 (kX12_declare_0 16 rfl) (kX12_declare_0 17 rfl) (kX12_declare_0 18 rfl) (by decide)
theorem dX12_declare_19 : decode cX12_declare 19 = .ok (.iload_n 3, 1) := dq_29 (kX12_declare_0 19 rfl)
theorem dX12_declare_20 : decode cX12_declare 20 = .ok (.iconst 0, 1) := dq_3 (kX12_declare_0 20 rfl)
theorem dX12_declare_21 : decode cX12_declare 21 = .ok (.ldc_w 638, 3) := dq_19 (kX12_declare_0 21 rfl) (kX12_declare_0 22 rfl) (kX12_declare_0 23 rfl) rfl
theorem dX12_declare_24 : decode cX12_declare 24 = .ok (.invokestatic 371, 3) := dq_184 (kX12_declare_0 24 rfl) (kX12_declare_0 25 rfl) (kX12_declare_0 26 rfl) rfl
theorem dX12_declare_27 : decode cX12_declare 27 = .ok (.ifCond .ne 5, 3) := dq_154 (kX12_declare_0 27 rfl) (kX12_declare_0 28 rfl) (kX12_declare_0 29 rfl) (by decide)
theorem dX12_declare_30 : decode cX12_declare 30 = .ok (.iconst 0, 1) := dq_3 (kX12_declare_0 30 rfl)
theorem dX12_declare_31 : decode cX12_declare 31 = .ok (.ireturn, 1) := dq_172 (kX12_declare_0 31 rfl)
theorem dX12_declare_32 : decode cX12_declare 32 = .ok (.aload_n 0, 1) := dq_42 (kX12_declare_1 0 rfl)
theorem dX12_declare_33 : decode cX12_declare 33 = .ok (.getfield 68, 3) := dq_180 (kX12_declare_1 1 rfl) (kX12_declare_1 2 rfl) (kX12_declare_1 3 rfl) rfl
theorem dX12_declare_36 : decode cX12_declare 36 = .ok (.iload_n 1, 1) := dq_27 (kX12_declare_1 4 rfl)
theorem dX12_declare_37 : decode cX12_declare 37 = .ok (.iload_n 2, 1) := dq_28 (kX12_declare_1 5 rfl)
theorem dX12_declare_38 : decode cX12_declare 38 = .ok (.iastore, 1) := dq_79 (kX12_declare_1 6 rfl)
theorem dX12_declare_39 : decode cX12_declare 39 = .ok (.aload_n 0, 1) := dq_42 (kX12_declare_1 7 rfl)
theorem dX12_declare_40 : decode cX12_declare 40 = .ok (.getfield 71, 3) := dq_180 (kX12_declare_1 8 rfl) (kX12_declare_1 9 rfl) (kX12_declare_1 10 rfl) rfl
theorem dX12_declare_43 : decode cX12_declare 43 = .ok (.iload_n 1, 1) := dq_27 (kX12_declare_1 11 rfl)
theorem dX12_declare_44 : decode cX12_declare 44 = .ok (.iload_n 3, 1) := dq_29 (kX12_declare_1 12 rfl)
theorem dX12_declare_45 : decode cX12_declare 45 = .ok (.iastore, 1) := dq_79 (kX12_declare_1 13 rfl)
theorem dX12_declare_46 : decode cX12_declare 46 = .ok (.iconst 1, 1) := dq_4 (kX12_declare_1 14 rfl)
theorem dX12_declare_47 : decode cX12_declare 47 = .ok (.ireturn, 1) := dq_172 (kX12_declare_1 15 rfl)

def bX12_visit_0 : List UInt8 := [42, 27, 182, 1, 150, 153, 0, 42, 42, 28, 182, 1, 177, 153, 0, 34, 42, 180, 0, 38, 28, 46, 27, 159, 0, 24, 42, 27, 42, 180, 1, 140]
theorem kX12_visit_0 (j : Nat) {b : UInt8} (hj : bX12_visit_0[j]? = some b) : AtB cX12_visit (0 + j) b := at_of32 (by decide +kernel) j hj
def bX12_visit_1 : List UInt8 := [182, 1, 156, 153, 0, 12, 42, 180, 2, 148, 16, 60, 160, 0, 5, 2, 172, 42, 180, 1, 6, 42, 180, 2, 148, 27, 79, 42, 180, 1, 9, 42]
theorem kX12_visit_1 (j : Nat) {b : UInt8} (hj : bX12_visit_1[j]? = some b) : AtB cX12_visit (32 + j) b := at_of32 (by decide +kernel) j hj
def bX12_visit_2 : List UInt8 := [180, 2, 148, 28, 79, 42, 180, 1, 12, 42, 180, 2, 148, 42, 180, 1, 140, 79, 42, 180, 1, 15, 42, 180, 2, 148, 42, 180, 0, 53, 28, 46]
theorem kX12_visit_2 (j : Nat) {b : UInt8} (hj : bX12_visit_2[j]? = some b) : AtB cX12_visit (64 + j) b := at_of32 (by decide +kernel) j hj
def bX12_visit_3 : List UInt8 := [42, 180, 0, 68, 28, 46, 100, 79, 42, 180, 1, 18, 42, 180, 2, 148, 42, 180, 0, 56, 28, 46, 42, 180, 0, 71, 28, 46, 100, 79, 42, 42]
theorem kX12_visit_3 (j : Nat) {b : UInt8} (hj : bX12_visit_3[j]? = some b) : AtB cX12_visit (96 + j) b := at_of32 (by decide +kernel) j hj
def bX12_visit_4 : List UInt8 := [180, 2, 148, 4, 96, 181, 2, 148, 42, 180, 2, 148, 4, 100, 172]
theorem kX12_visit_4 (j : Nat) {b : UInt8} (hj : bX12_visit_4[j]? = some b) : AtB cX12_visit (128 + j) b := at_of32 (by decide +kernel) j hj
theorem dX12_visit_0 : decode cX12_visit 0 = .ok (.aload_n 0, 1) := dq_42 (kX12_visit_0 0 rfl)
theorem dX12_visit_1 : decode cX12_visit 1 = .ok (.iload_n 1, 1) := dq_27 (kX12_visit_0 1 rfl)
theorem dX12_visit_2 : decode cX12_visit 2 = .ok (.invokevirtual 406, 3) := dq_182 (kX12_visit_0 2 rfl) (kX12_visit_0 3 rfl) (kX12_visit_0 4 rfl) rfl
theorem dX12_visit_5 : decode cX12_visit 5 = .ok (.ifCond .eq 42, 3) := dq_153 (kX12_visit_0 5 rfl) (kX12_visit_0 6 rfl) (kX12_visit_0 7 rfl) (by decide)
theorem dX12_visit_8 : decode cX12_visit 8 = .ok (.aload_n 0, 1) := dq_42 (kX12_visit_0 8 rfl)
theorem dX12_visit_9 : decode cX12_visit 9 = .ok (.iload_n 2, 1) := dq_28 (kX12_visit_0 9 rfl)
theorem dX12_visit_10 : decode cX12_visit 10 = .ok (.invokevirtual 433, 3) := dq_182 (kX12_visit_0 10 rfl) (kX12_visit_0 11 rfl) (kX12_visit_0 12 rfl) rfl
theorem dX12_visit_13 : decode cX12_visit 13 = .ok (.ifCond .eq 34, 3) := dq_153 (kX12_visit_0 13 rfl) (kX12_visit_0 14 rfl) (kX12_visit_0 15 rfl) (by decide)
theorem dX12_visit_16 : decode cX12_visit 16 = .ok (.aload_n 0, 1) := dq_42 (kX12_visit_0 16 rfl)
theorem dX12_visit_17 : decode cX12_visit 17 = .ok (.getfield 38, 3) := dq_180 (kX12_visit_0 17 rfl) (kX12_visit_0 18 rfl) (kX12_visit_0 19 rfl) rfl
theorem dX12_visit_20 : decode cX12_visit 20 = .ok (.iload_n 2, 1) := dq_28 (kX12_visit_0 20 rfl)
theorem dX12_visit_21 : decode cX12_visit 21 = .ok (.iaload, 1) := dq_46 (kX12_visit_0 21 rfl)
theorem dX12_visit_22 : decode cX12_visit 22 = .ok (.iload_n 1, 1) := dq_27 (kX12_visit_0 22 rfl)
theorem dX12_visit_23 : decode cX12_visit 23 = .ok (.if_icmp .eq 24, 3) := dq_159 (kX12_visit_0 23 rfl) (kX12_visit_0 24 rfl) (kX12_visit_0 25 rfl) (by decide)
theorem dX12_visit_26 : decode cX12_visit 26 = .ok (.aload_n 0, 1) := dq_42 (kX12_visit_0 26 rfl)
theorem dX12_visit_27 : decode cX12_visit 27 = .ok (.iload_n 1, 1) := dq_27 (kX12_visit_0 27 rfl)
theorem dX12_visit_28 : decode cX12_visit 28 = .ok (.aload_n 0, 1) := dq_42 (kX12_visit_0 28 rfl)
theorem dX12_visit_29 : decode cX12_visit 29 = .ok (.getfield 396, 3) := dq_180 (kX12_visit_0 29 rfl) (kX12_visit_0 30 rfl) (kX12_visit_0 31 rfl) rfl
theorem dX12_visit_32 : decode cX12_visit 32 = .ok (.invokevirtual 412, 3) := dq_182 (kX12_visit_1 0 rfl) (kX12_visit_1 1 rfl) (kX12_visit_1 2 rfl) rfl
theorem dX12_visit_35 : decode cX12_visit 35 = .ok (.ifCond .eq 12, 3) := dq_153 (kX12_visit_1 3 rfl) (kX12_visit_1 4 rfl) (kX12_visit_1 5 rfl) (by decide)
theorem dX12_visit_38 : decode cX12_visit 38 = .ok (.aload_n 0, 1) := dq_42 (kX12_visit_1 6 rfl)
theorem dX12_visit_39 : decode cX12_visit 39 = .ok (.getfield 660, 3) := dq_180 (kX12_visit_1 7 rfl) (kX12_visit_1 8 rfl) (kX12_visit_1 9 rfl) rfl
theorem dX12_visit_42 : decode cX12_visit 42 = .ok (.bipush 60, 2) := dq_16 (kX12_visit_1 10 rfl) (kX12_visit_1 11 rfl) (by decide)
theorem dX12_visit_44 : decode cX12_visit 44 = .ok (.if_icmp .ne 5, 3) := dq_160 (kX12_visit_1 12 rfl) (kX12_visit_1 13 rfl) (kX12_visit_1 14 rfl) (by decide)
theorem dX12_visit_47 : decode cX12_visit 47 = .ok (.iconst (-1), 1) := dq_2 (kX12_visit_1 15 rfl)
theorem dX12_visit_48 : decode cX12_visit 48 = .ok (.ireturn, 1) := dq_172 (kX12_visit_1 16 rfl)
theorem dX12_visit_49 : decode cX12_visit 49 = .ok (.aload_n 0, 1) := dq_42 (kX12_visit_1 17 rfl)
theorem dX12_visit_50 : decode cX12_visit 50 = .ok (.getfield 262, 3) := dq_180 (kX12_visit_1 18 rfl) (kX12_visit_1 19 rfl) (kX12_visit_1 20 rfl) rfl
theorem dX12_visit_53 : decode cX12_visit 53 = .ok (.aload_n 0, 1) := dq_42 (kX12_visit_1 21 rfl)
theorem dX12_visit_54 : decode cX12_visit 54 = .ok (.getfield 660, 3) := dq_180 (kX12_visit_1 22 rfl) (kX12_visit_1 23 rfl) (kX12_visit_1 24 rfl) rfl
theorem dX12_visit_57 : decode cX12_visit 57 = .ok (.iload_n 1, 1) := dq_27 (kX12_visit_1 25 rfl)
theorem dX12_visit_58 : decode cX12_visit 58 = .ok (.iastore, 1) := dq_79 (kX12_visit_1 26 rfl)
theorem dX12_visit_59 : decode cX12_visit 59 = .ok (.aload_n 0, 1) := dq_42 (kX12_visit_1 27 rfl)
theorem dX12_visit_60 : decode cX12_visit 60 = .ok (.getfield 265, 3) := dq_180 (kX12_visit_1 28 rfl) (kX12_visit_1 29 rfl) (kX12_visit_1 30 rfl) rfl
theorem dX12_visit_63 : decode cX12_visit 63 = .ok (.aload_n 0, 1) := dq_42 (kX12_visit_1 31 rfl)
theorem dX12_visit_64 : decode cX12_visit 64 = .ok (.getfield 660, 3) := dq_180 (kX12_visit_2 0 rfl) (kX12_visit_2 1 rfl) (kX12_visit_2 2 rfl) rfl
theorem dX12_visit_67 : decode cX12_visit 67 = .ok (.iload_n 2, 1) := dq_28 (kX12_visit_2 3 rfl)
theorem dX12_visit_68 : decode cX12_visit 68 = .ok (.iastore, 1) := dq_79 (kX12_visit_2 4 rfl)
theorem dX12_visit_69 : decode cX12_visit 69 = .ok (.aload_n 0, 1) := dq_42 (kX12_visit_2 5 rfl)
theorem dX12_visit_70 : decode cX12_visit 70 = .ok (.getfield 268, 3) := dq_180 (kX12_visit_2 6 rfl) (kX12_visit_2 7 rfl) (kX12_visit_2 8 rfl) rfl
theorem dX12_visit_73 : decode cX12_visit 73 = .ok (.aload_n 0, 1) := dq_42 (kX12_visit_2 9 rfl)
theorem dX12_visit_74 : decode cX12_visit 74 = .ok (.getfield 660, 3) := dq_180 (kX12_visit_2 10 rfl) (kX12_visit_2 11 rfl) (kX12_visit_2 12 rfl) rfl
theorem dX12_visit_77 : decode cX12_visit 77 = .ok (.aload_n 0, 1) := dq_42 (kX12_visit_2 13 rfl)
theorem dX12_visit_78 : decode cX12_visit 78 = .ok (.getfield 396, 3) := dq_180 (kX12_visit_2 14 rfl) (kX12_visit_2 15 rfl) (kX12_visit_2 16 rfl) rfl
theorem dX12_visit_81 : decode cX12_visit 81 = .ok (.iastore, 1) := dq_79 (kX12_visit_2 17 rfl)
theorem dX12_visit_82 : decode cX12_visit 82 = .ok (.aload_n 0, 1) := dq_42 (kX12_visit_2 18 rfl)
theorem dX12_visit_83 : decode cX12_visit 83 = .ok (.getfield 271, 3) := dq_180 (kX12_visit_2 19 rfl) (kX12_visit_2 20 rfl) (kX12_visit_2 21 rfl) rfl
theorem dX12_visit_86 : decode cX12_visit 86 = .ok (.aload_n 0, 1) := dq_42 (kX12_visit_2 22 rfl)
theorem dX12_visit_87 : decode cX12_visit 87 = .ok (.getfield 660, 3) := dq_180 (kX12_visit_2 23 rfl) (kX12_visit_2 24 rfl) (kX12_visit_2 25 rfl) rfl
theorem dX12_visit_90 : decode cX12_visit 90 = .ok (.aload_n 0, 1) := dq_42 (kX12_visit_2 26 rfl)
theorem dX12_visit_91 : decode cX12_visit 91 = .ok (.getfield 53, 3) := dq_180 (kX12_visit_2 27 rfl) (kX12_visit_2 28 rfl) (kX12_visit_2 29 rfl) rfl
theorem dX12_visit_94 : decode cX12_visit 94 = .ok (.iload_n 2, 1) := dq_28 (kX12_visit_2 30 rfl)
theorem dX12_visit_95 : decode cX12_visit 95 = .ok (.iaload, 1) := dq_46 (kX12_visit_2 31 rfl)
theorem dX12_visit_96 : decode cX12_visit 96 = .ok (.aload_n 0, 1) := dq_42 (kX12_visit_3 0 rfl)
theorem dX12_visit_97 : decode cX12_visit 97 = .ok (.getfield 68, 3) := dq_180 (kX12_visit_3 1 rfl) (kX12_visit_3 2 rfl) (kX12_visit_3 3 rfl) rfl
theorem dX12_visit_100 : decode cX12_visit 100 = .ok (.iload_n 2, 1) := dq_28 (kX12_visit_3 4 rfl)
theorem dX12_visit_101 : decode cX12_visit 101 = .ok (.iaload, 1) := dq_46 (kX12_visit_3 5 rfl)
theorem dX12_visit_102 : decode cX12_visit 102 = .ok (.isub, 1) := dq_100 (kX12_visit_3 6 rfl)
theorem dX12_visit_103 : decode cX12_visit 103 = .ok (.iastore, 1) := dq_79 (kX12_visit_3 7 rfl)
theorem dX12_visit_104 : decode cX12_visit 104 = .ok (.aload_n 0, 1) := dq_42 (kX12_visit_3 8 rfl)
theorem dX12_visit_105 : decode cX12_visit 105 = .ok (.getfield 274, 3) := dq_180 (kX12_visit_3 9 rfl) (kX12_visit_3 10 rfl) (kX12_visit_3 11 rfl) rfl
theorem dX12_visit_108 : decode cX12_visit 108 = .ok (.aload_n 0, 1) := dq_42 (kX12_visit_3 12 rfl)
theorem dX12_visit_109 : decode cX12_visit 109 = .ok (.getfield 660, 3) := dq_180 (kX12_visit_3 13 rfl) (kX12_visit_3 14 rfl) (kX12_visit_3 15 rfl) rfl
theorem dX12_visit_112 : decode cX12_visit 112 = .ok (.aload_n 0, 1) := dq_42 (kX12_visit_3 16 rfl)
theorem dX12_visit_113 : decode cX12_visit 113 = .ok (.getfield 56, 3) := dq_180 (kX12_visit_3 17 rfl) (kX12_visit_3 18 rfl) (kX12_visit_3 19 rfl) rfl
theorem dX12_visit_116 : decode cX12_visit 116 = .ok (.iload_n 2, 1) := dq_28 (kX12_visit_3 20 rfl)
theorem dX12_visit_117 : decode cX12_visit 117 = .ok (.iaload, 1) := dq_46 (kX12_visit_3 21 rfl)
theorem dX12_visit_118 : decode cX12_visit 118 = .ok (.aload_n 0, 1) := dq_42 (kX12_visit_3 22 rfl)
theorem dX12_visit_119 : decode cX12_visit 119 = .ok (.getfield 71, 3) := dq_180 (kX12_visit_3 23 rfl) (kX12_visit_3 24 rfl) (kX12_visit_3 25 rfl) rfl
theorem dX12_visit_122 : decode cX12_visit 122 = .ok (.iload_n 2, 1) := dq_28 (kX12_visit_3 26 rfl)
theorem dX12_visit_123 : decode cX12_visit 123 = .ok (.iaload, 1) := dq_46 (kX12_visit_3 27 rfl)
theorem dX12_visit_124 : decode cX12_visit 124 = .ok (.isub, 1) := dq_100 (kX12_visit_3 28 rfl)
theorem dX12_visit_125 : decode cX12_visit 125 = .ok (.iastore, 1) := dq_79 (kX12_visit_3 29 rfl)
theorem dX12_visit_126 : decode cX12_visit 126 = .ok (.aload_n 0, 1) := dq_42 (kX12_visit_3 30 rfl)
theorem dX12_visit_127 : decode cX12_visit 127 = .ok (.aload_n 0, 1) := dq_42 (kX12_visit_3 31 rfl)
theorem dX12_visit_128 : decode cX12_visit 128 = .ok (.getfield 660, 3) := dq_180 (kX12_visit_4 0 rfl) (kX12_visit_4 1 rfl) (kX12_visit_4 2 rfl) rfl
theorem dX12_visit_131 : decode cX12_visit 131 = .ok (.iconst 1, 1) := dq_4 (kX12_visit_4 3 rfl)
theorem dX12_visit_132 : decode cX12_visit 132 = .ok (.iadd, 1) := dq_96 (kX12_visit_4 4 rfl)
theorem dX12_visit_133 : decode cX12_visit 133 = .ok (.putfield 660, 3) := dq_181 (kX12_visit_4 5 rfl) (kX12_visit_4 6 rfl) (kX12_visit_4 7 rfl) rfl
theorem dX12_visit_136 : decode cX12_visit 136 = .ok (.aload_n 0, 1) := dq_42 (kX12_visit_4 8 rfl)
theorem dX12_visit_137 : decode cX12_visit 137 = .ok (.getfield 660, 3) := dq_180 (kX12_visit_4 9 rfl) (kX12_visit_4 10 rfl) (kX12_visit_4 11 rfl) rfl
theorem dX12_visit_140 : decode cX12_visit 140 = .ok (.iconst 1, 1) := dq_4 (kX12_visit_4 12 rfl)
theorem dX12_visit_141 : decode cX12_visit 141 = .ok (.isub, 1) := dq_100 (kX12_visit_4 13 rfl)
theorem dX12_visit_142 : decode cX12_visit 142 = .ok (.ireturn, 1) := dq_172 (kX12_visit_4 14 rfl)

def bX12_seen_0 : List UInt8 := [27, 155, 0, 11, 27, 42, 180, 2, 148, 161, 0, 7, 19, 2, 151, 172, 28, 170, 0, 0, 0, 0, 0, 70, 0, 0, 0, 0, 0, 0, 0, 4]
theorem kX12_seen_0 (j : Nat) {b : UInt8} (hj : bX12_seen_0[j]? = some b) : AtB cX12_seen (0 + j) b := at_of32 (by decide +kernel) j hj
def bX12_seen_1 : List UInt8 := [0, 0, 0, 35, 0, 0, 0, 42, 0, 0, 0, 49, 0, 0, 0, 56, 0, 0, 0, 63, 42, 180, 1, 6, 27, 46, 172, 42, 180, 1, 9, 27]
theorem kX12_seen_1 (j : Nat) {b : UInt8} (hj : bX12_seen_1[j]? = some b) : AtB cX12_seen (32 + j) b := at_of32 (by decide +kernel) j hj
def bX12_seen_2 : List UInt8 := [46, 172, 42, 180, 1, 12, 27, 46, 172, 42, 180, 1, 15, 27, 46, 172, 42, 180, 1, 18, 27, 46, 172, 19, 2, 151, 172]
theorem kX12_seen_2 (j : Nat) {b : UInt8} (hj : bX12_seen_2[j]? = some b) : AtB cX12_seen (64 + j) b := at_of32 (by decide +kernel) j hj
theorem dX12_seen_0 : decode cX12_seen 0 = .ok (.iload_n 1, 1) := dq_27 (kX12_seen_0 0 rfl)
theorem dX12_seen_1 : decode cX12_seen 1 = .ok (.ifCond .lt 11, 3) := dq_155 (kX12_seen_0 1 rfl) (kX12_seen_0 2 rfl) (kX12_seen_0 3 rfl) (by decide)
theorem dX12_seen_4 : decode cX12_seen 4 = .ok (.iload_n 1, 1) := dq_27 (kX12_seen_0 4 rfl)
theorem dX12_seen_5 : decode cX12_seen 5 = .ok (.aload_n 0, 1) := dq_42 (kX12_seen_0 5 rfl)
theorem dX12_seen_6 : decode cX12_seen 6 = .ok (.getfield 660, 3) := dq_180 (kX12_seen_0 6 rfl) (kX12_seen_0 7 rfl) (kX12_seen_0 8 rfl) rfl
theorem dX12_seen_9 : decode cX12_seen 9 = .ok (.if_icmp .lt 7, 3) := dq_161 (kX12_seen_0 9 rfl) (kX12_seen_0 10 rfl) (kX12_seen_0 11 rfl) (by decide)
theorem dX12_seen_12 : decode cX12_seen 12 = .ok (.ldc_w 663, 3) := dq_19 (kX12_seen_0 12 rfl) (kX12_seen_0 13 rfl) (kX12_seen_0 14 rfl) rfl
theorem dX12_seen_15 : decode cX12_seen 15 = .ok (.ireturn, 1) := dq_172 (kX12_seen_0 15 rfl)
theorem dX12_seen_16 : decode cX12_seen 16 = .ok (.iload_n 2, 1) := dq_28 (kX12_seen_0 16 rfl)
theorem dX12_seen_52 : decode cX12_seen 52 = .ok (.aload_n 0, 1) := dq_42 (kX12_seen_1 20 rfl)
theorem dX12_seen_53 : decode cX12_seen 53 = .ok (.getfield 262, 3) := dq_180 (kX12_seen_1 21 rfl) (kX12_seen_1 22 rfl) (kX12_seen_1 23 rfl) rfl
theorem dX12_seen_56 : decode cX12_seen 56 = .ok (.iload_n 1, 1) := dq_27 (kX12_seen_1 24 rfl)
theorem dX12_seen_57 : decode cX12_seen 57 = .ok (.iaload, 1) := dq_46 (kX12_seen_1 25 rfl)
theorem dX12_seen_58 : decode cX12_seen 58 = .ok (.ireturn, 1) := dq_172 (kX12_seen_1 26 rfl)
theorem dX12_seen_59 : decode cX12_seen 59 = .ok (.aload_n 0, 1) := dq_42 (kX12_seen_1 27 rfl)
theorem dX12_seen_60 : decode cX12_seen 60 = .ok (.getfield 265, 3) := dq_180 (kX12_seen_1 28 rfl) (kX12_seen_1 29 rfl) (kX12_seen_1 30 rfl) rfl
theorem dX12_seen_63 : decode cX12_seen 63 = .ok (.iload_n 1, 1) := dq_27 (kX12_seen_1 31 rfl)
theorem dX12_seen_64 : decode cX12_seen 64 = .ok (.iaload, 1) := dq_46 (kX12_seen_2 0 rfl)
theorem dX12_seen_65 : decode cX12_seen 65 = .ok (.ireturn, 1) := dq_172 (kX12_seen_2 1 rfl)
theorem dX12_seen_66 : decode cX12_seen 66 = .ok (.aload_n 0, 1) := dq_42 (kX12_seen_2 2 rfl)
theorem dX12_seen_67 : decode cX12_seen 67 = .ok (.getfield 268, 3) := dq_180 (kX12_seen_2 3 rfl) (kX12_seen_2 4 rfl) (kX12_seen_2 5 rfl) rfl
theorem dX12_seen_70 : decode cX12_seen 70 = .ok (.iload_n 1, 1) := dq_27 (kX12_seen_2 6 rfl)
theorem dX12_seen_71 : decode cX12_seen 71 = .ok (.iaload, 1) := dq_46 (kX12_seen_2 7 rfl)
theorem dX12_seen_72 : decode cX12_seen 72 = .ok (.ireturn, 1) := dq_172 (kX12_seen_2 8 rfl)
theorem dX12_seen_73 : decode cX12_seen 73 = .ok (.aload_n 0, 1) := dq_42 (kX12_seen_2 9 rfl)
theorem dX12_seen_74 : decode cX12_seen 74 = .ok (.getfield 271, 3) := dq_180 (kX12_seen_2 10 rfl) (kX12_seen_2 11 rfl) (kX12_seen_2 12 rfl) rfl
theorem dX12_seen_77 : decode cX12_seen 77 = .ok (.iload_n 1, 1) := dq_27 (kX12_seen_2 13 rfl)
theorem dX12_seen_78 : decode cX12_seen 78 = .ok (.iaload, 1) := dq_46 (kX12_seen_2 14 rfl)
theorem dX12_seen_79 : decode cX12_seen 79 = .ok (.ireturn, 1) := dq_172 (kX12_seen_2 15 rfl)
theorem dX12_seen_80 : decode cX12_seen 80 = .ok (.aload_n 0, 1) := dq_42 (kX12_seen_2 16 rfl)
theorem dX12_seen_81 : decode cX12_seen 81 = .ok (.getfield 274, 3) := dq_180 (kX12_seen_2 17 rfl) (kX12_seen_2 18 rfl) (kX12_seen_2 19 rfl) rfl
theorem dX12_seen_84 : decode cX12_seen 84 = .ok (.iload_n 1, 1) := dq_27 (kX12_seen_2 20 rfl)
theorem dX12_seen_85 : decode cX12_seen 85 = .ok (.iaload, 1) := dq_46 (kX12_seen_2 21 rfl)
theorem dX12_seen_86 : decode cX12_seen 86 = .ok (.ireturn, 1) := dq_172 (kX12_seen_2 22 rfl)
theorem dX12_seen_87 : decode cX12_seen 87 = .ok (.ldc_w 663, 3) := dq_19 (kX12_seen_2 23 rfl) (kX12_seen_2 24 rfl) (kX12_seen_2 25 rfl) rfl
theorem dX12_seen_90 : decode cX12_seen 90 = .ok (.ireturn, 1) := dq_172 (kX12_seen_2 26 rfl)
def LX12_seen : List (Nat × Instr × Nat) := [(17, .tableswitch 70 0 4 #[35, 42, 49, 56, 63], 35)]
theorem kkX12_seen : chkB cX12_seen LX12_seen = true := by decide +kernel
theorem dX12_seen_17 : decode cX12_seen 17 = .ok (.tableswitch 70 0 4 #[35, 42, 49, 56, 63], 35) := getB' kkX12_seen 0 rfl

def bX12_worksGo_0 : List UInt8 := [3, 60, 27, 42, 180, 1, 122, 162, 0, 151, 42, 180, 1, 140, 42, 180, 0, 172, 27, 46, 42, 180, 0, 175, 27, 46, 184, 1, 115, 154, 0, 6]
theorem kX12_worksGo_0 (j : Nat) {b : UInt8} (hj : bX12_worksGo_0[j]? = some b) : AtB cX12_worksGo (0 + j) b := at_of32 (by decide +kernel) j hj
def bX12_worksGo_1 : List UInt8 := [167, 0, 120, 42, 27, 42, 180, 1, 140, 3, 182, 2, 96, 153, 0, 20, 42, 180, 0, 187, 27, 42, 180, 0, 187, 27, 46, 4, 96, 79, 167, 0]
theorem kX12_worksGo_1 (j : Nat) {b : UInt8} (hj : bX12_worksGo_1[j]? = some b) : AtB cX12_worksGo (32 + j) b := at_of32 (by decide +kernel) j hj
def bX12_worksGo_2 : List UInt8 := [90, 42, 180, 0, 184, 27, 42, 180, 0, 184, 27, 46, 4, 96, 79, 42, 180, 0, 32, 42, 180, 0, 166, 27, 46, 42, 180, 0, 32, 42, 180, 0]
theorem kX12_worksGo_2 (j : Nat) {b : UInt8} (hj : bX12_worksGo_2[j]? = some b) : AtB cX12_worksGo (64 + j) b := at_of32 (by decide +kernel) j hj
def bX12_worksGo_3 : List UInt8 := [166, 27, 46, 46, 42, 180, 0, 163, 27, 46, 154, 0, 7, 4, 167, 0, 4, 3, 96, 79, 42, 27, 182, 2, 152, 3, 61, 28, 42, 180, 2, 155]
theorem kX12_worksGo_3 (j : Nat) {b : UInt8} (hj : bX12_worksGo_3[j]? = some b) : AtB cX12_worksGo (96 + j) b := at_of32 (by decide +kernel) j hj
def bX12_worksGo_4 : List UInt8 := [162, 0, 24, 42, 180, 1, 39, 28, 46, 27, 160, 0, 8, 42, 28, 182, 2, 158, 132, 2, 1, 167, 255, 230, 132, 1, 1, 167, 255, 103, 3, 60]
theorem kX12_worksGo_4 (j : Nat) {b : UInt8} (hj : bX12_worksGo_4[j]? = some b) : AtB cX12_worksGo (128 + j) b := at_of32 (by decide +kernel) j hj
def bX12_worksGo_5 : List UInt8 := [27, 42, 180, 1, 137, 162, 0, 60, 42, 180, 0, 29, 27, 46, 2, 159, 0, 6, 167, 0, 41, 42, 16, 113, 27, 42, 180, 1, 140, 2, 182, 2]
theorem kX12_worksGo_5 (j : Nat) {b : UInt8} (hj : bX12_worksGo_5[j]? = some b) : AtB cX12_worksGo (160 + j) b := at_of32 (by decide +kernel) j hj
def bX12_worksGo_6 : List UInt8 := [51, 61, 28, 2, 159, 0, 23, 42, 180, 0, 32, 27, 46, 28, 161, 0, 13, 42, 180, 0, 29, 27, 42, 180, 1, 140, 79, 132, 1, 1, 167, 255]
theorem kX12_worksGo_6 (j : Nat) {b : UInt8} (hj : bX12_worksGo_6[j]? = some b) : AtB cX12_worksGo (192 + j) b := at_of32 (by decide +kernel) j hj
def bX12_worksGo_7 : List UInt8 := [194, 177]
theorem kX12_worksGo_7 (j : Nat) {b : UInt8} (hj : bX12_worksGo_7[j]? = some b) : AtB cX12_worksGo (224 + j) b := at_of32 (by decide +kernel) j hj
theorem dX12_worksGo_0 : decode cX12_worksGo 0 = .ok (.iconst 0, 1) := dq_3 (kX12_worksGo_0 0 rfl)
theorem dX12_worksGo_1 : decode cX12_worksGo 1 = .ok (.istore_n 1, 1) := dq_60 (kX12_worksGo_0 1 rfl)
theorem dX12_worksGo_2 : decode cX12_worksGo 2 = .ok (.iload_n 1, 1) := dq_27 (kX12_worksGo_0 2 rfl)
theorem dX12_worksGo_3 : decode cX12_worksGo 3 = .ok (.aload_n 0, 1) := dq_42 (kX12_worksGo_0 3 rfl)
theorem dX12_worksGo_4 : decode cX12_worksGo 4 = .ok (.getfield 378, 3) := dq_180 (kX12_worksGo_0 4 rfl) (kX12_worksGo_0 5 rfl) (kX12_worksGo_0 6 rfl) rfl
theorem dX12_worksGo_7 : decode cX12_worksGo 7 = .ok (.if_icmp .ge 151, 3) := dq_162 (kX12_worksGo_0 7 rfl) (kX12_worksGo_0 8 rfl) (kX12_worksGo_0 9 rfl) (by decide)
theorem dX12_worksGo_10 : decode cX12_worksGo 10 = .ok (.aload_n 0, 1) := dq_42 (kX12_worksGo_0 10 rfl)
theorem dX12_worksGo_11 : decode cX12_worksGo 11 = .ok (.getfield 396, 3) := dq_180 (kX12_worksGo_0 11 rfl) (kX12_worksGo_0 12 rfl) (kX12_worksGo_0 13 rfl) rfl
theorem dX12_worksGo_14 : decode cX12_worksGo 14 = .ok (.aload_n 0, 1) := dq_42 (kX12_worksGo_0 14 rfl)
theorem dX12_worksGo_15 : decode cX12_worksGo 15 = .ok (.getfield 172, 3) := dq_180 (kX12_worksGo_0 15 rfl) (kX12_worksGo_0 16 rfl) (kX12_worksGo_0 17 rfl) rfl
theorem dX12_worksGo_18 : decode cX12_worksGo 18 = .ok (.iload_n 1, 1) := dq_27 (kX12_worksGo_0 18 rfl)
theorem dX12_worksGo_19 : decode cX12_worksGo 19 = .ok (.iaload, 1) := dq_46 (kX12_worksGo_0 19 rfl)
theorem dX12_worksGo_20 : decode cX12_worksGo 20 = .ok (.aload_n 0, 1) := dq_42 (kX12_worksGo_0 20 rfl)
theorem dX12_worksGo_21 : decode cX12_worksGo 21 = .ok (.getfield 175, 3) := dq_180 (kX12_worksGo_0 21 rfl) (kX12_worksGo_0 22 rfl) (kX12_worksGo_0 23 rfl) rfl
theorem dX12_worksGo_24 : decode cX12_worksGo 24 = .ok (.iload_n 1, 1) := dq_27 (kX12_worksGo_0 24 rfl)
theorem dX12_worksGo_25 : decode cX12_worksGo 25 = .ok (.iaload, 1) := dq_46 (kX12_worksGo_0 25 rfl)
theorem dX12_worksGo_26 : decode cX12_worksGo 26 = .ok (.invokestatic 371, 3) := dq_184 (kX12_worksGo_0 26 rfl) (kX12_worksGo_0 27 rfl) (kX12_worksGo_0 28 rfl) rfl
theorem dX12_worksGo_29 : decode cX12_worksGo 29 = .ok (.ifCond .ne 6, 3) := dq_154 (kX12_worksGo_0 29 rfl) (kX12_worksGo_0 30 rfl) (kX12_worksGo_0 31 rfl) (by decide)
theorem dX12_worksGo_32 : decode cX12_worksGo 32 = .ok (.goto 120, 3) := dq_167 (kX12_worksGo_1 0 rfl) (kX12_worksGo_1 1 rfl) (kX12_worksGo_1 2 rfl) (by decide)
theorem dX12_worksGo_35 : decode cX12_worksGo 35 = .ok (.aload_n 0, 1) := dq_42 (kX12_worksGo_1 3 rfl)
theorem dX12_worksGo_36 : decode cX12_worksGo 36 = .ok (.iload_n 1, 1) := dq_27 (kX12_worksGo_1 4 rfl)
theorem dX12_worksGo_37 : decode cX12_worksGo 37 = .ok (.aload_n 0, 1) := dq_42 (kX12_worksGo_1 5 rfl)
theorem dX12_worksGo_38 : decode cX12_worksGo 38 = .ok (.getfield 396, 3) := dq_180 (kX12_worksGo_1 6 rfl) (kX12_worksGo_1 7 rfl) (kX12_worksGo_1 8 rfl) rfl
theorem dX12_worksGo_41 : decode cX12_worksGo 41 = .ok (.iconst 0, 1) := dq_3 (kX12_worksGo_1 9 rfl)
theorem dX12_worksGo_42 : decode cX12_worksGo 42 = .ok (.invokevirtual 608, 3) := dq_182 (kX12_worksGo_1 10 rfl) (kX12_worksGo_1 11 rfl) (kX12_worksGo_1 12 rfl) rfl
theorem dX12_worksGo_45 : decode cX12_worksGo 45 = .ok (.ifCond .eq 20, 3) := dq_153 (kX12_worksGo_1 13 rfl) (kX12_worksGo_1 14 rfl) (kX12_worksGo_1 15 rfl) (by decide)
theorem dX12_worksGo_48 : decode cX12_worksGo 48 = .ok (.aload_n 0, 1) := dq_42 (kX12_worksGo_1 16 rfl)
theorem dX12_worksGo_49 : decode cX12_worksGo 49 = .ok (.getfield 187, 3) := dq_180 (kX12_worksGo_1 17 rfl) (kX12_worksGo_1 18 rfl) (kX12_worksGo_1 19 rfl) rfl
theorem dX12_worksGo_52 : decode cX12_worksGo 52 = .ok (.iload_n 1, 1) := dq_27 (kX12_worksGo_1 20 rfl)
theorem dX12_worksGo_53 : decode cX12_worksGo 53 = .ok (.aload_n 0, 1) := dq_42 (kX12_worksGo_1 21 rfl)
theorem dX12_worksGo_54 : decode cX12_worksGo 54 = .ok (.getfield 187, 3) := dq_180 (kX12_worksGo_1 22 rfl) (kX12_worksGo_1 23 rfl) (kX12_worksGo_1 24 rfl) rfl
theorem dX12_worksGo_57 : decode cX12_worksGo 57 = .ok (.iload_n 1, 1) := dq_27 (kX12_worksGo_1 25 rfl)
theorem dX12_worksGo_58 : decode cX12_worksGo 58 = .ok (.iaload, 1) := dq_46 (kX12_worksGo_1 26 rfl)
theorem dX12_worksGo_59 : decode cX12_worksGo 59 = .ok (.iconst 1, 1) := dq_4 (kX12_worksGo_1 27 rfl)
theorem dX12_worksGo_60 : decode cX12_worksGo 60 = .ok (.iadd, 1) := dq_96 (kX12_worksGo_1 28 rfl)
theorem dX12_worksGo_61 : decode cX12_worksGo 61 = .ok (.iastore, 1) := dq_79 (kX12_worksGo_1 29 rfl)
theorem dX12_worksGo_62 : decode cX12_worksGo 62 = .ok (.goto 90, 3) := dq_167 (kX12_worksGo_1 30 rfl) (kX12_worksGo_1 31 rfl) (kX12_worksGo_2 0 rfl) (by decide)
theorem dX12_worksGo_65 : decode cX12_worksGo 65 = .ok (.aload_n 0, 1) := dq_42 (kX12_worksGo_2 1 rfl)
theorem dX12_worksGo_66 : decode cX12_worksGo 66 = .ok (.getfield 184, 3) := dq_180 (kX12_worksGo_2 2 rfl) (kX12_worksGo_2 3 rfl) (kX12_worksGo_2 4 rfl) rfl
theorem dX12_worksGo_69 : decode cX12_worksGo 69 = .ok (.iload_n 1, 1) := dq_27 (kX12_worksGo_2 5 rfl)
theorem dX12_worksGo_70 : decode cX12_worksGo 70 = .ok (.aload_n 0, 1) := dq_42 (kX12_worksGo_2 6 rfl)
theorem dX12_worksGo_71 : decode cX12_worksGo 71 = .ok (.getfield 184, 3) := dq_180 (kX12_worksGo_2 7 rfl) (kX12_worksGo_2 8 rfl) (kX12_worksGo_2 9 rfl) rfl
theorem dX12_worksGo_74 : decode cX12_worksGo 74 = .ok (.iload_n 1, 1) := dq_27 (kX12_worksGo_2 10 rfl)
theorem dX12_worksGo_75 : decode cX12_worksGo 75 = .ok (.iaload, 1) := dq_46 (kX12_worksGo_2 11 rfl)
theorem dX12_worksGo_76 : decode cX12_worksGo 76 = .ok (.iconst 1, 1) := dq_4 (kX12_worksGo_2 12 rfl)
theorem dX12_worksGo_77 : decode cX12_worksGo 77 = .ok (.iadd, 1) := dq_96 (kX12_worksGo_2 13 rfl)
theorem dX12_worksGo_78 : decode cX12_worksGo 78 = .ok (.iastore, 1) := dq_79 (kX12_worksGo_2 14 rfl)
theorem dX12_worksGo_79 : decode cX12_worksGo 79 = .ok (.aload_n 0, 1) := dq_42 (kX12_worksGo_2 15 rfl)
theorem dX12_worksGo_80 : decode cX12_worksGo 80 = .ok (.getfield 32, 3) := dq_180 (kX12_worksGo_2 16 rfl) (kX12_worksGo_2 17 rfl) (kX12_worksGo_2 18 rfl) rfl
theorem dX12_worksGo_83 : decode cX12_worksGo 83 = .ok (.aload_n 0, 1) := dq_42 (kX12_worksGo_2 19 rfl)
theorem dX12_worksGo_84 : decode cX12_worksGo 84 = .ok (.getfield 166, 3) := dq_180 (kX12_worksGo_2 20 rfl) (kX12_worksGo_2 21 rfl) (kX12_worksGo_2 22 rfl) rfl
theorem dX12_worksGo_87 : decode cX12_worksGo 87 = .ok (.iload_n 1, 1) := dq_27 (kX12_worksGo_2 23 rfl)
theorem dX12_worksGo_88 : decode cX12_worksGo 88 = .ok (.iaload, 1) := dq_46 (kX12_worksGo_2 24 rfl)
theorem dX12_worksGo_89 : decode cX12_worksGo 89 = .ok (.aload_n 0, 1) := dq_42 (kX12_worksGo_2 25 rfl)
theorem dX12_worksGo_90 : decode cX12_worksGo 90 = .ok (.getfield 32, 3) := dq_180 (kX12_worksGo_2 26 rfl) (kX12_worksGo_2 27 rfl) (kX12_worksGo_2 28 rfl) rfl
theorem dX12_worksGo_93 : decode cX12_worksGo 93 = .ok (.aload_n 0, 1) := dq_42 (kX12_worksGo_2 29 rfl)
theorem dX12_worksGo_94 : decode cX12_worksGo 94 = .ok (.getfield 166, 3) := dq_180 (kX12_worksGo_2 30 rfl) (kX12_worksGo_2 31 rfl) (kX12_worksGo_3 0 rfl) rfl
theorem dX12_worksGo_97 : decode cX12_worksGo 97 = .ok (.iload_n 1, 1) := dq_27 (kX12_worksGo_3 1 rfl)
theorem dX12_worksGo_98 : decode cX12_worksGo 98 = .ok (.iaload, 1) := dq_46 (kX12_worksGo_3 2 rfl)
theorem dX12_worksGo_99 : decode cX12_worksGo 99 = .ok (.iaload, 1) := dq_46 (kX12_worksGo_3 3 rfl)
theorem dX12_worksGo_100 : decode cX12_worksGo 100 = .ok (.aload_n 0, 1) := dq_42 (kX12_worksGo_3 4 rfl)
theorem dX12_worksGo_101 : decode cX12_worksGo 101 = .ok (.getfield 163, 3) := dq_180 (kX12_worksGo_3 5 rfl) (kX12_worksGo_3 6 rfl) (kX12_worksGo_3 7 rfl) rfl
theorem dX12_worksGo_104 : decode cX12_worksGo 104 = .ok (.iload_n 1, 1) := dq_27 (kX12_worksGo_3 8 rfl)
theorem dX12_worksGo_105 : decode cX12_worksGo 105 = .ok (.iaload, 1) := dq_46 (kX12_worksGo_3 9 rfl)
theorem dX12_worksGo_106 : decode cX12_worksGo 106 = .ok (.ifCond .ne 7, 3) := dq_154 (kX12_worksGo_3 10 rfl) (kX12_worksGo_3 11 rfl) (kX12_worksGo_3 12 rfl) (by decide)
theorem dX12_worksGo_109 : decode cX12_worksGo 109 = .ok (.iconst 1, 1) := dq_4 (kX12_worksGo_3 13 rfl)
theorem dX12_worksGo_110 : decode cX12_worksGo 110 = .ok (.goto 4, 3) := dq_167 (kX12_worksGo_3 14 rfl) (kX12_worksGo_3 15 rfl) (kX12_worksGo_3 16 rfl) (by decide)
theorem dX12_worksGo_113 : decode cX12_worksGo 113 = .ok (.iconst 0, 1) := dq_3 (kX12_worksGo_3 17 rfl)
theorem dX12_worksGo_114 : decode cX12_worksGo 114 = .ok (.iadd, 1) := dq_96 (kX12_worksGo_3 18 rfl)
theorem dX12_worksGo_115 : decode cX12_worksGo 115 = .ok (.iastore, 1) := dq_79 (kX12_worksGo_3 19 rfl)
theorem dX12_worksGo_116 : decode cX12_worksGo 116 = .ok (.aload_n 0, 1) := dq_42 (kX12_worksGo_3 20 rfl)
theorem dX12_worksGo_117 : decode cX12_worksGo 117 = .ok (.iload_n 1, 1) := dq_27 (kX12_worksGo_3 21 rfl)
theorem dX12_worksGo_118 : decode cX12_worksGo 118 = .ok (.invokevirtual 664, 3) := dq_182 (kX12_worksGo_3 22 rfl) (kX12_worksGo_3 23 rfl) (kX12_worksGo_3 24 rfl) rfl
theorem dX12_worksGo_121 : decode cX12_worksGo 121 = .ok (.iconst 0, 1) := dq_3 (kX12_worksGo_3 25 rfl)
theorem dX12_worksGo_122 : decode cX12_worksGo 122 = .ok (.istore_n 2, 1) := dq_61 (kX12_worksGo_3 26 rfl)
theorem dX12_worksGo_123 : decode cX12_worksGo 123 = .ok (.iload_n 2, 1) := dq_28 (kX12_worksGo_3 27 rfl)
theorem dX12_worksGo_124 : decode cX12_worksGo 124 = .ok (.aload_n 0, 1) := dq_42 (kX12_worksGo_3 28 rfl)
theorem dX12_worksGo_125 : decode cX12_worksGo 125 = .ok (.getfield 667, 3) := dq_180 (kX12_worksGo_3 29 rfl) (kX12_worksGo_3 30 rfl) (kX12_worksGo_3 31 rfl) rfl
theorem dX12_worksGo_128 : decode cX12_worksGo 128 = .ok (.if_icmp .ge 24, 3) := dq_162 (kX12_worksGo_4 0 rfl) (kX12_worksGo_4 1 rfl) (kX12_worksGo_4 2 rfl) (by decide)
theorem dX12_worksGo_131 : decode cX12_worksGo 131 = .ok (.aload_n 0, 1) := dq_42 (kX12_worksGo_4 3 rfl)
theorem dX12_worksGo_132 : decode cX12_worksGo 132 = .ok (.getfield 295, 3) := dq_180 (kX12_worksGo_4 4 rfl) (kX12_worksGo_4 5 rfl) (kX12_worksGo_4 6 rfl) rfl
theorem dX12_worksGo_135 : decode cX12_worksGo 135 = .ok (.iload_n 2, 1) := dq_28 (kX12_worksGo_4 7 rfl)
theorem dX12_worksGo_136 : decode cX12_worksGo 136 = .ok (.iaload, 1) := dq_46 (kX12_worksGo_4 8 rfl)
theorem dX12_worksGo_137 : decode cX12_worksGo 137 = .ok (.iload_n 1, 1) := dq_27 (kX12_worksGo_4 9 rfl)
theorem dX12_worksGo_138 : decode cX12_worksGo 138 = .ok (.if_icmp .ne 8, 3) := dq_160 (kX12_worksGo_4 10 rfl) (kX12_worksGo_4 11 rfl) (kX12_worksGo_4 12 rfl) (by decide)
theorem dX12_worksGo_141 : decode cX12_worksGo 141 = .ok (.aload_n 0, 1) := dq_42 (kX12_worksGo_4 13 rfl)
theorem dX12_worksGo_142 : decode cX12_worksGo 142 = .ok (.iload_n 2, 1) := dq_28 (kX12_worksGo_4 14 rfl)
theorem dX12_worksGo_143 : decode cX12_worksGo 143 = .ok (.invokevirtual 670, 3) := dq_182 (kX12_worksGo_4 15 rfl) (kX12_worksGo_4 16 rfl) (kX12_worksGo_4 17 rfl) rfl
theorem dX12_worksGo_146 : decode cX12_worksGo 146 = .ok (.iinc 2 1, 3) := dq_132 (kX12_worksGo_4 18 rfl) (kX12_worksGo_4 19 rfl) (kX12_worksGo_4 20 rfl) rfl (by decide)
theorem dX12_worksGo_149 : decode cX12_worksGo 149 = .ok (.goto (-26), 3) := dq_167 (kX12_worksGo_4 21 rfl) (kX12_worksGo_4 22 rfl) (kX12_worksGo_4 23 rfl) (by decide)
theorem dX12_worksGo_152 : decode cX12_worksGo 152 = .ok (.iinc 1 1, 3) := dq_132 (kX12_worksGo_4 24 rfl) (kX12_worksGo_4 25 rfl) (kX12_worksGo_4 26 rfl) rfl (by decide)
theorem dX12_worksGo_155 : decode cX12_worksGo 155 = .ok (.goto (-153), 3) := dq_167 (kX12_worksGo_4 27 rfl) (kX12_worksGo_4 28 rfl) (kX12_worksGo_4 29 rfl) (by decide)
theorem dX12_worksGo_158 : decode cX12_worksGo 158 = .ok (.iconst 0, 1) := dq_3 (kX12_worksGo_4 30 rfl)
theorem dX12_worksGo_159 : decode cX12_worksGo 159 = .ok (.istore_n 1, 1) := dq_60 (kX12_worksGo_4 31 rfl)
theorem dX12_worksGo_160 : decode cX12_worksGo 160 = .ok (.iload_n 1, 1) := dq_27 (kX12_worksGo_5 0 rfl)
theorem dX12_worksGo_161 : decode cX12_worksGo 161 = .ok (.aload_n 0, 1) := dq_42 (kX12_worksGo_5 1 rfl)
theorem dX12_worksGo_162 : decode cX12_worksGo 162 = .ok (.getfield 393, 3) := dq_180 (kX12_worksGo_5 2 rfl) (kX12_worksGo_5 3 rfl) (kX12_worksGo_5 4 rfl) rfl
theorem dX12_worksGo_165 : decode cX12_worksGo 165 = .ok (.if_icmp .ge 60, 3) := dq_162 (kX12_worksGo_5 5 rfl) (kX12_worksGo_5 6 rfl) (kX12_worksGo_5 7 rfl) (by decide)
theorem dX12_worksGo_168 : decode cX12_worksGo 168 = .ok (.aload_n 0, 1) := dq_42 (kX12_worksGo_5 8 rfl)
theorem dX12_worksGo_169 : decode cX12_worksGo 169 = .ok (.getfield 29, 3) := dq_180 (kX12_worksGo_5 9 rfl) (kX12_worksGo_5 10 rfl) (kX12_worksGo_5 11 rfl) rfl
theorem dX12_worksGo_172 : decode cX12_worksGo 172 = .ok (.iload_n 1, 1) := dq_27 (kX12_worksGo_5 12 rfl)
theorem dX12_worksGo_173 : decode cX12_worksGo 173 = .ok (.iaload, 1) := dq_46 (kX12_worksGo_5 13 rfl)
theorem dX12_worksGo_174 : decode cX12_worksGo 174 = .ok (.iconst (-1), 1) := dq_2 (kX12_worksGo_5 14 rfl)
theorem dX12_worksGo_175 : decode cX12_worksGo 175 = .ok (.if_icmp .eq 6, 3) := dq_159 (kX12_worksGo_5 15 rfl) (kX12_worksGo_5 16 rfl) (kX12_worksGo_5 17 rfl) (by decide)
theorem dX12_worksGo_178 : decode cX12_worksGo 178 = .ok (.goto 41, 3) := dq_167 (kX12_worksGo_5 18 rfl) (kX12_worksGo_5 19 rfl) (kX12_worksGo_5 20 rfl) (by decide)
theorem dX12_worksGo_181 : decode cX12_worksGo 181 = .ok (.aload_n 0, 1) := dq_42 (kX12_worksGo_5 21 rfl)
theorem dX12_worksGo_182 : decode cX12_worksGo 182 = .ok (.bipush 113, 2) := dq_16 (kX12_worksGo_5 22 rfl) (kX12_worksGo_5 23 rfl) (by decide)
theorem dX12_worksGo_184 : decode cX12_worksGo 184 = .ok (.iload_n 1, 1) := dq_27 (kX12_worksGo_5 24 rfl)
theorem dX12_worksGo_185 : decode cX12_worksGo 185 = .ok (.aload_n 0, 1) := dq_42 (kX12_worksGo_5 25 rfl)
theorem dX12_worksGo_186 : decode cX12_worksGo 186 = .ok (.getfield 396, 3) := dq_180 (kX12_worksGo_5 26 rfl) (kX12_worksGo_5 27 rfl) (kX12_worksGo_5 28 rfl) rfl
theorem dX12_worksGo_189 : decode cX12_worksGo 189 = .ok (.iconst (-1), 1) := dq_2 (kX12_worksGo_5 29 rfl)
theorem dX12_worksGo_190 : decode cX12_worksGo 190 = .ok (.invokevirtual 563, 3) := dq_182 (kX12_worksGo_5 30 rfl) (kX12_worksGo_5 31 rfl) (kX12_worksGo_6 0 rfl) rfl
theorem dX12_worksGo_193 : decode cX12_worksGo 193 = .ok (.istore_n 2, 1) := dq_61 (kX12_worksGo_6 1 rfl)
theorem dX12_worksGo_194 : decode cX12_worksGo 194 = .ok (.iload_n 2, 1) := dq_28 (kX12_worksGo_6 2 rfl)
theorem dX12_worksGo_195 : decode cX12_worksGo 195 = .ok (.iconst (-1), 1) := dq_2 (kX12_worksGo_6 3 rfl)
theorem dX12_worksGo_196 : decode cX12_worksGo 196 = .ok (.if_icmp .eq 23, 3) := dq_159 (kX12_worksGo_6 4 rfl) (kX12_worksGo_6 5 rfl) (kX12_worksGo_6 6 rfl) (by decide)
theorem dX12_worksGo_199 : decode cX12_worksGo 199 = .ok (.aload_n 0, 1) := dq_42 (kX12_worksGo_6 7 rfl)
theorem dX12_worksGo_200 : decode cX12_worksGo 200 = .ok (.getfield 32, 3) := dq_180 (kX12_worksGo_6 8 rfl) (kX12_worksGo_6 9 rfl) (kX12_worksGo_6 10 rfl) rfl
theorem dX12_worksGo_203 : decode cX12_worksGo 203 = .ok (.iload_n 1, 1) := dq_27 (kX12_worksGo_6 11 rfl)
theorem dX12_worksGo_204 : decode cX12_worksGo 204 = .ok (.iaload, 1) := dq_46 (kX12_worksGo_6 12 rfl)
theorem dX12_worksGo_205 : decode cX12_worksGo 205 = .ok (.iload_n 2, 1) := dq_28 (kX12_worksGo_6 13 rfl)
theorem dX12_worksGo_206 : decode cX12_worksGo 206 = .ok (.if_icmp .lt 13, 3) := dq_161 (kX12_worksGo_6 14 rfl) (kX12_worksGo_6 15 rfl) (kX12_worksGo_6 16 rfl) (by decide)
theorem dX12_worksGo_209 : decode cX12_worksGo 209 = .ok (.aload_n 0, 1) := dq_42 (kX12_worksGo_6 17 rfl)
theorem dX12_worksGo_210 : decode cX12_worksGo 210 = .ok (.getfield 29, 3) := dq_180 (kX12_worksGo_6 18 rfl) (kX12_worksGo_6 19 rfl) (kX12_worksGo_6 20 rfl) rfl
theorem dX12_worksGo_213 : decode cX12_worksGo 213 = .ok (.iload_n 1, 1) := dq_27 (kX12_worksGo_6 21 rfl)
theorem dX12_worksGo_214 : decode cX12_worksGo 214 = .ok (.aload_n 0, 1) := dq_42 (kX12_worksGo_6 22 rfl)
theorem dX12_worksGo_215 : decode cX12_worksGo 215 = .ok (.getfield 396, 3) := dq_180 (kX12_worksGo_6 23 rfl) (kX12_worksGo_6 24 rfl) (kX12_worksGo_6 25 rfl) rfl
theorem dX12_worksGo_218 : decode cX12_worksGo 218 = .ok (.iastore, 1) := dq_79 (kX12_worksGo_6 26 rfl)
theorem dX12_worksGo_219 : decode cX12_worksGo 219 = .ok (.iinc 1 1, 3) := dq_132 (kX12_worksGo_6 27 rfl) (kX12_worksGo_6 28 rfl) (kX12_worksGo_6 29 rfl) rfl (by decide)
theorem dX12_worksGo_222 : decode cX12_worksGo 222 = .ok (.goto (-62), 3) := dq_167 (kX12_worksGo_6 30 rfl) (kX12_worksGo_6 31 rfl) (kX12_worksGo_7 0 rfl) (by decide)
theorem dX12_worksGo_225 : decode cX12_worksGo 225 = .ok (.return_, 1) := dq_177 (kX12_worksGo_7 1 rfl)

def bX12_sounds_0 : List UInt8 := [3, 61, 28, 42, 180, 1, 119, 162, 0, 104, 42, 180, 0, 35, 28, 46, 8, 160, 0, 88, 42, 42, 180, 0, 41, 28, 46, 42, 180, 0, 169, 27]
theorem kX12_sounds_0 (j : Nat) {b : UInt8} (hj : bX12_sounds_0[j]? = some b) : AtB cX12_sounds (0 + j) b := at_of32 (by decide +kernel) j hj
def bX12_sounds_1 : List UInt8 := [46, 182, 1, 133, 6, 164, 0, 6, 167, 0, 65, 42, 180, 0, 74, 16, 10, 28, 104, 42, 180, 1, 140, 17, 1, 104, 108, 96, 42, 180, 0, 74]
theorem kX12_sounds_1 (j : Nat) {b : UInt8} (hj : bX12_sounds_1[j]? = some b) : AtB cX12_sounds (32 + j) b := at_of32 (by decide +kernel) j hj
def bX12_sounds_2 : List UInt8 := [16, 10, 28, 104, 42, 180, 1, 140, 17, 1, 104, 108, 96, 46, 42, 180, 0, 181, 27, 46, 42, 42, 180, 0, 41, 28, 46, 42, 180, 0, 169, 27]
theorem kX12_sounds_2 (j : Nat) {b : UInt8} (hj : bX12_sounds_2[j]? = some b) : AtB cX12_sounds (64 + j) b := at_of32 (by decide +kernel) j hj
def bX12_sounds_3 : List UInt8 := [46, 182, 1, 133, 4, 96, 108, 96, 79, 132, 2, 1, 167, 255, 150, 177]
theorem kX12_sounds_3 (j : Nat) {b : UInt8} (hj : bX12_sounds_3[j]? = some b) : AtB cX12_sounds (96 + j) b := at_of32 (by decide +kernel) j hj
theorem dX12_sounds_0 : decode cX12_sounds 0 = .ok (.iconst 0, 1) := dq_3 (kX12_sounds_0 0 rfl)
theorem dX12_sounds_1 : decode cX12_sounds 1 = .ok (.istore_n 2, 1) := dq_61 (kX12_sounds_0 1 rfl)
theorem dX12_sounds_2 : decode cX12_sounds 2 = .ok (.iload_n 2, 1) := dq_28 (kX12_sounds_0 2 rfl)
theorem dX12_sounds_3 : decode cX12_sounds 3 = .ok (.aload_n 0, 1) := dq_42 (kX12_sounds_0 3 rfl)
theorem dX12_sounds_4 : decode cX12_sounds 4 = .ok (.getfield 375, 3) := dq_180 (kX12_sounds_0 4 rfl) (kX12_sounds_0 5 rfl) (kX12_sounds_0 6 rfl) rfl
theorem dX12_sounds_7 : decode cX12_sounds 7 = .ok (.if_icmp .ge 104, 3) := dq_162 (kX12_sounds_0 7 rfl) (kX12_sounds_0 8 rfl) (kX12_sounds_0 9 rfl) (by decide)
theorem dX12_sounds_10 : decode cX12_sounds 10 = .ok (.aload_n 0, 1) := dq_42 (kX12_sounds_0 10 rfl)
theorem dX12_sounds_11 : decode cX12_sounds 11 = .ok (.getfield 35, 3) := dq_180 (kX12_sounds_0 11 rfl) (kX12_sounds_0 12 rfl) (kX12_sounds_0 13 rfl) rfl
theorem dX12_sounds_14 : decode cX12_sounds 14 = .ok (.iload_n 2, 1) := dq_28 (kX12_sounds_0 14 rfl)
theorem dX12_sounds_15 : decode cX12_sounds 15 = .ok (.iaload, 1) := dq_46 (kX12_sounds_0 15 rfl)
theorem dX12_sounds_16 : decode cX12_sounds 16 = .ok (.iconst 5, 1) := dq_8 (kX12_sounds_0 16 rfl)
theorem dX12_sounds_17 : decode cX12_sounds 17 = .ok (.if_icmp .ne 88, 3) := dq_160 (kX12_sounds_0 17 rfl) (kX12_sounds_0 18 rfl) (kX12_sounds_0 19 rfl) (by decide)
theorem dX12_sounds_20 : decode cX12_sounds 20 = .ok (.aload_n 0, 1) := dq_42 (kX12_sounds_0 20 rfl)
theorem dX12_sounds_21 : decode cX12_sounds 21 = .ok (.aload_n 0, 1) := dq_42 (kX12_sounds_0 21 rfl)
theorem dX12_sounds_22 : decode cX12_sounds 22 = .ok (.getfield 41, 3) := dq_180 (kX12_sounds_0 22 rfl) (kX12_sounds_0 23 rfl) (kX12_sounds_0 24 rfl) rfl
theorem dX12_sounds_25 : decode cX12_sounds 25 = .ok (.iload_n 2, 1) := dq_28 (kX12_sounds_0 25 rfl)
theorem dX12_sounds_26 : decode cX12_sounds 26 = .ok (.iaload, 1) := dq_46 (kX12_sounds_0 26 rfl)
theorem dX12_sounds_27 : decode cX12_sounds 27 = .ok (.aload_n 0, 1) := dq_42 (kX12_sounds_0 27 rfl)
theorem dX12_sounds_28 : decode cX12_sounds 28 = .ok (.getfield 169, 3) := dq_180 (kX12_sounds_0 28 rfl) (kX12_sounds_0 29 rfl) (kX12_sounds_0 30 rfl) rfl
theorem dX12_sounds_31 : decode cX12_sounds 31 = .ok (.iload_n 1, 1) := dq_27 (kX12_sounds_0 31 rfl)
theorem dX12_sounds_32 : decode cX12_sounds 32 = .ok (.iaload, 1) := dq_46 (kX12_sounds_1 0 rfl)
theorem dX12_sounds_33 : decode cX12_sounds 33 = .ok (.invokevirtual 389, 3) := dq_182 (kX12_sounds_1 1 rfl) (kX12_sounds_1 2 rfl) (kX12_sounds_1 3 rfl) rfl
theorem dX12_sounds_36 : decode cX12_sounds 36 = .ok (.iconst 3, 1) := dq_6 (kX12_sounds_1 4 rfl)
theorem dX12_sounds_37 : decode cX12_sounds 37 = .ok (.if_icmp .le 6, 3) := dq_164 (kX12_sounds_1 5 rfl) (kX12_sounds_1 6 rfl) (kX12_sounds_1 7 rfl) (by decide)
theorem dX12_sounds_40 : decode cX12_sounds 40 = .ok (.goto 65, 3) := dq_167 (kX12_sounds_1 8 rfl) (kX12_sounds_1 9 rfl) (kX12_sounds_1 10 rfl) (by decide)
theorem dX12_sounds_43 : decode cX12_sounds 43 = .ok (.aload_n 0, 1) := dq_42 (kX12_sounds_1 11 rfl)
theorem dX12_sounds_44 : decode cX12_sounds 44 = .ok (.getfield 74, 3) := dq_180 (kX12_sounds_1 12 rfl) (kX12_sounds_1 13 rfl) (kX12_sounds_1 14 rfl) rfl
theorem dX12_sounds_47 : decode cX12_sounds 47 = .ok (.bipush 10, 2) := dq_16 (kX12_sounds_1 15 rfl) (kX12_sounds_1 16 rfl) (by decide)
theorem dX12_sounds_49 : decode cX12_sounds 49 = .ok (.iload_n 2, 1) := dq_28 (kX12_sounds_1 17 rfl)
theorem dX12_sounds_50 : decode cX12_sounds 50 = .ok (.imul, 1) := dq_104 (kX12_sounds_1 18 rfl)
theorem dX12_sounds_51 : decode cX12_sounds 51 = .ok (.aload_n 0, 1) := dq_42 (kX12_sounds_1 19 rfl)
theorem dX12_sounds_52 : decode cX12_sounds 52 = .ok (.getfield 396, 3) := dq_180 (kX12_sounds_1 20 rfl) (kX12_sounds_1 21 rfl) (kX12_sounds_1 22 rfl) rfl
theorem dX12_sounds_55 : decode cX12_sounds 55 = .ok (.sipush 360, 3) := dq_17 (kX12_sounds_1 23 rfl) (kX12_sounds_1 24 rfl) (kX12_sounds_1 25 rfl) (by decide)
theorem dX12_sounds_58 : decode cX12_sounds 58 = .ok (.idiv, 1) := dq_108 (kX12_sounds_1 26 rfl)
theorem dX12_sounds_59 : decode cX12_sounds 59 = .ok (.iadd, 1) := dq_96 (kX12_sounds_1 27 rfl)
theorem dX12_sounds_60 : decode cX12_sounds 60 = .ok (.aload_n 0, 1) := dq_42 (kX12_sounds_1 28 rfl)
theorem dX12_sounds_61 : decode cX12_sounds 61 = .ok (.getfield 74, 3) := dq_180 (kX12_sounds_1 29 rfl) (kX12_sounds_1 30 rfl) (kX12_sounds_1 31 rfl) rfl
theorem dX12_sounds_64 : decode cX12_sounds 64 = .ok (.bipush 10, 2) := dq_16 (kX12_sounds_2 0 rfl) (kX12_sounds_2 1 rfl) (by decide)
theorem dX12_sounds_66 : decode cX12_sounds 66 = .ok (.iload_n 2, 1) := dq_28 (kX12_sounds_2 2 rfl)
theorem dX12_sounds_67 : decode cX12_sounds 67 = .ok (.imul, 1) := dq_104 (kX12_sounds_2 3 rfl)
theorem dX12_sounds_68 : decode cX12_sounds 68 = .ok (.aload_n 0, 1) := dq_42 (kX12_sounds_2 4 rfl)
theorem dX12_sounds_69 : decode cX12_sounds 69 = .ok (.getfield 396, 3) := dq_180 (kX12_sounds_2 5 rfl) (kX12_sounds_2 6 rfl) (kX12_sounds_2 7 rfl) rfl
theorem dX12_sounds_72 : decode cX12_sounds 72 = .ok (.sipush 360, 3) := dq_17 (kX12_sounds_2 8 rfl) (kX12_sounds_2 9 rfl) (kX12_sounds_2 10 rfl) (by decide)
theorem dX12_sounds_75 : decode cX12_sounds 75 = .ok (.idiv, 1) := dq_108 (kX12_sounds_2 11 rfl)
theorem dX12_sounds_76 : decode cX12_sounds 76 = .ok (.iadd, 1) := dq_96 (kX12_sounds_2 12 rfl)
theorem dX12_sounds_77 : decode cX12_sounds 77 = .ok (.iaload, 1) := dq_46 (kX12_sounds_2 13 rfl)
theorem dX12_sounds_78 : decode cX12_sounds 78 = .ok (.aload_n 0, 1) := dq_42 (kX12_sounds_2 14 rfl)
theorem dX12_sounds_79 : decode cX12_sounds 79 = .ok (.getfield 181, 3) := dq_180 (kX12_sounds_2 15 rfl) (kX12_sounds_2 16 rfl) (kX12_sounds_2 17 rfl) rfl
theorem dX12_sounds_82 : decode cX12_sounds 82 = .ok (.iload_n 1, 1) := dq_27 (kX12_sounds_2 18 rfl)
theorem dX12_sounds_83 : decode cX12_sounds 83 = .ok (.iaload, 1) := dq_46 (kX12_sounds_2 19 rfl)
theorem dX12_sounds_84 : decode cX12_sounds 84 = .ok (.aload_n 0, 1) := dq_42 (kX12_sounds_2 20 rfl)
theorem dX12_sounds_85 : decode cX12_sounds 85 = .ok (.aload_n 0, 1) := dq_42 (kX12_sounds_2 21 rfl)
theorem dX12_sounds_86 : decode cX12_sounds 86 = .ok (.getfield 41, 3) := dq_180 (kX12_sounds_2 22 rfl) (kX12_sounds_2 23 rfl) (kX12_sounds_2 24 rfl) rfl
theorem dX12_sounds_89 : decode cX12_sounds 89 = .ok (.iload_n 2, 1) := dq_28 (kX12_sounds_2 25 rfl)
theorem dX12_sounds_90 : decode cX12_sounds 90 = .ok (.iaload, 1) := dq_46 (kX12_sounds_2 26 rfl)
theorem dX12_sounds_91 : decode cX12_sounds 91 = .ok (.aload_n 0, 1) := dq_42 (kX12_sounds_2 27 rfl)
theorem dX12_sounds_92 : decode cX12_sounds 92 = .ok (.getfield 169, 3) := dq_180 (kX12_sounds_2 28 rfl) (kX12_sounds_2 29 rfl) (kX12_sounds_2 30 rfl) rfl
theorem dX12_sounds_95 : decode cX12_sounds 95 = .ok (.iload_n 1, 1) := dq_27 (kX12_sounds_2 31 rfl)
theorem dX12_sounds_96 : decode cX12_sounds 96 = .ok (.iaload, 1) := dq_46 (kX12_sounds_3 0 rfl)
theorem dX12_sounds_97 : decode cX12_sounds 97 = .ok (.invokevirtual 389, 3) := dq_182 (kX12_sounds_3 1 rfl) (kX12_sounds_3 2 rfl) (kX12_sounds_3 3 rfl) rfl
theorem dX12_sounds_100 : decode cX12_sounds 100 = .ok (.iconst 1, 1) := dq_4 (kX12_sounds_3 4 rfl)
theorem dX12_sounds_101 : decode cX12_sounds 101 = .ok (.iadd, 1) := dq_96 (kX12_sounds_3 5 rfl)
theorem dX12_sounds_102 : decode cX12_sounds 102 = .ok (.idiv, 1) := dq_108 (kX12_sounds_3 6 rfl)
theorem dX12_sounds_103 : decode cX12_sounds 103 = .ok (.iadd, 1) := dq_96 (kX12_sounds_3 7 rfl)
theorem dX12_sounds_104 : decode cX12_sounds 104 = .ok (.iastore, 1) := dq_79 (kX12_sounds_3 8 rfl)
theorem dX12_sounds_105 : decode cX12_sounds 105 = .ok (.iinc 2 1, 3) := dq_132 (kX12_sounds_3 9 rfl) (kX12_sounds_3 10 rfl) (kX12_sounds_3 11 rfl) rfl (by decide)
theorem dX12_sounds_108 : decode cX12_sounds 108 = .ok (.goto (-106), 3) := dq_167 (kX12_sounds_3 12 rfl) (kX12_sounds_3 13 rfl) (kX12_sounds_3 14 rfl) (by decide)
theorem dX12_sounds_111 : decode cX12_sounds 111 = .ok (.return_, 1) := dq_177 (kX12_sounds_3 15 rfl)

def bX12_goesHome_0 : List UInt8 := [42, 42, 180, 2, 161, 42, 180, 0, 53, 27, 46, 133, 97, 181, 2, 161, 42, 180, 0, 53, 27, 3, 79, 177]
theorem kX12_goesHome_0 (j : Nat) {b : UInt8} (hj : bX12_goesHome_0[j]? = some b) : AtB cX12_goesHome (0 + j) b := at_of32 (by decide +kernel) j hj
theorem dX12_goesHome_0 : decode cX12_goesHome 0 = .ok (.aload_n 0, 1) := dq_42 (kX12_goesHome_0 0 rfl)
theorem dX12_goesHome_1 : decode cX12_goesHome 1 = .ok (.aload_n 0, 1) := dq_42 (kX12_goesHome_0 1 rfl)
theorem dX12_goesHome_2 : decode cX12_goesHome 2 = .ok (.getfield 673, 3) := dq_180 (kX12_goesHome_0 2 rfl) (kX12_goesHome_0 3 rfl) (kX12_goesHome_0 4 rfl) rfl
theorem dX12_goesHome_5 : decode cX12_goesHome 5 = .ok (.aload_n 0, 1) := dq_42 (kX12_goesHome_0 5 rfl)
theorem dX12_goesHome_6 : decode cX12_goesHome 6 = .ok (.getfield 53, 3) := dq_180 (kX12_goesHome_0 6 rfl) (kX12_goesHome_0 7 rfl) (kX12_goesHome_0 8 rfl) rfl
theorem dX12_goesHome_9 : decode cX12_goesHome 9 = .ok (.iload_n 1, 1) := dq_27 (kX12_goesHome_0 9 rfl)
theorem dX12_goesHome_10 : decode cX12_goesHome 10 = .ok (.iaload, 1) := dq_46 (kX12_goesHome_0 10 rfl)
theorem dX12_goesHome_11 : decode cX12_goesHome 11 = .ok (.i2l, 1) := dq_133 (kX12_goesHome_0 11 rfl)
theorem dX12_goesHome_12 : decode cX12_goesHome 12 = .ok (.ladd, 1) := dq_97 (kX12_goesHome_0 12 rfl)
theorem dX12_goesHome_13 : decode cX12_goesHome 13 = .ok (.putfield 673, 3) := dq_181 (kX12_goesHome_0 13 rfl) (kX12_goesHome_0 14 rfl) (kX12_goesHome_0 15 rfl) rfl
theorem dX12_goesHome_16 : decode cX12_goesHome 16 = .ok (.aload_n 0, 1) := dq_42 (kX12_goesHome_0 16 rfl)
theorem dX12_goesHome_17 : decode cX12_goesHome 17 = .ok (.getfield 53, 3) := dq_180 (kX12_goesHome_0 17 rfl) (kX12_goesHome_0 18 rfl) (kX12_goesHome_0 19 rfl) rfl
theorem dX12_goesHome_20 : decode cX12_goesHome 20 = .ok (.iload_n 1, 1) := dq_27 (kX12_goesHome_0 20 rfl)
theorem dX12_goesHome_21 : decode cX12_goesHome 21 = .ok (.iconst 0, 1) := dq_3 (kX12_goesHome_0 21 rfl)
theorem dX12_goesHome_22 : decode cX12_goesHome 22 = .ok (.iastore, 1) := dq_79 (kX12_goesHome_0 22 rfl)
theorem dX12_goesHome_23 : decode cX12_goesHome 23 = .ok (.return_, 1) := dq_177 (kX12_goesHome_0 23 rfl)

def bX12_burns_0 : List UInt8 := [42, 180, 0, 53, 27, 46, 16, 9, 96, 16, 10, 108, 42, 42, 180, 1, 140, 182, 2, 70, 153, 0, 7, 5, 167, 0, 4, 4, 104, 61, 28, 42]
theorem kX12_burns_0 (j : Nat) {b : UInt8} (hj : bX12_burns_0[j]? = some b) : AtB cX12_burns (0 + j) b := at_of32 (by decide +kernel) j hj
def bX12_burns_1 : List UInt8 := [180, 0, 56, 27, 46, 162, 0, 7, 28, 167, 0, 9, 42, 180, 0, 56, 27, 46, 62, 42, 180, 0, 56, 27, 42, 180, 0, 56, 27, 46, 29, 100]
theorem kX12_burns_1 (j : Nat) {b : UInt8} (hj : bX12_burns_1[j]? = some b) : AtB cX12_burns (32 + j) b := at_of32 (by decide +kernel) j hj
def bX12_burns_2 : List UInt8 := [79, 42, 42, 180, 2, 142, 29, 133, 97, 181, 2, 142, 42, 180, 0, 62, 27, 29, 28, 162, 0, 14, 42, 180, 0, 62, 27, 46, 4, 96, 167, 0]
theorem kX12_burns_2 (j : Nat) {b : UInt8} (hj : bX12_burns_2[j]? = some b) : AtB cX12_burns (64 + j) b := at_of32 (by decide +kernel) j hj
def bX12_burns_3 : List UInt8 := [4, 3, 79, 42, 180, 0, 62, 27, 46, 16, 10, 160, 0, 8, 42, 27, 182, 2, 164, 42, 180, 0, 53, 27, 46, 16, 49, 96, 16, 50, 108, 54]
theorem kX12_burns_3 (j : Nat) {b : UInt8} (hj : bX12_burns_3[j]? = some b) : AtB cX12_burns (96 + j) b := at_of32 (by decide +kernel) j hj
def bX12_burns_4 : List UInt8 := [4, 42, 42, 180, 1, 140, 182, 2, 70, 153, 0, 7, 6, 167, 0, 4, 3, 54, 5, 42, 180, 0, 65, 7, 27, 104, 21, 5, 96, 42, 180, 0]
theorem kX12_burns_4 (j : Nat) {b : UInt8} (hj : bX12_burns_4[j]? = some b) : AtB cX12_burns (128 + j) b := at_of32 (by decide +kernel) j hj
def bX12_burns_5 : List UInt8 := [65, 7, 27, 104, 21, 5, 96, 46, 21, 4, 96, 79, 42, 42, 180, 2, 167, 21, 4, 133, 97, 181, 2, 167, 177]
theorem kX12_burns_5 (j : Nat) {b : UInt8} (hj : bX12_burns_5[j]? = some b) : AtB cX12_burns (160 + j) b := at_of32 (by decide +kernel) j hj
theorem dX12_burns_0 : decode cX12_burns 0 = .ok (.aload_n 0, 1) := dq_42 (kX12_burns_0 0 rfl)
theorem dX12_burns_1 : decode cX12_burns 1 = .ok (.getfield 53, 3) := dq_180 (kX12_burns_0 1 rfl) (kX12_burns_0 2 rfl) (kX12_burns_0 3 rfl) rfl
theorem dX12_burns_4 : decode cX12_burns 4 = .ok (.iload_n 1, 1) := dq_27 (kX12_burns_0 4 rfl)
theorem dX12_burns_5 : decode cX12_burns 5 = .ok (.iaload, 1) := dq_46 (kX12_burns_0 5 rfl)
theorem dX12_burns_6 : decode cX12_burns 6 = .ok (.bipush 9, 2) := dq_16 (kX12_burns_0 6 rfl) (kX12_burns_0 7 rfl) (by decide)
theorem dX12_burns_8 : decode cX12_burns 8 = .ok (.iadd, 1) := dq_96 (kX12_burns_0 8 rfl)
theorem dX12_burns_9 : decode cX12_burns 9 = .ok (.bipush 10, 2) := dq_16 (kX12_burns_0 9 rfl) (kX12_burns_0 10 rfl) (by decide)
theorem dX12_burns_11 : decode cX12_burns 11 = .ok (.idiv, 1) := dq_108 (kX12_burns_0 11 rfl)
theorem dX12_burns_12 : decode cX12_burns 12 = .ok (.aload_n 0, 1) := dq_42 (kX12_burns_0 12 rfl)
theorem dX12_burns_13 : decode cX12_burns 13 = .ok (.aload_n 0, 1) := dq_42 (kX12_burns_0 13 rfl)
theorem dX12_burns_14 : decode cX12_burns 14 = .ok (.getfield 396, 3) := dq_180 (kX12_burns_0 14 rfl) (kX12_burns_0 15 rfl) (kX12_burns_0 16 rfl) rfl
theorem dX12_burns_17 : decode cX12_burns 17 = .ok (.invokevirtual 582, 3) := dq_182 (kX12_burns_0 17 rfl) (kX12_burns_0 18 rfl) (kX12_burns_0 19 rfl) rfl
theorem dX12_burns_20 : decode cX12_burns 20 = .ok (.ifCond .eq 7, 3) := dq_153 (kX12_burns_0 20 rfl) (kX12_burns_0 21 rfl) (kX12_burns_0 22 rfl) (by decide)
theorem dX12_burns_23 : decode cX12_burns 23 = .ok (.iconst 2, 1) := dq_5 (kX12_burns_0 23 rfl)
theorem dX12_burns_24 : decode cX12_burns 24 = .ok (.goto 4, 3) := dq_167 (kX12_burns_0 24 rfl) (kX12_burns_0 25 rfl) (kX12_burns_0 26 rfl) (by decide)
theorem dX12_burns_27 : decode cX12_burns 27 = .ok (.iconst 1, 1) := dq_4 (kX12_burns_0 27 rfl)
theorem dX12_burns_28 : decode cX12_burns 28 = .ok (.imul, 1) := dq_104 (kX12_burns_0 28 rfl)
theorem dX12_burns_29 : decode cX12_burns 29 = .ok (.istore_n 2, 1) := dq_61 (kX12_burns_0 29 rfl)
theorem dX12_burns_30 : decode cX12_burns 30 = .ok (.iload_n 2, 1) := dq_28 (kX12_burns_0 30 rfl)
theorem dX12_burns_31 : decode cX12_burns 31 = .ok (.aload_n 0, 1) := dq_42 (kX12_burns_0 31 rfl)
theorem dX12_burns_32 : decode cX12_burns 32 = .ok (.getfield 56, 3) := dq_180 (kX12_burns_1 0 rfl) (kX12_burns_1 1 rfl) (kX12_burns_1 2 rfl) rfl
theorem dX12_burns_35 : decode cX12_burns 35 = .ok (.iload_n 1, 1) := dq_27 (kX12_burns_1 3 rfl)
theorem dX12_burns_36 : decode cX12_burns 36 = .ok (.iaload, 1) := dq_46 (kX12_burns_1 4 rfl)
theorem dX12_burns_37 : decode cX12_burns 37 = .ok (.if_icmp .ge 7, 3) := dq_162 (kX12_burns_1 5 rfl) (kX12_burns_1 6 rfl) (kX12_burns_1 7 rfl) (by decide)
theorem dX12_burns_40 : decode cX12_burns 40 = .ok (.iload_n 2, 1) := dq_28 (kX12_burns_1 8 rfl)
theorem dX12_burns_41 : decode cX12_burns 41 = .ok (.goto 9, 3) := dq_167 (kX12_burns_1 9 rfl) (kX12_burns_1 10 rfl) (kX12_burns_1 11 rfl) (by decide)
theorem dX12_burns_44 : decode cX12_burns 44 = .ok (.aload_n 0, 1) := dq_42 (kX12_burns_1 12 rfl)
theorem dX12_burns_45 : decode cX12_burns 45 = .ok (.getfield 56, 3) := dq_180 (kX12_burns_1 13 rfl) (kX12_burns_1 14 rfl) (kX12_burns_1 15 rfl) rfl
theorem dX12_burns_48 : decode cX12_burns 48 = .ok (.iload_n 1, 1) := dq_27 (kX12_burns_1 16 rfl)
theorem dX12_burns_49 : decode cX12_burns 49 = .ok (.iaload, 1) := dq_46 (kX12_burns_1 17 rfl)
theorem dX12_burns_50 : decode cX12_burns 50 = .ok (.istore_n 3, 1) := dq_62 (kX12_burns_1 18 rfl)
theorem dX12_burns_51 : decode cX12_burns 51 = .ok (.aload_n 0, 1) := dq_42 (kX12_burns_1 19 rfl)
theorem dX12_burns_52 : decode cX12_burns 52 = .ok (.getfield 56, 3) := dq_180 (kX12_burns_1 20 rfl) (kX12_burns_1 21 rfl) (kX12_burns_1 22 rfl) rfl
theorem dX12_burns_55 : decode cX12_burns 55 = .ok (.iload_n 1, 1) := dq_27 (kX12_burns_1 23 rfl)
theorem dX12_burns_56 : decode cX12_burns 56 = .ok (.aload_n 0, 1) := dq_42 (kX12_burns_1 24 rfl)
theorem dX12_burns_57 : decode cX12_burns 57 = .ok (.getfield 56, 3) := dq_180 (kX12_burns_1 25 rfl) (kX12_burns_1 26 rfl) (kX12_burns_1 27 rfl) rfl
theorem dX12_burns_60 : decode cX12_burns 60 = .ok (.iload_n 1, 1) := dq_27 (kX12_burns_1 28 rfl)
theorem dX12_burns_61 : decode cX12_burns 61 = .ok (.iaload, 1) := dq_46 (kX12_burns_1 29 rfl)
theorem dX12_burns_62 : decode cX12_burns 62 = .ok (.iload_n 3, 1) := dq_29 (kX12_burns_1 30 rfl)
theorem dX12_burns_63 : decode cX12_burns 63 = .ok (.isub, 1) := dq_100 (kX12_burns_1 31 rfl)
theorem dX12_burns_64 : decode cX12_burns 64 = .ok (.iastore, 1) := dq_79 (kX12_burns_2 0 rfl)
theorem dX12_burns_65 : decode cX12_burns 65 = .ok (.aload_n 0, 1) := dq_42 (kX12_burns_2 1 rfl)
theorem dX12_burns_66 : decode cX12_burns 66 = .ok (.aload_n 0, 1) := dq_42 (kX12_burns_2 2 rfl)
theorem dX12_burns_67 : decode cX12_burns 67 = .ok (.getfield 654, 3) := dq_180 (kX12_burns_2 3 rfl) (kX12_burns_2 4 rfl) (kX12_burns_2 5 rfl) rfl
theorem dX12_burns_70 : decode cX12_burns 70 = .ok (.iload_n 3, 1) := dq_29 (kX12_burns_2 6 rfl)
theorem dX12_burns_71 : decode cX12_burns 71 = .ok (.i2l, 1) := dq_133 (kX12_burns_2 7 rfl)
theorem dX12_burns_72 : decode cX12_burns 72 = .ok (.ladd, 1) := dq_97 (kX12_burns_2 8 rfl)
theorem dX12_burns_73 : decode cX12_burns 73 = .ok (.putfield 654, 3) := dq_181 (kX12_burns_2 9 rfl) (kX12_burns_2 10 rfl) (kX12_burns_2 11 rfl) rfl
theorem dX12_burns_76 : decode cX12_burns 76 = .ok (.aload_n 0, 1) := dq_42 (kX12_burns_2 12 rfl)
theorem dX12_burns_77 : decode cX12_burns 77 = .ok (.getfield 62, 3) := dq_180 (kX12_burns_2 13 rfl) (kX12_burns_2 14 rfl) (kX12_burns_2 15 rfl) rfl
theorem dX12_burns_80 : decode cX12_burns 80 = .ok (.iload_n 1, 1) := dq_27 (kX12_burns_2 16 rfl)
theorem dX12_burns_81 : decode cX12_burns 81 = .ok (.iload_n 3, 1) := dq_29 (kX12_burns_2 17 rfl)
theorem dX12_burns_82 : decode cX12_burns 82 = .ok (.iload_n 2, 1) := dq_28 (kX12_burns_2 18 rfl)
theorem dX12_burns_83 : decode cX12_burns 83 = .ok (.if_icmp .ge 14, 3) := dq_162 (kX12_burns_2 19 rfl) (kX12_burns_2 20 rfl) (kX12_burns_2 21 rfl) (by decide)
theorem dX12_burns_86 : decode cX12_burns 86 = .ok (.aload_n 0, 1) := dq_42 (kX12_burns_2 22 rfl)
theorem dX12_burns_87 : decode cX12_burns 87 = .ok (.getfield 62, 3) := dq_180 (kX12_burns_2 23 rfl) (kX12_burns_2 24 rfl) (kX12_burns_2 25 rfl) rfl
theorem dX12_burns_90 : decode cX12_burns 90 = .ok (.iload_n 1, 1) := dq_27 (kX12_burns_2 26 rfl)
theorem dX12_burns_91 : decode cX12_burns 91 = .ok (.iaload, 1) := dq_46 (kX12_burns_2 27 rfl)
theorem dX12_burns_92 : decode cX12_burns 92 = .ok (.iconst 1, 1) := dq_4 (kX12_burns_2 28 rfl)
theorem dX12_burns_93 : decode cX12_burns 93 = .ok (.iadd, 1) := dq_96 (kX12_burns_2 29 rfl)
theorem dX12_burns_94 : decode cX12_burns 94 = .ok (.goto 4, 3) := dq_167 (kX12_burns_2 30 rfl) (kX12_burns_2 31 rfl) (kX12_burns_3 0 rfl) (by decide)
theorem dX12_burns_97 : decode cX12_burns 97 = .ok (.iconst 0, 1) := dq_3 (kX12_burns_3 1 rfl)
theorem dX12_burns_98 : decode cX12_burns 98 = .ok (.iastore, 1) := dq_79 (kX12_burns_3 2 rfl)
theorem dX12_burns_99 : decode cX12_burns 99 = .ok (.aload_n 0, 1) := dq_42 (kX12_burns_3 3 rfl)
theorem dX12_burns_100 : decode cX12_burns 100 = .ok (.getfield 62, 3) := dq_180 (kX12_burns_3 4 rfl) (kX12_burns_3 5 rfl) (kX12_burns_3 6 rfl) rfl
theorem dX12_burns_103 : decode cX12_burns 103 = .ok (.iload_n 1, 1) := dq_27 (kX12_burns_3 7 rfl)
theorem dX12_burns_104 : decode cX12_burns 104 = .ok (.iaload, 1) := dq_46 (kX12_burns_3 8 rfl)
theorem dX12_burns_105 : decode cX12_burns 105 = .ok (.bipush 10, 2) := dq_16 (kX12_burns_3 9 rfl) (kX12_burns_3 10 rfl) (by decide)
theorem dX12_burns_107 : decode cX12_burns 107 = .ok (.if_icmp .ne 8, 3) := dq_160 (kX12_burns_3 11 rfl) (kX12_burns_3 12 rfl) (kX12_burns_3 13 rfl) (by decide)
theorem dX12_burns_110 : decode cX12_burns 110 = .ok (.aload_n 0, 1) := dq_42 (kX12_burns_3 14 rfl)
theorem dX12_burns_111 : decode cX12_burns 111 = .ok (.iload_n 1, 1) := dq_27 (kX12_burns_3 15 rfl)
theorem dX12_burns_112 : decode cX12_burns 112 = .ok (.invokevirtual 676, 3) := dq_182 (kX12_burns_3 16 rfl) (kX12_burns_3 17 rfl) (kX12_burns_3 18 rfl) rfl
theorem dX12_burns_115 : decode cX12_burns 115 = .ok (.aload_n 0, 1) := dq_42 (kX12_burns_3 19 rfl)
theorem dX12_burns_116 : decode cX12_burns 116 = .ok (.getfield 53, 3) := dq_180 (kX12_burns_3 20 rfl) (kX12_burns_3 21 rfl) (kX12_burns_3 22 rfl) rfl
theorem dX12_burns_119 : decode cX12_burns 119 = .ok (.iload_n 1, 1) := dq_27 (kX12_burns_3 23 rfl)
theorem dX12_burns_120 : decode cX12_burns 120 = .ok (.iaload, 1) := dq_46 (kX12_burns_3 24 rfl)
theorem dX12_burns_121 : decode cX12_burns 121 = .ok (.bipush 49, 2) := dq_16 (kX12_burns_3 25 rfl) (kX12_burns_3 26 rfl) (by decide)
theorem dX12_burns_123 : decode cX12_burns 123 = .ok (.iadd, 1) := dq_96 (kX12_burns_3 27 rfl)
theorem dX12_burns_124 : decode cX12_burns 124 = .ok (.bipush 50, 2) := dq_16 (kX12_burns_3 28 rfl) (kX12_burns_3 29 rfl) (by decide)
theorem dX12_burns_126 : decode cX12_burns 126 = .ok (.idiv, 1) := dq_108 (kX12_burns_3 30 rfl)
theorem dX12_burns_127 : decode cX12_burns 127 = .ok (.istore 4, 2) := dq_54 (kX12_burns_3 31 rfl) (kX12_burns_4 0 rfl) rfl
theorem dX12_burns_129 : decode cX12_burns 129 = .ok (.aload_n 0, 1) := dq_42 (kX12_burns_4 1 rfl)
theorem dX12_burns_130 : decode cX12_burns 130 = .ok (.aload_n 0, 1) := dq_42 (kX12_burns_4 2 rfl)
theorem dX12_burns_131 : decode cX12_burns 131 = .ok (.getfield 396, 3) := dq_180 (kX12_burns_4 3 rfl) (kX12_burns_4 4 rfl) (kX12_burns_4 5 rfl) rfl
theorem dX12_burns_134 : decode cX12_burns 134 = .ok (.invokevirtual 582, 3) := dq_182 (kX12_burns_4 6 rfl) (kX12_burns_4 7 rfl) (kX12_burns_4 8 rfl) rfl
theorem dX12_burns_137 : decode cX12_burns 137 = .ok (.ifCond .eq 7, 3) := dq_153 (kX12_burns_4 9 rfl) (kX12_burns_4 10 rfl) (kX12_burns_4 11 rfl) (by decide)
theorem dX12_burns_140 : decode cX12_burns 140 = .ok (.iconst 3, 1) := dq_6 (kX12_burns_4 12 rfl)
theorem dX12_burns_141 : decode cX12_burns 141 = .ok (.goto 4, 3) := dq_167 (kX12_burns_4 13 rfl) (kX12_burns_4 14 rfl) (kX12_burns_4 15 rfl) (by decide)
theorem dX12_burns_144 : decode cX12_burns 144 = .ok (.iconst 0, 1) := dq_3 (kX12_burns_4 16 rfl)
theorem dX12_burns_145 : decode cX12_burns 145 = .ok (.istore 5, 2) := dq_54 (kX12_burns_4 17 rfl) (kX12_burns_4 18 rfl) rfl
theorem dX12_burns_147 : decode cX12_burns 147 = .ok (.aload_n 0, 1) := dq_42 (kX12_burns_4 19 rfl)
theorem dX12_burns_148 : decode cX12_burns 148 = .ok (.getfield 65, 3) := dq_180 (kX12_burns_4 20 rfl) (kX12_burns_4 21 rfl) (kX12_burns_4 22 rfl) rfl
theorem dX12_burns_151 : decode cX12_burns 151 = .ok (.iconst 4, 1) := dq_7 (kX12_burns_4 23 rfl)
theorem dX12_burns_152 : decode cX12_burns 152 = .ok (.iload_n 1, 1) := dq_27 (kX12_burns_4 24 rfl)
theorem dX12_burns_153 : decode cX12_burns 153 = .ok (.imul, 1) := dq_104 (kX12_burns_4 25 rfl)
theorem dX12_burns_154 : decode cX12_burns 154 = .ok (.iload 5, 2) := dq_21 (kX12_burns_4 26 rfl) (kX12_burns_4 27 rfl) rfl
theorem dX12_burns_156 : decode cX12_burns 156 = .ok (.iadd, 1) := dq_96 (kX12_burns_4 28 rfl)
theorem dX12_burns_157 : decode cX12_burns 157 = .ok (.aload_n 0, 1) := dq_42 (kX12_burns_4 29 rfl)
theorem dX12_burns_158 : decode cX12_burns 158 = .ok (.getfield 65, 3) := dq_180 (kX12_burns_4 30 rfl) (kX12_burns_4 31 rfl) (kX12_burns_5 0 rfl) rfl
theorem dX12_burns_161 : decode cX12_burns 161 = .ok (.iconst 4, 1) := dq_7 (kX12_burns_5 1 rfl)
theorem dX12_burns_162 : decode cX12_burns 162 = .ok (.iload_n 1, 1) := dq_27 (kX12_burns_5 2 rfl)
theorem dX12_burns_163 : decode cX12_burns 163 = .ok (.imul, 1) := dq_104 (kX12_burns_5 3 rfl)
theorem dX12_burns_164 : decode cX12_burns 164 = .ok (.iload 5, 2) := dq_21 (kX12_burns_5 4 rfl) (kX12_burns_5 5 rfl) rfl
theorem dX12_burns_166 : decode cX12_burns 166 = .ok (.iadd, 1) := dq_96 (kX12_burns_5 6 rfl)
theorem dX12_burns_167 : decode cX12_burns 167 = .ok (.iaload, 1) := dq_46 (kX12_burns_5 7 rfl)
theorem dX12_burns_168 : decode cX12_burns 168 = .ok (.iload 4, 2) := dq_21 (kX12_burns_5 8 rfl) (kX12_burns_5 9 rfl) rfl
theorem dX12_burns_170 : decode cX12_burns 170 = .ok (.iadd, 1) := dq_96 (kX12_burns_5 10 rfl)
theorem dX12_burns_171 : decode cX12_burns 171 = .ok (.iastore, 1) := dq_79 (kX12_burns_5 11 rfl)
theorem dX12_burns_172 : decode cX12_burns 172 = .ok (.aload_n 0, 1) := dq_42 (kX12_burns_5 12 rfl)
theorem dX12_burns_173 : decode cX12_burns 173 = .ok (.aload_n 0, 1) := dq_42 (kX12_burns_5 13 rfl)
theorem dX12_burns_174 : decode cX12_burns 174 = .ok (.getfield 679, 3) := dq_180 (kX12_burns_5 14 rfl) (kX12_burns_5 15 rfl) (kX12_burns_5 16 rfl) rfl
theorem dX12_burns_177 : decode cX12_burns 177 = .ok (.iload 4, 2) := dq_21 (kX12_burns_5 17 rfl) (kX12_burns_5 18 rfl) rfl
theorem dX12_burns_179 : decode cX12_burns 179 = .ok (.i2l, 1) := dq_133 (kX12_burns_5 19 rfl)
theorem dX12_burns_180 : decode cX12_burns 180 = .ok (.ladd, 1) := dq_97 (kX12_burns_5 20 rfl)
theorem dX12_burns_181 : decode cX12_burns 181 = .ok (.putfield 679, 3) := dq_181 (kX12_burns_5 21 rfl) (kX12_burns_5 22 rfl) (kX12_burns_5 23 rfl) rfl
theorem dX12_burns_184 : decode cX12_burns 184 = .ok (.return_, 1) := dq_177 (kX12_burns_5 24 rfl)

def bX12_loses_0 : List UInt8 := [42, 180, 0, 80, 27, 4, 84, 42, 42, 180, 2, 145, 42, 180, 0, 56, 27, 46, 133, 97, 42, 180, 0, 59, 27, 46, 133, 97, 181, 2, 145, 42]
theorem kX12_loses_0 (j : Nat) {b : UInt8} (hj : bX12_loses_0[j]? = some b) : AtB cX12_loses (0 + j) b := at_of32 (by decide +kernel) j hj
def bX12_loses_1 : List UInt8 := [180, 0, 56, 27, 3, 79, 42, 180, 0, 59, 27, 3, 79, 3, 61, 28, 7, 162, 0, 40, 42, 42, 180, 2, 170, 42, 180, 0, 65, 7, 27, 104]
theorem kX12_loses_1 (j : Nat) {b : UInt8} (hj : bX12_loses_1[j]? = some b) : AtB cX12_loses (32 + j) b := at_of32 (by decide +kernel) j hj
def bX12_loses_2 : List UInt8 := [28, 96, 46, 133, 97, 181, 2, 170, 42, 180, 0, 65, 7, 27, 104, 28, 96, 3, 79, 132, 2, 1, 167, 255, 217, 42, 27, 182, 2, 164, 3, 61]
theorem kX12_loses_2 (j : Nat) {b : UInt8} (hj : bX12_loses_2[j]? = some b) : AtB cX12_loses (64 + j) b := at_of32 (by decide +kernel) j hj
def bX12_loses_3 : List UInt8 := [28, 42, 180, 1, 119, 162, 0, 36, 42, 180, 0, 35, 28, 46, 5, 160, 0, 20, 42, 180, 0, 47, 28, 46, 27, 160, 0, 10, 42, 180, 0, 80]
theorem kX12_loses_3 (j : Nat) {b : UInt8} (hj : bX12_loses_3[j]? = some b) : AtB cX12_loses (96 + j) b := at_of32 (by decide +kernel) j hj
def bX12_loses_4 : List UInt8 := [28, 4, 84, 132, 2, 1, 167, 255, 218, 177]
theorem kX12_loses_4 (j : Nat) {b : UInt8} (hj : bX12_loses_4[j]? = some b) : AtB cX12_loses (128 + j) b := at_of32 (by decide +kernel) j hj
theorem dX12_loses_0 : decode cX12_loses 0 = .ok (.aload_n 0, 1) := dq_42 (kX12_loses_0 0 rfl)
theorem dX12_loses_1 : decode cX12_loses 1 = .ok (.getfield 80, 3) := dq_180 (kX12_loses_0 1 rfl) (kX12_loses_0 2 rfl) (kX12_loses_0 3 rfl) rfl
theorem dX12_loses_4 : decode cX12_loses 4 = .ok (.iload_n 1, 1) := dq_27 (kX12_loses_0 4 rfl)
theorem dX12_loses_5 : decode cX12_loses 5 = .ok (.iconst 1, 1) := dq_4 (kX12_loses_0 5 rfl)
theorem dX12_loses_6 : decode cX12_loses 6 = .ok (.bastore, 1) := dq_84 (kX12_loses_0 6 rfl)
theorem dX12_loses_7 : decode cX12_loses 7 = .ok (.aload_n 0, 1) := dq_42 (kX12_loses_0 7 rfl)
theorem dX12_loses_8 : decode cX12_loses 8 = .ok (.aload_n 0, 1) := dq_42 (kX12_loses_0 8 rfl)
theorem dX12_loses_9 : decode cX12_loses 9 = .ok (.getfield 657, 3) := dq_180 (kX12_loses_0 9 rfl) (kX12_loses_0 10 rfl) (kX12_loses_0 11 rfl) rfl
theorem dX12_loses_12 : decode cX12_loses 12 = .ok (.aload_n 0, 1) := dq_42 (kX12_loses_0 12 rfl)
theorem dX12_loses_13 : decode cX12_loses 13 = .ok (.getfield 56, 3) := dq_180 (kX12_loses_0 13 rfl) (kX12_loses_0 14 rfl) (kX12_loses_0 15 rfl) rfl
theorem dX12_loses_16 : decode cX12_loses 16 = .ok (.iload_n 1, 1) := dq_27 (kX12_loses_0 16 rfl)
theorem dX12_loses_17 : decode cX12_loses 17 = .ok (.iaload, 1) := dq_46 (kX12_loses_0 17 rfl)
theorem dX12_loses_18 : decode cX12_loses 18 = .ok (.i2l, 1) := dq_133 (kX12_loses_0 18 rfl)
theorem dX12_loses_19 : decode cX12_loses 19 = .ok (.ladd, 1) := dq_97 (kX12_loses_0 19 rfl)
theorem dX12_loses_20 : decode cX12_loses 20 = .ok (.aload_n 0, 1) := dq_42 (kX12_loses_0 20 rfl)
theorem dX12_loses_21 : decode cX12_loses 21 = .ok (.getfield 59, 3) := dq_180 (kX12_loses_0 21 rfl) (kX12_loses_0 22 rfl) (kX12_loses_0 23 rfl) rfl
theorem dX12_loses_24 : decode cX12_loses 24 = .ok (.iload_n 1, 1) := dq_27 (kX12_loses_0 24 rfl)
theorem dX12_loses_25 : decode cX12_loses 25 = .ok (.iaload, 1) := dq_46 (kX12_loses_0 25 rfl)
theorem dX12_loses_26 : decode cX12_loses 26 = .ok (.i2l, 1) := dq_133 (kX12_loses_0 26 rfl)
theorem dX12_loses_27 : decode cX12_loses 27 = .ok (.ladd, 1) := dq_97 (kX12_loses_0 27 rfl)
theorem dX12_loses_28 : decode cX12_loses 28 = .ok (.putfield 657, 3) := dq_181 (kX12_loses_0 28 rfl) (kX12_loses_0 29 rfl) (kX12_loses_0 30 rfl) rfl
theorem dX12_loses_31 : decode cX12_loses 31 = .ok (.aload_n 0, 1) := dq_42 (kX12_loses_0 31 rfl)
theorem dX12_loses_32 : decode cX12_loses 32 = .ok (.getfield 56, 3) := dq_180 (kX12_loses_1 0 rfl) (kX12_loses_1 1 rfl) (kX12_loses_1 2 rfl) rfl
theorem dX12_loses_35 : decode cX12_loses 35 = .ok (.iload_n 1, 1) := dq_27 (kX12_loses_1 3 rfl)
theorem dX12_loses_36 : decode cX12_loses 36 = .ok (.iconst 0, 1) := dq_3 (kX12_loses_1 4 rfl)
theorem dX12_loses_37 : decode cX12_loses 37 = .ok (.iastore, 1) := dq_79 (kX12_loses_1 5 rfl)
theorem dX12_loses_38 : decode cX12_loses 38 = .ok (.aload_n 0, 1) := dq_42 (kX12_loses_1 6 rfl)
theorem dX12_loses_39 : decode cX12_loses 39 = .ok (.getfield 59, 3) := dq_180 (kX12_loses_1 7 rfl) (kX12_loses_1 8 rfl) (kX12_loses_1 9 rfl) rfl
theorem dX12_loses_42 : decode cX12_loses 42 = .ok (.iload_n 1, 1) := dq_27 (kX12_loses_1 10 rfl)
theorem dX12_loses_43 : decode cX12_loses 43 = .ok (.iconst 0, 1) := dq_3 (kX12_loses_1 11 rfl)
theorem dX12_loses_44 : decode cX12_loses 44 = .ok (.iastore, 1) := dq_79 (kX12_loses_1 12 rfl)
theorem dX12_loses_45 : decode cX12_loses 45 = .ok (.iconst 0, 1) := dq_3 (kX12_loses_1 13 rfl)
theorem dX12_loses_46 : decode cX12_loses 46 = .ok (.istore_n 2, 1) := dq_61 (kX12_loses_1 14 rfl)
theorem dX12_loses_47 : decode cX12_loses 47 = .ok (.iload_n 2, 1) := dq_28 (kX12_loses_1 15 rfl)
theorem dX12_loses_48 : decode cX12_loses 48 = .ok (.iconst 4, 1) := dq_7 (kX12_loses_1 16 rfl)
theorem dX12_loses_49 : decode cX12_loses 49 = .ok (.if_icmp .ge 40, 3) := dq_162 (kX12_loses_1 17 rfl) (kX12_loses_1 18 rfl) (kX12_loses_1 19 rfl) (by decide)
theorem dX12_loses_52 : decode cX12_loses 52 = .ok (.aload_n 0, 1) := dq_42 (kX12_loses_1 20 rfl)
theorem dX12_loses_53 : decode cX12_loses 53 = .ok (.aload_n 0, 1) := dq_42 (kX12_loses_1 21 rfl)
theorem dX12_loses_54 : decode cX12_loses 54 = .ok (.getfield 682, 3) := dq_180 (kX12_loses_1 22 rfl) (kX12_loses_1 23 rfl) (kX12_loses_1 24 rfl) rfl
theorem dX12_loses_57 : decode cX12_loses 57 = .ok (.aload_n 0, 1) := dq_42 (kX12_loses_1 25 rfl)
theorem dX12_loses_58 : decode cX12_loses 58 = .ok (.getfield 65, 3) := dq_180 (kX12_loses_1 26 rfl) (kX12_loses_1 27 rfl) (kX12_loses_1 28 rfl) rfl
theorem dX12_loses_61 : decode cX12_loses 61 = .ok (.iconst 4, 1) := dq_7 (kX12_loses_1 29 rfl)
theorem dX12_loses_62 : decode cX12_loses 62 = .ok (.iload_n 1, 1) := dq_27 (kX12_loses_1 30 rfl)
theorem dX12_loses_63 : decode cX12_loses 63 = .ok (.imul, 1) := dq_104 (kX12_loses_1 31 rfl)
theorem dX12_loses_64 : decode cX12_loses 64 = .ok (.iload_n 2, 1) := dq_28 (kX12_loses_2 0 rfl)
theorem dX12_loses_65 : decode cX12_loses 65 = .ok (.iadd, 1) := dq_96 (kX12_loses_2 1 rfl)
theorem dX12_loses_66 : decode cX12_loses 66 = .ok (.iaload, 1) := dq_46 (kX12_loses_2 2 rfl)
theorem dX12_loses_67 : decode cX12_loses 67 = .ok (.i2l, 1) := dq_133 (kX12_loses_2 3 rfl)
theorem dX12_loses_68 : decode cX12_loses 68 = .ok (.ladd, 1) := dq_97 (kX12_loses_2 4 rfl)
theorem dX12_loses_69 : decode cX12_loses 69 = .ok (.putfield 682, 3) := dq_181 (kX12_loses_2 5 rfl) (kX12_loses_2 6 rfl) (kX12_loses_2 7 rfl) rfl
theorem dX12_loses_72 : decode cX12_loses 72 = .ok (.aload_n 0, 1) := dq_42 (kX12_loses_2 8 rfl)
theorem dX12_loses_73 : decode cX12_loses 73 = .ok (.getfield 65, 3) := dq_180 (kX12_loses_2 9 rfl) (kX12_loses_2 10 rfl) (kX12_loses_2 11 rfl) rfl
theorem dX12_loses_76 : decode cX12_loses 76 = .ok (.iconst 4, 1) := dq_7 (kX12_loses_2 12 rfl)
theorem dX12_loses_77 : decode cX12_loses 77 = .ok (.iload_n 1, 1) := dq_27 (kX12_loses_2 13 rfl)
theorem dX12_loses_78 : decode cX12_loses 78 = .ok (.imul, 1) := dq_104 (kX12_loses_2 14 rfl)
theorem dX12_loses_79 : decode cX12_loses 79 = .ok (.iload_n 2, 1) := dq_28 (kX12_loses_2 15 rfl)
theorem dX12_loses_80 : decode cX12_loses 80 = .ok (.iadd, 1) := dq_96 (kX12_loses_2 16 rfl)
theorem dX12_loses_81 : decode cX12_loses 81 = .ok (.iconst 0, 1) := dq_3 (kX12_loses_2 17 rfl)
theorem dX12_loses_82 : decode cX12_loses 82 = .ok (.iastore, 1) := dq_79 (kX12_loses_2 18 rfl)
theorem dX12_loses_83 : decode cX12_loses 83 = .ok (.iinc 2 1, 3) := dq_132 (kX12_loses_2 19 rfl) (kX12_loses_2 20 rfl) (kX12_loses_2 21 rfl) rfl (by decide)
theorem dX12_loses_86 : decode cX12_loses 86 = .ok (.goto (-39), 3) := dq_167 (kX12_loses_2 22 rfl) (kX12_loses_2 23 rfl) (kX12_loses_2 24 rfl) (by decide)
theorem dX12_loses_89 : decode cX12_loses 89 = .ok (.aload_n 0, 1) := dq_42 (kX12_loses_2 25 rfl)
theorem dX12_loses_90 : decode cX12_loses 90 = .ok (.iload_n 1, 1) := dq_27 (kX12_loses_2 26 rfl)
theorem dX12_loses_91 : decode cX12_loses 91 = .ok (.invokevirtual 676, 3) := dq_182 (kX12_loses_2 27 rfl) (kX12_loses_2 28 rfl) (kX12_loses_2 29 rfl) rfl
theorem dX12_loses_94 : decode cX12_loses 94 = .ok (.iconst 0, 1) := dq_3 (kX12_loses_2 30 rfl)
theorem dX12_loses_95 : decode cX12_loses 95 = .ok (.istore_n 2, 1) := dq_61 (kX12_loses_2 31 rfl)
theorem dX12_loses_96 : decode cX12_loses 96 = .ok (.iload_n 2, 1) := dq_28 (kX12_loses_3 0 rfl)
theorem dX12_loses_97 : decode cX12_loses 97 = .ok (.aload_n 0, 1) := dq_42 (kX12_loses_3 1 rfl)
theorem dX12_loses_98 : decode cX12_loses 98 = .ok (.getfield 375, 3) := dq_180 (kX12_loses_3 2 rfl) (kX12_loses_3 3 rfl) (kX12_loses_3 4 rfl) rfl
theorem dX12_loses_101 : decode cX12_loses 101 = .ok (.if_icmp .ge 36, 3) := dq_162 (kX12_loses_3 5 rfl) (kX12_loses_3 6 rfl) (kX12_loses_3 7 rfl) (by decide)
theorem dX12_loses_104 : decode cX12_loses 104 = .ok (.aload_n 0, 1) := dq_42 (kX12_loses_3 8 rfl)
theorem dX12_loses_105 : decode cX12_loses 105 = .ok (.getfield 35, 3) := dq_180 (kX12_loses_3 9 rfl) (kX12_loses_3 10 rfl) (kX12_loses_3 11 rfl) rfl
theorem dX12_loses_108 : decode cX12_loses 108 = .ok (.iload_n 2, 1) := dq_28 (kX12_loses_3 12 rfl)
theorem dX12_loses_109 : decode cX12_loses 109 = .ok (.iaload, 1) := dq_46 (kX12_loses_3 13 rfl)
theorem dX12_loses_110 : decode cX12_loses 110 = .ok (.iconst 2, 1) := dq_5 (kX12_loses_3 14 rfl)
theorem dX12_loses_111 : decode cX12_loses 111 = .ok (.if_icmp .ne 20, 3) := dq_160 (kX12_loses_3 15 rfl) (kX12_loses_3 16 rfl) (kX12_loses_3 17 rfl) (by decide)
theorem dX12_loses_114 : decode cX12_loses 114 = .ok (.aload_n 0, 1) := dq_42 (kX12_loses_3 18 rfl)
theorem dX12_loses_115 : decode cX12_loses 115 = .ok (.getfield 47, 3) := dq_180 (kX12_loses_3 19 rfl) (kX12_loses_3 20 rfl) (kX12_loses_3 21 rfl) rfl
theorem dX12_loses_118 : decode cX12_loses 118 = .ok (.iload_n 2, 1) := dq_28 (kX12_loses_3 22 rfl)
theorem dX12_loses_119 : decode cX12_loses 119 = .ok (.iaload, 1) := dq_46 (kX12_loses_3 23 rfl)
theorem dX12_loses_120 : decode cX12_loses 120 = .ok (.iload_n 1, 1) := dq_27 (kX12_loses_3 24 rfl)
theorem dX12_loses_121 : decode cX12_loses 121 = .ok (.if_icmp .ne 10, 3) := dq_160 (kX12_loses_3 25 rfl) (kX12_loses_3 26 rfl) (kX12_loses_3 27 rfl) (by decide)
theorem dX12_loses_124 : decode cX12_loses 124 = .ok (.aload_n 0, 1) := dq_42 (kX12_loses_3 28 rfl)
theorem dX12_loses_125 : decode cX12_loses 125 = .ok (.getfield 80, 3) := dq_180 (kX12_loses_3 29 rfl) (kX12_loses_3 30 rfl) (kX12_loses_3 31 rfl) rfl
theorem dX12_loses_128 : decode cX12_loses 128 = .ok (.iload_n 2, 1) := dq_28 (kX12_loses_4 0 rfl)
theorem dX12_loses_129 : decode cX12_loses 129 = .ok (.iconst 1, 1) := dq_4 (kX12_loses_4 1 rfl)
theorem dX12_loses_130 : decode cX12_loses 130 = .ok (.bastore, 1) := dq_84 (kX12_loses_4 2 rfl)
theorem dX12_loses_131 : decode cX12_loses 131 = .ok (.iinc 2 1, 3) := dq_132 (kX12_loses_4 3 rfl) (kX12_loses_4 4 rfl) (kX12_loses_4 5 rfl) rfl (by decide)
theorem dX12_loses_134 : decode cX12_loses 134 = .ok (.goto (-38), 3) := dq_167 (kX12_loses_4 6 rfl) (kX12_loses_4 7 rfl) (kX12_loses_4 8 rfl) (by decide)
theorem dX12_loses_137 : decode cX12_loses 137 = .ok (.return_, 1) := dq_177 (kX12_loses_4 9 rfl)

def bX12_flows_0 : List UInt8 := [42, 180, 0, 41, 27, 46, 61, 42, 180, 0, 20, 28, 46, 154, 0, 33, 42, 180, 0, 23, 28, 46, 2, 159, 0, 23, 42, 180, 1, 140, 42, 180]
theorem kX12_flows_0 (j : Nat) {b : UInt8} (hj : bX12_flows_0[j]? = some b) : AtB cX12_flows (0 + j) b := at_of32 (by decide +kernel) j hj
def bX12_flows_1 : List UInt8 := [0, 50, 27, 46, 100, 42, 180, 0, 26, 28, 46, 162, 0, 4, 177, 42, 180, 0, 23, 28, 46, 184, 2, 127, 62, 42, 180, 0, 23, 28, 46, 184]
theorem kX12_flows_1 (j : Nat) {b : UInt8} (hj : bX12_flows_1[j]? = some b) : AtB cX12_flows (32 + j) b := at_of32 (by decide +kernel) j hj
def bX12_flows_2 : List UInt8 := [2, 130, 54, 4, 42, 28, 29, 21, 4, 182, 2, 133, 54, 5, 21, 5, 2, 160, 0, 9, 42, 27, 182, 2, 173, 177, 42, 180, 0, 41, 27, 21]
theorem kX12_flows_2 (j : Nat) {b : UInt8} (hj : bX12_flows_2[j]? = some b) : AtB cX12_flows (64 + j) b := at_of32 (by decide +kernel) j hj
def bX12_flows_3 : List UInt8 := [5, 79, 42, 180, 0, 50, 27, 42, 180, 1, 140, 79, 3, 54, 6, 21, 6, 42, 180, 1, 119, 162, 0, 112, 42, 180, 0, 35, 21, 6, 46, 5]
theorem kX12_flows_3 (j : Nat) {b : UInt8} (hj : bX12_flows_3[j]? = some b) : AtB cX12_flows (96 + j) b := at_of32 (by decide +kernel) j hj
def bX12_flows_4 : List UInt8 := [160, 0, 95, 42, 180, 0, 47, 21, 6, 46, 27, 160, 0, 84, 42, 180, 0, 80, 21, 6, 51, 153, 0, 6, 167, 0, 71, 42, 42, 180, 0, 41]
theorem kX12_flows_4 (j : Nat) {b : UInt8} (hj : bX12_flows_4[j]? = some b) : AtB cX12_flows (128 + j) b := at_of32 (by decide +kernel) j hj
def bX12_flows_5 : List UInt8 := [21, 6, 46, 29, 21, 4, 182, 2, 133, 54, 7, 42, 180, 0, 80, 21, 6, 21, 7, 2, 159, 0, 12, 42, 21, 7, 182, 1, 169, 154, 0, 7]
theorem kX12_flows_5 (j : Nat) {b : UInt8} (hj : bX12_flows_5[j]? = some b) : AtB cX12_flows (160 + j) b := at_of32 (by decide +kernel) j hj
def bX12_flows_6 : List UInt8 := [4, 167, 0, 4, 3, 84, 42, 180, 0, 41, 21, 6, 21, 7, 2, 160, 0, 13, 42, 180, 0, 41, 21, 6, 46, 167, 0, 5, 21, 7, 79, 132]
theorem kX12_flows_6 (j : Nat) {b : UInt8} (hj : bX12_flows_6[j]? = some b) : AtB cX12_flows (192 + j) b := at_of32 (by decide +kernel) j hj
def bX12_flows_7 : List UInt8 := [6, 1, 167, 255, 141, 42, 21, 5, 182, 1, 169, 154, 0, 8, 42, 27, 182, 2, 173, 177]
theorem kX12_flows_7 (j : Nat) {b : UInt8} (hj : bX12_flows_7[j]? = some b) : AtB cX12_flows (224 + j) b := at_of32 (by decide +kernel) j hj
theorem dX12_flows_0 : decode cX12_flows 0 = .ok (.aload_n 0, 1) := dq_42 (kX12_flows_0 0 rfl)
theorem dX12_flows_1 : decode cX12_flows 1 = .ok (.getfield 41, 3) := dq_180 (kX12_flows_0 1 rfl) (kX12_flows_0 2 rfl) (kX12_flows_0 3 rfl) rfl
theorem dX12_flows_4 : decode cX12_flows 4 = .ok (.iload_n 1, 1) := dq_27 (kX12_flows_0 4 rfl)
theorem dX12_flows_5 : decode cX12_flows 5 = .ok (.iaload, 1) := dq_46 (kX12_flows_0 5 rfl)
theorem dX12_flows_6 : decode cX12_flows 6 = .ok (.istore_n 2, 1) := dq_61 (kX12_flows_0 6 rfl)
theorem dX12_flows_7 : decode cX12_flows 7 = .ok (.aload_n 0, 1) := dq_42 (kX12_flows_0 7 rfl)
theorem dX12_flows_8 : decode cX12_flows 8 = .ok (.getfield 20, 3) := dq_180 (kX12_flows_0 8 rfl) (kX12_flows_0 9 rfl) (kX12_flows_0 10 rfl) rfl
theorem dX12_flows_11 : decode cX12_flows 11 = .ok (.iload_n 2, 1) := dq_28 (kX12_flows_0 11 rfl)
theorem dX12_flows_12 : decode cX12_flows 12 = .ok (.iaload, 1) := dq_46 (kX12_flows_0 12 rfl)
theorem dX12_flows_13 : decode cX12_flows 13 = .ok (.ifCond .ne 33, 3) := dq_154 (kX12_flows_0 13 rfl) (kX12_flows_0 14 rfl) (kX12_flows_0 15 rfl) (by decide)
theorem dX12_flows_16 : decode cX12_flows 16 = .ok (.aload_n 0, 1) := dq_42 (kX12_flows_0 16 rfl)
theorem dX12_flows_17 : decode cX12_flows 17 = .ok (.getfield 23, 3) := dq_180 (kX12_flows_0 17 rfl) (kX12_flows_0 18 rfl) (kX12_flows_0 19 rfl) rfl
theorem dX12_flows_20 : decode cX12_flows 20 = .ok (.iload_n 2, 1) := dq_28 (kX12_flows_0 20 rfl)
theorem dX12_flows_21 : decode cX12_flows 21 = .ok (.iaload, 1) := dq_46 (kX12_flows_0 21 rfl)
theorem dX12_flows_22 : decode cX12_flows 22 = .ok (.iconst (-1), 1) := dq_2 (kX12_flows_0 22 rfl)
theorem dX12_flows_23 : decode cX12_flows 23 = .ok (.if_icmp .eq 23, 3) := dq_159 (kX12_flows_0 23 rfl) (kX12_flows_0 24 rfl) (kX12_flows_0 25 rfl) (by decide)
theorem dX12_flows_26 : decode cX12_flows 26 = .ok (.aload_n 0, 1) := dq_42 (kX12_flows_0 26 rfl)
theorem dX12_flows_27 : decode cX12_flows 27 = .ok (.getfield 396, 3) := dq_180 (kX12_flows_0 27 rfl) (kX12_flows_0 28 rfl) (kX12_flows_0 29 rfl) rfl
theorem dX12_flows_30 : decode cX12_flows 30 = .ok (.aload_n 0, 1) := dq_42 (kX12_flows_0 30 rfl)
theorem dX12_flows_31 : decode cX12_flows 31 = .ok (.getfield 50, 3) := dq_180 (kX12_flows_0 31 rfl) (kX12_flows_1 0 rfl) (kX12_flows_1 1 rfl) rfl
theorem dX12_flows_34 : decode cX12_flows 34 = .ok (.iload_n 1, 1) := dq_27 (kX12_flows_1 2 rfl)
theorem dX12_flows_35 : decode cX12_flows 35 = .ok (.iaload, 1) := dq_46 (kX12_flows_1 3 rfl)
theorem dX12_flows_36 : decode cX12_flows 36 = .ok (.isub, 1) := dq_100 (kX12_flows_1 4 rfl)
theorem dX12_flows_37 : decode cX12_flows 37 = .ok (.aload_n 0, 1) := dq_42 (kX12_flows_1 5 rfl)
theorem dX12_flows_38 : decode cX12_flows 38 = .ok (.getfield 26, 3) := dq_180 (kX12_flows_1 6 rfl) (kX12_flows_1 7 rfl) (kX12_flows_1 8 rfl) rfl
theorem dX12_flows_41 : decode cX12_flows 41 = .ok (.iload_n 2, 1) := dq_28 (kX12_flows_1 9 rfl)
theorem dX12_flows_42 : decode cX12_flows 42 = .ok (.iaload, 1) := dq_46 (kX12_flows_1 10 rfl)
theorem dX12_flows_43 : decode cX12_flows 43 = .ok (.if_icmp .ge 4, 3) := dq_162 (kX12_flows_1 11 rfl) (kX12_flows_1 12 rfl) (kX12_flows_1 13 rfl) (by decide)
theorem dX12_flows_46 : decode cX12_flows 46 = .ok (.return_, 1) := dq_177 (kX12_flows_1 14 rfl)
theorem dX12_flows_47 : decode cX12_flows 47 = .ok (.aload_n 0, 1) := dq_42 (kX12_flows_1 15 rfl)
theorem dX12_flows_48 : decode cX12_flows 48 = .ok (.getfield 23, 3) := dq_180 (kX12_flows_1 16 rfl) (kX12_flows_1 17 rfl) (kX12_flows_1 18 rfl) rfl
theorem dX12_flows_51 : decode cX12_flows 51 = .ok (.iload_n 2, 1) := dq_28 (kX12_flows_1 19 rfl)
theorem dX12_flows_52 : decode cX12_flows 52 = .ok (.iaload, 1) := dq_46 (kX12_flows_1 20 rfl)
theorem dX12_flows_53 : decode cX12_flows 53 = .ok (.invokestatic 639, 3) := dq_184 (kX12_flows_1 21 rfl) (kX12_flows_1 22 rfl) (kX12_flows_1 23 rfl) rfl
theorem dX12_flows_56 : decode cX12_flows 56 = .ok (.istore_n 3, 1) := dq_62 (kX12_flows_1 24 rfl)
theorem dX12_flows_57 : decode cX12_flows 57 = .ok (.aload_n 0, 1) := dq_42 (kX12_flows_1 25 rfl)
theorem dX12_flows_58 : decode cX12_flows 58 = .ok (.getfield 23, 3) := dq_180 (kX12_flows_1 26 rfl) (kX12_flows_1 27 rfl) (kX12_flows_1 28 rfl) rfl
theorem dX12_flows_61 : decode cX12_flows 61 = .ok (.iload_n 2, 1) := dq_28 (kX12_flows_1 29 rfl)
theorem dX12_flows_62 : decode cX12_flows 62 = .ok (.iaload, 1) := dq_46 (kX12_flows_1 30 rfl)
theorem dX12_flows_63 : decode cX12_flows 63 = .ok (.invokestatic 642, 3) := dq_184 (kX12_flows_1 31 rfl) (kX12_flows_2 0 rfl) (kX12_flows_2 1 rfl) rfl
theorem dX12_flows_66 : decode cX12_flows 66 = .ok (.istore 4, 2) := dq_54 (kX12_flows_2 2 rfl) (kX12_flows_2 3 rfl) rfl
theorem dX12_flows_68 : decode cX12_flows 68 = .ok (.aload_n 0, 1) := dq_42 (kX12_flows_2 4 rfl)
theorem dX12_flows_69 : decode cX12_flows 69 = .ok (.iload_n 2, 1) := dq_28 (kX12_flows_2 5 rfl)
theorem dX12_flows_70 : decode cX12_flows 70 = .ok (.iload_n 3, 1) := dq_29 (kX12_flows_2 6 rfl)
theorem dX12_flows_71 : decode cX12_flows 71 = .ok (.iload 4, 2) := dq_21 (kX12_flows_2 7 rfl) (kX12_flows_2 8 rfl) rfl
theorem dX12_flows_73 : decode cX12_flows 73 = .ok (.invokevirtual 645, 3) := dq_182 (kX12_flows_2 9 rfl) (kX12_flows_2 10 rfl) (kX12_flows_2 11 rfl) rfl
theorem dX12_flows_76 : decode cX12_flows 76 = .ok (.istore 5, 2) := dq_54 (kX12_flows_2 12 rfl) (kX12_flows_2 13 rfl) rfl
theorem dX12_flows_78 : decode cX12_flows 78 = .ok (.iload 5, 2) := dq_21 (kX12_flows_2 14 rfl) (kX12_flows_2 15 rfl) rfl
theorem dX12_flows_80 : decode cX12_flows 80 = .ok (.iconst (-1), 1) := dq_2 (kX12_flows_2 16 rfl)
theorem dX12_flows_81 : decode cX12_flows 81 = .ok (.if_icmp .ne 9, 3) := dq_160 (kX12_flows_2 17 rfl) (kX12_flows_2 18 rfl) (kX12_flows_2 19 rfl) (by decide)
theorem dX12_flows_84 : decode cX12_flows 84 = .ok (.aload_n 0, 1) := dq_42 (kX12_flows_2 20 rfl)
theorem dX12_flows_85 : decode cX12_flows 85 = .ok (.iload_n 1, 1) := dq_27 (kX12_flows_2 21 rfl)
theorem dX12_flows_86 : decode cX12_flows 86 = .ok (.invokevirtual 685, 3) := dq_182 (kX12_flows_2 22 rfl) (kX12_flows_2 23 rfl) (kX12_flows_2 24 rfl) rfl
theorem dX12_flows_89 : decode cX12_flows 89 = .ok (.return_, 1) := dq_177 (kX12_flows_2 25 rfl)
theorem dX12_flows_90 : decode cX12_flows 90 = .ok (.aload_n 0, 1) := dq_42 (kX12_flows_2 26 rfl)
theorem dX12_flows_91 : decode cX12_flows 91 = .ok (.getfield 41, 3) := dq_180 (kX12_flows_2 27 rfl) (kX12_flows_2 28 rfl) (kX12_flows_2 29 rfl) rfl
theorem dX12_flows_94 : decode cX12_flows 94 = .ok (.iload_n 1, 1) := dq_27 (kX12_flows_2 30 rfl)
theorem dX12_flows_95 : decode cX12_flows 95 = .ok (.iload 5, 2) := dq_21 (kX12_flows_2 31 rfl) (kX12_flows_3 0 rfl) rfl
theorem dX12_flows_97 : decode cX12_flows 97 = .ok (.iastore, 1) := dq_79 (kX12_flows_3 1 rfl)
theorem dX12_flows_98 : decode cX12_flows 98 = .ok (.aload_n 0, 1) := dq_42 (kX12_flows_3 2 rfl)
theorem dX12_flows_99 : decode cX12_flows 99 = .ok (.getfield 50, 3) := dq_180 (kX12_flows_3 3 rfl) (kX12_flows_3 4 rfl) (kX12_flows_3 5 rfl) rfl
theorem dX12_flows_102 : decode cX12_flows 102 = .ok (.iload_n 1, 1) := dq_27 (kX12_flows_3 6 rfl)
theorem dX12_flows_103 : decode cX12_flows 103 = .ok (.aload_n 0, 1) := dq_42 (kX12_flows_3 7 rfl)
theorem dX12_flows_104 : decode cX12_flows 104 = .ok (.getfield 396, 3) := dq_180 (kX12_flows_3 8 rfl) (kX12_flows_3 9 rfl) (kX12_flows_3 10 rfl) rfl
theorem dX12_flows_107 : decode cX12_flows 107 = .ok (.iastore, 1) := dq_79 (kX12_flows_3 11 rfl)
theorem dX12_flows_108 : decode cX12_flows 108 = .ok (.iconst 0, 1) := dq_3 (kX12_flows_3 12 rfl)
theorem dX12_flows_109 : decode cX12_flows 109 = .ok (.istore 6, 2) := dq_54 (kX12_flows_3 13 rfl) (kX12_flows_3 14 rfl) rfl
theorem dX12_flows_111 : decode cX12_flows 111 = .ok (.iload 6, 2) := dq_21 (kX12_flows_3 15 rfl) (kX12_flows_3 16 rfl) rfl
theorem dX12_flows_113 : decode cX12_flows 113 = .ok (.aload_n 0, 1) := dq_42 (kX12_flows_3 17 rfl)
theorem dX12_flows_114 : decode cX12_flows 114 = .ok (.getfield 375, 3) := dq_180 (kX12_flows_3 18 rfl) (kX12_flows_3 19 rfl) (kX12_flows_3 20 rfl) rfl
theorem dX12_flows_117 : decode cX12_flows 117 = .ok (.if_icmp .ge 112, 3) := dq_162 (kX12_flows_3 21 rfl) (kX12_flows_3 22 rfl) (kX12_flows_3 23 rfl) (by decide)
theorem dX12_flows_120 : decode cX12_flows 120 = .ok (.aload_n 0, 1) := dq_42 (kX12_flows_3 24 rfl)
theorem dX12_flows_121 : decode cX12_flows 121 = .ok (.getfield 35, 3) := dq_180 (kX12_flows_3 25 rfl) (kX12_flows_3 26 rfl) (kX12_flows_3 27 rfl) rfl
theorem dX12_flows_124 : decode cX12_flows 124 = .ok (.iload 6, 2) := dq_21 (kX12_flows_3 28 rfl) (kX12_flows_3 29 rfl) rfl
theorem dX12_flows_126 : decode cX12_flows 126 = .ok (.iaload, 1) := dq_46 (kX12_flows_3 30 rfl)
theorem dX12_flows_127 : decode cX12_flows 127 = .ok (.iconst 2, 1) := dq_5 (kX12_flows_3 31 rfl)
theorem dX12_flows_128 : decode cX12_flows 128 = .ok (.if_icmp .ne 95, 3) := dq_160 (kX12_flows_4 0 rfl) (kX12_flows_4 1 rfl) (kX12_flows_4 2 rfl) (by decide)
theorem dX12_flows_131 : decode cX12_flows 131 = .ok (.aload_n 0, 1) := dq_42 (kX12_flows_4 3 rfl)
theorem dX12_flows_132 : decode cX12_flows 132 = .ok (.getfield 47, 3) := dq_180 (kX12_flows_4 4 rfl) (kX12_flows_4 5 rfl) (kX12_flows_4 6 rfl) rfl
theorem dX12_flows_135 : decode cX12_flows 135 = .ok (.iload 6, 2) := dq_21 (kX12_flows_4 7 rfl) (kX12_flows_4 8 rfl) rfl
theorem dX12_flows_137 : decode cX12_flows 137 = .ok (.iaload, 1) := dq_46 (kX12_flows_4 9 rfl)
theorem dX12_flows_138 : decode cX12_flows 138 = .ok (.iload_n 1, 1) := dq_27 (kX12_flows_4 10 rfl)
theorem dX12_flows_139 : decode cX12_flows 139 = .ok (.if_icmp .ne 84, 3) := dq_160 (kX12_flows_4 11 rfl) (kX12_flows_4 12 rfl) (kX12_flows_4 13 rfl) (by decide)
theorem dX12_flows_142 : decode cX12_flows 142 = .ok (.aload_n 0, 1) := dq_42 (kX12_flows_4 14 rfl)
theorem dX12_flows_143 : decode cX12_flows 143 = .ok (.getfield 80, 3) := dq_180 (kX12_flows_4 15 rfl) (kX12_flows_4 16 rfl) (kX12_flows_4 17 rfl) rfl
theorem dX12_flows_146 : decode cX12_flows 146 = .ok (.iload 6, 2) := dq_21 (kX12_flows_4 18 rfl) (kX12_flows_4 19 rfl) rfl
theorem dX12_flows_148 : decode cX12_flows 148 = .ok (.baload, 1) := dq_51 (kX12_flows_4 20 rfl)
theorem dX12_flows_149 : decode cX12_flows 149 = .ok (.ifCond .eq 6, 3) := dq_153 (kX12_flows_4 21 rfl) (kX12_flows_4 22 rfl) (kX12_flows_4 23 rfl) (by decide)
theorem dX12_flows_152 : decode cX12_flows 152 = .ok (.goto 71, 3) := dq_167 (kX12_flows_4 24 rfl) (kX12_flows_4 25 rfl) (kX12_flows_4 26 rfl) (by decide)
theorem dX12_flows_155 : decode cX12_flows 155 = .ok (.aload_n 0, 1) := dq_42 (kX12_flows_4 27 rfl)
theorem dX12_flows_156 : decode cX12_flows 156 = .ok (.aload_n 0, 1) := dq_42 (kX12_flows_4 28 rfl)
theorem dX12_flows_157 : decode cX12_flows 157 = .ok (.getfield 41, 3) := dq_180 (kX12_flows_4 29 rfl) (kX12_flows_4 30 rfl) (kX12_flows_4 31 rfl) rfl
theorem dX12_flows_160 : decode cX12_flows 160 = .ok (.iload 6, 2) := dq_21 (kX12_flows_5 0 rfl) (kX12_flows_5 1 rfl) rfl
theorem dX12_flows_162 : decode cX12_flows 162 = .ok (.iaload, 1) := dq_46 (kX12_flows_5 2 rfl)
theorem dX12_flows_163 : decode cX12_flows 163 = .ok (.iload_n 3, 1) := dq_29 (kX12_flows_5 3 rfl)
theorem dX12_flows_164 : decode cX12_flows 164 = .ok (.iload 4, 2) := dq_21 (kX12_flows_5 4 rfl) (kX12_flows_5 5 rfl) rfl
theorem dX12_flows_166 : decode cX12_flows 166 = .ok (.invokevirtual 645, 3) := dq_182 (kX12_flows_5 6 rfl) (kX12_flows_5 7 rfl) (kX12_flows_5 8 rfl) rfl
theorem dX12_flows_169 : decode cX12_flows 169 = .ok (.istore 7, 2) := dq_54 (kX12_flows_5 9 rfl) (kX12_flows_5 10 rfl) rfl
theorem dX12_flows_171 : decode cX12_flows 171 = .ok (.aload_n 0, 1) := dq_42 (kX12_flows_5 11 rfl)
theorem dX12_flows_172 : decode cX12_flows 172 = .ok (.getfield 80, 3) := dq_180 (kX12_flows_5 12 rfl) (kX12_flows_5 13 rfl) (kX12_flows_5 14 rfl) rfl
theorem dX12_flows_175 : decode cX12_flows 175 = .ok (.iload 6, 2) := dq_21 (kX12_flows_5 15 rfl) (kX12_flows_5 16 rfl) rfl
theorem dX12_flows_177 : decode cX12_flows 177 = .ok (.iload 7, 2) := dq_21 (kX12_flows_5 17 rfl) (kX12_flows_5 18 rfl) rfl
theorem dX12_flows_179 : decode cX12_flows 179 = .ok (.iconst (-1), 1) := dq_2 (kX12_flows_5 19 rfl)
theorem dX12_flows_180 : decode cX12_flows 180 = .ok (.if_icmp .eq 12, 3) := dq_159 (kX12_flows_5 20 rfl) (kX12_flows_5 21 rfl) (kX12_flows_5 22 rfl) (by decide)
theorem dX12_flows_183 : decode cX12_flows 183 = .ok (.aload_n 0, 1) := dq_42 (kX12_flows_5 23 rfl)
theorem dX12_flows_184 : decode cX12_flows 184 = .ok (.iload 7, 2) := dq_21 (kX12_flows_5 24 rfl) (kX12_flows_5 25 rfl) rfl
theorem dX12_flows_186 : decode cX12_flows 186 = .ok (.invokevirtual 425, 3) := dq_182 (kX12_flows_5 26 rfl) (kX12_flows_5 27 rfl) (kX12_flows_5 28 rfl) rfl
theorem dX12_flows_189 : decode cX12_flows 189 = .ok (.ifCond .ne 7, 3) := dq_154 (kX12_flows_5 29 rfl) (kX12_flows_5 30 rfl) (kX12_flows_5 31 rfl) (by decide)
theorem dX12_flows_192 : decode cX12_flows 192 = .ok (.iconst 1, 1) := dq_4 (kX12_flows_6 0 rfl)
theorem dX12_flows_193 : decode cX12_flows 193 = .ok (.goto 4, 3) := dq_167 (kX12_flows_6 1 rfl) (kX12_flows_6 2 rfl) (kX12_flows_6 3 rfl) (by decide)
theorem dX12_flows_196 : decode cX12_flows 196 = .ok (.iconst 0, 1) := dq_3 (kX12_flows_6 4 rfl)
theorem dX12_flows_197 : decode cX12_flows 197 = .ok (.bastore, 1) := dq_84 (kX12_flows_6 5 rfl)
theorem dX12_flows_198 : decode cX12_flows 198 = .ok (.aload_n 0, 1) := dq_42 (kX12_flows_6 6 rfl)
theorem dX12_flows_199 : decode cX12_flows 199 = .ok (.getfield 41, 3) := dq_180 (kX12_flows_6 7 rfl) (kX12_flows_6 8 rfl) (kX12_flows_6 9 rfl) rfl
theorem dX12_flows_202 : decode cX12_flows 202 = .ok (.iload 6, 2) := dq_21 (kX12_flows_6 10 rfl) (kX12_flows_6 11 rfl) rfl
theorem dX12_flows_204 : decode cX12_flows 204 = .ok (.iload 7, 2) := dq_21 (kX12_flows_6 12 rfl) (kX12_flows_6 13 rfl) rfl
theorem dX12_flows_206 : decode cX12_flows 206 = .ok (.iconst (-1), 1) := dq_2 (kX12_flows_6 14 rfl)
theorem dX12_flows_207 : decode cX12_flows 207 = .ok (.if_icmp .ne 13, 3) := dq_160 (kX12_flows_6 15 rfl) (kX12_flows_6 16 rfl) (kX12_flows_6 17 rfl) (by decide)
theorem dX12_flows_210 : decode cX12_flows 210 = .ok (.aload_n 0, 1) := dq_42 (kX12_flows_6 18 rfl)
theorem dX12_flows_211 : decode cX12_flows 211 = .ok (.getfield 41, 3) := dq_180 (kX12_flows_6 19 rfl) (kX12_flows_6 20 rfl) (kX12_flows_6 21 rfl) rfl
theorem dX12_flows_214 : decode cX12_flows 214 = .ok (.iload 6, 2) := dq_21 (kX12_flows_6 22 rfl) (kX12_flows_6 23 rfl) rfl
theorem dX12_flows_216 : decode cX12_flows 216 = .ok (.iaload, 1) := dq_46 (kX12_flows_6 24 rfl)
theorem dX12_flows_217 : decode cX12_flows 217 = .ok (.goto 5, 3) := dq_167 (kX12_flows_6 25 rfl) (kX12_flows_6 26 rfl) (kX12_flows_6 27 rfl) (by decide)
theorem dX12_flows_220 : decode cX12_flows 220 = .ok (.iload 7, 2) := dq_21 (kX12_flows_6 28 rfl) (kX12_flows_6 29 rfl) rfl
theorem dX12_flows_222 : decode cX12_flows 222 = .ok (.iastore, 1) := dq_79 (kX12_flows_6 30 rfl)
theorem dX12_flows_223 : decode cX12_flows 223 = .ok (.iinc 6 1, 3) := dq_132 (kX12_flows_6 31 rfl) (kX12_flows_7 0 rfl) (kX12_flows_7 1 rfl) rfl (by decide)
theorem dX12_flows_226 : decode cX12_flows 226 = .ok (.goto (-115), 3) := dq_167 (kX12_flows_7 2 rfl) (kX12_flows_7 3 rfl) (kX12_flows_7 4 rfl) (by decide)
theorem dX12_flows_229 : decode cX12_flows 229 = .ok (.aload_n 0, 1) := dq_42 (kX12_flows_7 5 rfl)
theorem dX12_flows_230 : decode cX12_flows 230 = .ok (.iload 5, 2) := dq_21 (kX12_flows_7 6 rfl) (kX12_flows_7 7 rfl) rfl
theorem dX12_flows_232 : decode cX12_flows 232 = .ok (.invokevirtual 425, 3) := dq_182 (kX12_flows_7 8 rfl) (kX12_flows_7 9 rfl) (kX12_flows_7 10 rfl) rfl
theorem dX12_flows_235 : decode cX12_flows 235 = .ok (.ifCond .ne 8, 3) := dq_154 (kX12_flows_7 11 rfl) (kX12_flows_7 12 rfl) (kX12_flows_7 13 rfl) (by decide)
theorem dX12_flows_238 : decode cX12_flows 238 = .ok (.aload_n 0, 1) := dq_42 (kX12_flows_7 14 rfl)
theorem dX12_flows_239 : decode cX12_flows 239 = .ok (.iload_n 1, 1) := dq_27 (kX12_flows_7 15 rfl)
theorem dX12_flows_240 : decode cX12_flows 240 = .ok (.invokevirtual 685, 3) := dq_182 (kX12_flows_7 16 rfl) (kX12_flows_7 17 rfl) (kX12_flows_7 18 rfl) rfl
theorem dX12_flows_243 : decode cX12_flows 243 = .ok (.return_, 1) := dq_177 (kX12_flows_7 19 rfl)

def bX12_day_0 : List UInt8 := [42, 180, 1, 140, 17, 14, 15, 160, 0, 5, 2, 172, 42, 42, 180, 1, 140, 4, 96, 181, 1, 140, 42, 182, 2, 176, 3, 60, 27, 42, 180, 1]
theorem kX12_day_0 (j : Nat) {b : UInt8} (hj : bX12_day_0[j]? = some b) : AtB cX12_day (0 + j) b := at_of32 (by decide +kernel) j hj
def bX12_day_1 : List UInt8 := [119, 162, 0, 30, 42, 27, 182, 1, 177, 154, 0, 6, 167, 0, 13, 42, 27, 182, 2, 179, 42, 27, 182, 2, 182, 132, 1, 1, 167, 255, 224, 3]
theorem kX12_day_1 (j : Nat) {b : UInt8} (hj : bX12_day_1[j]? = some b) : AtB cX12_day (32 + j) b := at_of32 (by decide +kernel) j hj
def bX12_day_2 : List UInt8 := [60, 27, 42, 180, 2, 100, 162, 0, 14, 42, 27, 182, 2, 185, 132, 1, 1, 167, 255, 240, 3, 60, 27, 42, 180, 2, 136, 162, 0, 14, 42, 27]
theorem kX12_day_2 (j : Nat) {b : UInt8} (hj : bX12_day_2[j]? = some b) : AtB cX12_day (64 + j) b := at_of32 (by decide +kernel) j hj
def bX12_day_3 : List UInt8 := [182, 2, 188, 132, 1, 1, 167, 255, 240, 42, 180, 1, 140, 172]
theorem kX12_day_3 (j : Nat) {b : UInt8} (hj : bX12_day_3[j]? = some b) : AtB cX12_day (96 + j) b := at_of32 (by decide +kernel) j hj
theorem dX12_day_0 : decode cX12_day 0 = .ok (.aload_n 0, 1) := dq_42 (kX12_day_0 0 rfl)
theorem dX12_day_1 : decode cX12_day 1 = .ok (.getfield 396, 3) := dq_180 (kX12_day_0 1 rfl) (kX12_day_0 2 rfl) (kX12_day_0 3 rfl) rfl
theorem dX12_day_4 : decode cX12_day 4 = .ok (.sipush 3599, 3) := dq_17 (kX12_day_0 4 rfl) (kX12_day_0 5 rfl) (kX12_day_0 6 rfl) (by decide)
theorem dX12_day_7 : decode cX12_day 7 = .ok (.if_icmp .ne 5, 3) := dq_160 (kX12_day_0 7 rfl) (kX12_day_0 8 rfl) (kX12_day_0 9 rfl) (by decide)
theorem dX12_day_10 : decode cX12_day 10 = .ok (.iconst (-1), 1) := dq_2 (kX12_day_0 10 rfl)
theorem dX12_day_11 : decode cX12_day 11 = .ok (.ireturn, 1) := dq_172 (kX12_day_0 11 rfl)
theorem dX12_day_12 : decode cX12_day 12 = .ok (.aload_n 0, 1) := dq_42 (kX12_day_0 12 rfl)
theorem dX12_day_13 : decode cX12_day 13 = .ok (.aload_n 0, 1) := dq_42 (kX12_day_0 13 rfl)
theorem dX12_day_14 : decode cX12_day 14 = .ok (.getfield 396, 3) := dq_180 (kX12_day_0 14 rfl) (kX12_day_0 15 rfl) (kX12_day_0 16 rfl) rfl
theorem dX12_day_17 : decode cX12_day 17 = .ok (.iconst 1, 1) := dq_4 (kX12_day_0 17 rfl)
theorem dX12_day_18 : decode cX12_day 18 = .ok (.iadd, 1) := dq_96 (kX12_day_0 18 rfl)
theorem dX12_day_19 : decode cX12_day 19 = .ok (.putfield 396, 3) := dq_181 (kX12_day_0 19 rfl) (kX12_day_0 20 rfl) (kX12_day_0 21 rfl) rfl
theorem dX12_day_22 : decode cX12_day 22 = .ok (.aload_n 0, 1) := dq_42 (kX12_day_0 22 rfl)
theorem dX12_day_23 : decode cX12_day 23 = .ok (.invokevirtual 688, 3) := dq_182 (kX12_day_0 23 rfl) (kX12_day_0 24 rfl) (kX12_day_0 25 rfl) rfl
theorem dX12_day_26 : decode cX12_day 26 = .ok (.iconst 0, 1) := dq_3 (kX12_day_0 26 rfl)
theorem dX12_day_27 : decode cX12_day 27 = .ok (.istore_n 1, 1) := dq_60 (kX12_day_0 27 rfl)
theorem dX12_day_28 : decode cX12_day 28 = .ok (.iload_n 1, 1) := dq_27 (kX12_day_0 28 rfl)
theorem dX12_day_29 : decode cX12_day 29 = .ok (.aload_n 0, 1) := dq_42 (kX12_day_0 29 rfl)
theorem dX12_day_30 : decode cX12_day 30 = .ok (.getfield 375, 3) := dq_180 (kX12_day_0 30 rfl) (kX12_day_0 31 rfl) (kX12_day_1 0 rfl) rfl
theorem dX12_day_33 : decode cX12_day 33 = .ok (.if_icmp .ge 30, 3) := dq_162 (kX12_day_1 1 rfl) (kX12_day_1 2 rfl) (kX12_day_1 3 rfl) (by decide)
theorem dX12_day_36 : decode cX12_day 36 = .ok (.aload_n 0, 1) := dq_42 (kX12_day_1 4 rfl)
theorem dX12_day_37 : decode cX12_day 37 = .ok (.iload_n 1, 1) := dq_27 (kX12_day_1 5 rfl)
theorem dX12_day_38 : decode cX12_day 38 = .ok (.invokevirtual 433, 3) := dq_182 (kX12_day_1 6 rfl) (kX12_day_1 7 rfl) (kX12_day_1 8 rfl) rfl
theorem dX12_day_41 : decode cX12_day 41 = .ok (.ifCond .ne 6, 3) := dq_154 (kX12_day_1 9 rfl) (kX12_day_1 10 rfl) (kX12_day_1 11 rfl) (by decide)
theorem dX12_day_44 : decode cX12_day 44 = .ok (.goto 13, 3) := dq_167 (kX12_day_1 12 rfl) (kX12_day_1 13 rfl) (kX12_day_1 14 rfl) (by decide)
theorem dX12_day_47 : decode cX12_day 47 = .ok (.aload_n 0, 1) := dq_42 (kX12_day_1 15 rfl)
theorem dX12_day_48 : decode cX12_day 48 = .ok (.iload_n 1, 1) := dq_27 (kX12_day_1 16 rfl)
theorem dX12_day_49 : decode cX12_day 49 = .ok (.invokevirtual 691, 3) := dq_182 (kX12_day_1 17 rfl) (kX12_day_1 18 rfl) (kX12_day_1 19 rfl) rfl
theorem dX12_day_52 : decode cX12_day 52 = .ok (.aload_n 0, 1) := dq_42 (kX12_day_1 20 rfl)
theorem dX12_day_53 : decode cX12_day 53 = .ok (.iload_n 1, 1) := dq_27 (kX12_day_1 21 rfl)
theorem dX12_day_54 : decode cX12_day 54 = .ok (.invokevirtual 694, 3) := dq_182 (kX12_day_1 22 rfl) (kX12_day_1 23 rfl) (kX12_day_1 24 rfl) rfl
theorem dX12_day_57 : decode cX12_day 57 = .ok (.iinc 1 1, 3) := dq_132 (kX12_day_1 25 rfl) (kX12_day_1 26 rfl) (kX12_day_1 27 rfl) rfl (by decide)
theorem dX12_day_60 : decode cX12_day 60 = .ok (.goto (-32), 3) := dq_167 (kX12_day_1 28 rfl) (kX12_day_1 29 rfl) (kX12_day_1 30 rfl) (by decide)
theorem dX12_day_63 : decode cX12_day 63 = .ok (.iconst 0, 1) := dq_3 (kX12_day_1 31 rfl)
theorem dX12_day_64 : decode cX12_day 64 = .ok (.istore_n 1, 1) := dq_60 (kX12_day_2 0 rfl)
theorem dX12_day_65 : decode cX12_day 65 = .ok (.iload_n 1, 1) := dq_27 (kX12_day_2 1 rfl)
theorem dX12_day_66 : decode cX12_day 66 = .ok (.aload_n 0, 1) := dq_42 (kX12_day_2 2 rfl)
theorem dX12_day_67 : decode cX12_day 67 = .ok (.getfield 612, 3) := dq_180 (kX12_day_2 3 rfl) (kX12_day_2 4 rfl) (kX12_day_2 5 rfl) rfl
theorem dX12_day_70 : decode cX12_day 70 = .ok (.if_icmp .ge 14, 3) := dq_162 (kX12_day_2 6 rfl) (kX12_day_2 7 rfl) (kX12_day_2 8 rfl) (by decide)
theorem dX12_day_73 : decode cX12_day 73 = .ok (.aload_n 0, 1) := dq_42 (kX12_day_2 9 rfl)
theorem dX12_day_74 : decode cX12_day 74 = .ok (.iload_n 1, 1) := dq_27 (kX12_day_2 10 rfl)
theorem dX12_day_75 : decode cX12_day 75 = .ok (.invokevirtual 697, 3) := dq_182 (kX12_day_2 11 rfl) (kX12_day_2 12 rfl) (kX12_day_2 13 rfl) rfl
theorem dX12_day_78 : decode cX12_day 78 = .ok (.iinc 1 1, 3) := dq_132 (kX12_day_2 14 rfl) (kX12_day_2 15 rfl) (kX12_day_2 16 rfl) rfl (by decide)
theorem dX12_day_81 : decode cX12_day 81 = .ok (.goto (-16), 3) := dq_167 (kX12_day_2 17 rfl) (kX12_day_2 18 rfl) (kX12_day_2 19 rfl) (by decide)
theorem dX12_day_84 : decode cX12_day 84 = .ok (.iconst 0, 1) := dq_3 (kX12_day_2 20 rfl)
theorem dX12_day_85 : decode cX12_day 85 = .ok (.istore_n 1, 1) := dq_60 (kX12_day_2 21 rfl)
theorem dX12_day_86 : decode cX12_day 86 = .ok (.iload_n 1, 1) := dq_27 (kX12_day_2 22 rfl)
theorem dX12_day_87 : decode cX12_day 87 = .ok (.aload_n 0, 1) := dq_42 (kX12_day_2 23 rfl)
theorem dX12_day_88 : decode cX12_day 88 = .ok (.getfield 648, 3) := dq_180 (kX12_day_2 24 rfl) (kX12_day_2 25 rfl) (kX12_day_2 26 rfl) rfl
theorem dX12_day_91 : decode cX12_day 91 = .ok (.if_icmp .ge 14, 3) := dq_162 (kX12_day_2 27 rfl) (kX12_day_2 28 rfl) (kX12_day_2 29 rfl) (by decide)
theorem dX12_day_94 : decode cX12_day 94 = .ok (.aload_n 0, 1) := dq_42 (kX12_day_2 30 rfl)
theorem dX12_day_95 : decode cX12_day 95 = .ok (.iload_n 1, 1) := dq_27 (kX12_day_2 31 rfl)
theorem dX12_day_96 : decode cX12_day 96 = .ok (.invokevirtual 700, 3) := dq_182 (kX12_day_3 0 rfl) (kX12_day_3 1 rfl) (kX12_day_3 2 rfl) rfl
theorem dX12_day_99 : decode cX12_day 99 = .ok (.iinc 1 1, 3) := dq_132 (kX12_day_3 3 rfl) (kX12_day_3 4 rfl) (kX12_day_3 5 rfl) rfl (by decide)
theorem dX12_day_102 : decode cX12_day 102 = .ok (.goto (-16), 3) := dq_167 (kX12_day_3 6 rfl) (kX12_day_3 7 rfl) (kX12_day_3 8 rfl) (by decide)
theorem dX12_day_105 : decode cX12_day 105 = .ok (.aload_n 0, 1) := dq_42 (kX12_day_3 9 rfl)
theorem dX12_day_106 : decode cX12_day 106 = .ok (.getfield 396, 3) := dq_180 (kX12_day_3 10 rfl) (kX12_day_3 11 rfl) (kX12_day_3 12 rfl) rfl
theorem dX12_day_109 : decode cX12_day 109 = .ok (.ireturn, 1) := dq_172 (kX12_day_3 13 rfl)

def bX12_sound_0 : List UInt8 := [42, 27, 7, 182, 1, 143, 153, 0, 36, 28, 4, 17, 19, 136, 184, 1, 115, 153, 0, 25, 29, 3, 17, 3, 232, 184, 1, 115, 153, 0, 14, 42]
theorem kX12_sound_0 (j : Nat) {b : UInt8} (hj : bX12_sound_0[j]? = some b) : AtB cX12_sound (0 + j) b := at_of32 (by decide +kernel) j hj
def bX12_sound_1 : List UInt8 := [180, 1, 27, 27, 46, 16, 8, 160, 0, 5, 3, 172, 42, 180, 1, 30, 16, 8, 27, 104, 42, 180, 1, 27, 27, 46, 96, 28, 79, 42, 180, 1]
theorem kX12_sound_1 (j : Nat) {b : UInt8} (hj : bX12_sound_1[j]? = some b) : AtB cX12_sound (32 + j) b := at_of32 (by decide +kernel) j hj
def bX12_sound_2 : List UInt8 := [33, 16, 8, 27, 104, 42, 180, 1, 27, 27, 46, 96, 29, 79, 42, 180, 1, 27, 27, 42, 180, 1, 27, 27, 46, 4, 96, 79, 4, 172]
theorem kX12_sound_2 (j : Nat) {b : UInt8} (hj : bX12_sound_2[j]? = some b) : AtB cX12_sound (64 + j) b := at_of32 (by decide +kernel) j hj
theorem dX12_sound_0 : decode cX12_sound 0 = .ok (.aload_n 0, 1) := dq_42 (kX12_sound_0 0 rfl)
theorem dX12_sound_1 : decode cX12_sound 1 = .ok (.iload_n 1, 1) := dq_27 (kX12_sound_0 1 rfl)
theorem dX12_sound_2 : decode cX12_sound 2 = .ok (.iconst 4, 1) := dq_7 (kX12_sound_0 2 rfl)
theorem dX12_sound_3 : decode cX12_sound 3 = .ok (.invokevirtual 399, 3) := dq_182 (kX12_sound_0 3 rfl) (kX12_sound_0 4 rfl) (kX12_sound_0 5 rfl) rfl
theorem dX12_sound_6 : decode cX12_sound 6 = .ok (.ifCond .eq 36, 3) := dq_153 (kX12_sound_0 6 rfl) (kX12_sound_0 7 rfl) (kX12_sound_0 8 rfl) (by decide)
theorem dX12_sound_9 : decode cX12_sound 9 = .ok (.iload_n 2, 1) := dq_28 (kX12_sound_0 9 rfl)
theorem dX12_sound_10 : decode cX12_sound 10 = .ok (.iconst 1, 1) := dq_4 (kX12_sound_0 10 rfl)
theorem dX12_sound_11 : decode cX12_sound 11 = .ok (.sipush 5000, 3) := dq_17 (kX12_sound_0 11 rfl) (kX12_sound_0 12 rfl) (kX12_sound_0 13 rfl) (by decide)
theorem dX12_sound_14 : decode cX12_sound 14 = .ok (.invokestatic 371, 3) := dq_184 (kX12_sound_0 14 rfl) (kX12_sound_0 15 rfl) (kX12_sound_0 16 rfl) rfl
theorem dX12_sound_17 : decode cX12_sound 17 = .ok (.ifCond .eq 25, 3) := dq_153 (kX12_sound_0 17 rfl) (kX12_sound_0 18 rfl) (kX12_sound_0 19 rfl) (by decide)
theorem dX12_sound_20 : decode cX12_sound 20 = .ok (.iload_n 3, 1) := dq_29 (kX12_sound_0 20 rfl)
theorem dX12_sound_21 : decode cX12_sound 21 = .ok (.iconst 0, 1) := dq_3 (kX12_sound_0 21 rfl)
theorem dX12_sound_22 : decode cX12_sound 22 = .ok (.sipush 1000, 3) := dq_17 (kX12_sound_0 22 rfl) (kX12_sound_0 23 rfl) (kX12_sound_0 24 rfl) (by decide)
theorem dX12_sound_25 : decode cX12_sound 25 = .ok (.invokestatic 371, 3) := dq_184 (kX12_sound_0 25 rfl) (kX12_sound_0 26 rfl) (kX12_sound_0 27 rfl) rfl
theorem dX12_sound_28 : decode cX12_sound 28 = .ok (.ifCond .eq 14, 3) := dq_153 (kX12_sound_0 28 rfl) (kX12_sound_0 29 rfl) (kX12_sound_0 30 rfl) (by decide)
theorem dX12_sound_31 : decode cX12_sound 31 = .ok (.aload_n 0, 1) := dq_42 (kX12_sound_0 31 rfl)
theorem dX12_sound_32 : decode cX12_sound 32 = .ok (.getfield 283, 3) := dq_180 (kX12_sound_1 0 rfl) (kX12_sound_1 1 rfl) (kX12_sound_1 2 rfl) rfl
theorem dX12_sound_35 : decode cX12_sound 35 = .ok (.iload_n 1, 1) := dq_27 (kX12_sound_1 3 rfl)
theorem dX12_sound_36 : decode cX12_sound 36 = .ok (.iaload, 1) := dq_46 (kX12_sound_1 4 rfl)
theorem dX12_sound_37 : decode cX12_sound 37 = .ok (.bipush 8, 2) := dq_16 (kX12_sound_1 5 rfl) (kX12_sound_1 6 rfl) (by decide)
theorem dX12_sound_39 : decode cX12_sound 39 = .ok (.if_icmp .ne 5, 3) := dq_160 (kX12_sound_1 7 rfl) (kX12_sound_1 8 rfl) (kX12_sound_1 9 rfl) (by decide)
theorem dX12_sound_42 : decode cX12_sound 42 = .ok (.iconst 0, 1) := dq_3 (kX12_sound_1 10 rfl)
theorem dX12_sound_43 : decode cX12_sound 43 = .ok (.ireturn, 1) := dq_172 (kX12_sound_1 11 rfl)
theorem dX12_sound_44 : decode cX12_sound 44 = .ok (.aload_n 0, 1) := dq_42 (kX12_sound_1 12 rfl)
theorem dX12_sound_45 : decode cX12_sound 45 = .ok (.getfield 286, 3) := dq_180 (kX12_sound_1 13 rfl) (kX12_sound_1 14 rfl) (kX12_sound_1 15 rfl) rfl
theorem dX12_sound_48 : decode cX12_sound 48 = .ok (.bipush 8, 2) := dq_16 (kX12_sound_1 16 rfl) (kX12_sound_1 17 rfl) (by decide)
theorem dX12_sound_50 : decode cX12_sound 50 = .ok (.iload_n 1, 1) := dq_27 (kX12_sound_1 18 rfl)
theorem dX12_sound_51 : decode cX12_sound 51 = .ok (.imul, 1) := dq_104 (kX12_sound_1 19 rfl)
theorem dX12_sound_52 : decode cX12_sound 52 = .ok (.aload_n 0, 1) := dq_42 (kX12_sound_1 20 rfl)
theorem dX12_sound_53 : decode cX12_sound 53 = .ok (.getfield 283, 3) := dq_180 (kX12_sound_1 21 rfl) (kX12_sound_1 22 rfl) (kX12_sound_1 23 rfl) rfl
theorem dX12_sound_56 : decode cX12_sound 56 = .ok (.iload_n 1, 1) := dq_27 (kX12_sound_1 24 rfl)
theorem dX12_sound_57 : decode cX12_sound 57 = .ok (.iaload, 1) := dq_46 (kX12_sound_1 25 rfl)
theorem dX12_sound_58 : decode cX12_sound 58 = .ok (.iadd, 1) := dq_96 (kX12_sound_1 26 rfl)
theorem dX12_sound_59 : decode cX12_sound 59 = .ok (.iload_n 2, 1) := dq_28 (kX12_sound_1 27 rfl)
theorem dX12_sound_60 : decode cX12_sound 60 = .ok (.iastore, 1) := dq_79 (kX12_sound_1 28 rfl)
theorem dX12_sound_61 : decode cX12_sound 61 = .ok (.aload_n 0, 1) := dq_42 (kX12_sound_1 29 rfl)
theorem dX12_sound_62 : decode cX12_sound 62 = .ok (.getfield 289, 3) := dq_180 (kX12_sound_1 30 rfl) (kX12_sound_1 31 rfl) (kX12_sound_2 0 rfl) rfl
theorem dX12_sound_65 : decode cX12_sound 65 = .ok (.bipush 8, 2) := dq_16 (kX12_sound_2 1 rfl) (kX12_sound_2 2 rfl) (by decide)
theorem dX12_sound_67 : decode cX12_sound 67 = .ok (.iload_n 1, 1) := dq_27 (kX12_sound_2 3 rfl)
theorem dX12_sound_68 : decode cX12_sound 68 = .ok (.imul, 1) := dq_104 (kX12_sound_2 4 rfl)
theorem dX12_sound_69 : decode cX12_sound 69 = .ok (.aload_n 0, 1) := dq_42 (kX12_sound_2 5 rfl)
theorem dX12_sound_70 : decode cX12_sound 70 = .ok (.getfield 283, 3) := dq_180 (kX12_sound_2 6 rfl) (kX12_sound_2 7 rfl) (kX12_sound_2 8 rfl) rfl
theorem dX12_sound_73 : decode cX12_sound 73 = .ok (.iload_n 1, 1) := dq_27 (kX12_sound_2 9 rfl)
theorem dX12_sound_74 : decode cX12_sound 74 = .ok (.iaload, 1) := dq_46 (kX12_sound_2 10 rfl)
theorem dX12_sound_75 : decode cX12_sound 75 = .ok (.iadd, 1) := dq_96 (kX12_sound_2 11 rfl)
theorem dX12_sound_76 : decode cX12_sound 76 = .ok (.iload_n 3, 1) := dq_29 (kX12_sound_2 12 rfl)
theorem dX12_sound_77 : decode cX12_sound 77 = .ok (.iastore, 1) := dq_79 (kX12_sound_2 13 rfl)
theorem dX12_sound_78 : decode cX12_sound 78 = .ok (.aload_n 0, 1) := dq_42 (kX12_sound_2 14 rfl)
theorem dX12_sound_79 : decode cX12_sound 79 = .ok (.getfield 283, 3) := dq_180 (kX12_sound_2 15 rfl) (kX12_sound_2 16 rfl) (kX12_sound_2 17 rfl) rfl
theorem dX12_sound_82 : decode cX12_sound 82 = .ok (.iload_n 1, 1) := dq_27 (kX12_sound_2 18 rfl)
theorem dX12_sound_83 : decode cX12_sound 83 = .ok (.aload_n 0, 1) := dq_42 (kX12_sound_2 19 rfl)
theorem dX12_sound_84 : decode cX12_sound 84 = .ok (.getfield 283, 3) := dq_180 (kX12_sound_2 20 rfl) (kX12_sound_2 21 rfl) (kX12_sound_2 22 rfl) rfl
theorem dX12_sound_87 : decode cX12_sound 87 = .ok (.iload_n 1, 1) := dq_27 (kX12_sound_2 23 rfl)
theorem dX12_sound_88 : decode cX12_sound 88 = .ok (.iaload, 1) := dq_46 (kX12_sound_2 24 rfl)
theorem dX12_sound_89 : decode cX12_sound 89 = .ok (.iconst 1, 1) := dq_4 (kX12_sound_2 25 rfl)
theorem dX12_sound_90 : decode cX12_sound 90 = .ok (.iadd, 1) := dq_96 (kX12_sound_2 26 rfl)
theorem dX12_sound_91 : decode cX12_sound 91 = .ok (.iastore, 1) := dq_79 (kX12_sound_2 27 rfl)
theorem dX12_sound_92 : decode cX12_sound 92 = .ok (.iconst 1, 1) := dq_4 (kX12_sound_2 28 rfl)
theorem dX12_sound_93 : decode cX12_sound 93 = .ok (.ireturn, 1) := dq_172 (kX12_sound_2 29 rfl)

def bX12_sureOf_0 : List UInt8 := [42, 180, 1, 27, 27, 46, 154, 0, 5, 3, 172, 19, 2, 151, 61, 19, 2, 126, 62, 19, 2, 126, 54, 4, 16, 8, 27, 104, 54, 5, 21, 5]
theorem kX12_sureOf_0 (j : Nat) {b : UInt8} (hj : bX12_sureOf_0[j]? = some b) : AtB cX12_sureOf (0 + j) b := at_of32 (by decide +kernel) j hj
def bX12_sureOf_1 : List UInt8 := [16, 8, 27, 104, 42, 180, 1, 27, 27, 46, 96, 162, 0, 85, 42, 180, 1, 30, 21, 5, 46, 42, 180, 1, 33, 21, 5, 46, 100, 54, 6, 42]
theorem kX12_sureOf_1 (j : Nat) {b : UInt8} (hj : bX12_sureOf_1[j]? = some b) : AtB cX12_sureOf (32 + j) b := at_of32 (by decide +kernel) j hj
def bX12_sureOf_2 : List UInt8 := [180, 1, 30, 21, 5, 46, 42, 180, 1, 33, 21, 5, 46, 96, 54, 7, 21, 6, 28, 164, 0, 8, 21, 6, 167, 0, 4, 28, 61, 21, 6, 29]
theorem kX12_sureOf_2 (j : Nat) {b : UInt8} (hj : bX12_sureOf_2[j]? = some b) : AtB cX12_sureOf (64 + j) b := at_of32 (by decide +kernel) j hj
def bX12_sureOf_3 : List UInt8 := [162, 0, 8, 21, 6, 167, 0, 4, 29, 62, 21, 7, 21, 4, 162, 0, 8, 21, 7, 167, 0, 5, 21, 4, 54, 4, 132, 5, 1, 167, 255, 161]
theorem kX12_sureOf_3 (j : Nat) {b : UInt8} (hj : bX12_sureOf_3[j]? = some b) : AtB cX12_sureOf (96 + j) b := at_of32 (by decide +kernel) j hj
def bX12_sureOf_4 : List UInt8 := [28, 21, 4, 163, 0, 7, 28, 167, 0, 4, 29, 54, 5, 21, 5, 156, 0, 7, 3, 167, 0, 5, 21, 5, 172]
theorem kX12_sureOf_4 (j : Nat) {b : UInt8} (hj : bX12_sureOf_4[j]? = some b) : AtB cX12_sureOf (128 + j) b := at_of32 (by decide +kernel) j hj
theorem dX12_sureOf_0 : decode cX12_sureOf 0 = .ok (.aload_n 0, 1) := dq_42 (kX12_sureOf_0 0 rfl)
theorem dX12_sureOf_1 : decode cX12_sureOf 1 = .ok (.getfield 283, 3) := dq_180 (kX12_sureOf_0 1 rfl) (kX12_sureOf_0 2 rfl) (kX12_sureOf_0 3 rfl) rfl
theorem dX12_sureOf_4 : decode cX12_sureOf 4 = .ok (.iload_n 1, 1) := dq_27 (kX12_sureOf_0 4 rfl)
theorem dX12_sureOf_5 : decode cX12_sureOf 5 = .ok (.iaload, 1) := dq_46 (kX12_sureOf_0 5 rfl)
theorem dX12_sureOf_6 : decode cX12_sureOf 6 = .ok (.ifCond .ne 5, 3) := dq_154 (kX12_sureOf_0 6 rfl) (kX12_sureOf_0 7 rfl) (kX12_sureOf_0 8 rfl) (by decide)
theorem dX12_sureOf_9 : decode cX12_sureOf 9 = .ok (.iconst 0, 1) := dq_3 (kX12_sureOf_0 9 rfl)
theorem dX12_sureOf_10 : decode cX12_sureOf 10 = .ok (.ireturn, 1) := dq_172 (kX12_sureOf_0 10 rfl)
theorem dX12_sureOf_11 : decode cX12_sureOf 11 = .ok (.ldc_w 663, 3) := dq_19 (kX12_sureOf_0 11 rfl) (kX12_sureOf_0 12 rfl) (kX12_sureOf_0 13 rfl) rfl
theorem dX12_sureOf_14 : decode cX12_sureOf 14 = .ok (.istore_n 2, 1) := dq_61 (kX12_sureOf_0 14 rfl)
theorem dX12_sureOf_15 : decode cX12_sureOf 15 = .ok (.ldc_w 638, 3) := dq_19 (kX12_sureOf_0 15 rfl) (kX12_sureOf_0 16 rfl) (kX12_sureOf_0 17 rfl) rfl
theorem dX12_sureOf_18 : decode cX12_sureOf 18 = .ok (.istore_n 3, 1) := dq_62 (kX12_sureOf_0 18 rfl)
theorem dX12_sureOf_19 : decode cX12_sureOf 19 = .ok (.ldc_w 638, 3) := dq_19 (kX12_sureOf_0 19 rfl) (kX12_sureOf_0 20 rfl) (kX12_sureOf_0 21 rfl) rfl
theorem dX12_sureOf_22 : decode cX12_sureOf 22 = .ok (.istore 4, 2) := dq_54 (kX12_sureOf_0 22 rfl) (kX12_sureOf_0 23 rfl) rfl
theorem dX12_sureOf_24 : decode cX12_sureOf 24 = .ok (.bipush 8, 2) := dq_16 (kX12_sureOf_0 24 rfl) (kX12_sureOf_0 25 rfl) (by decide)
theorem dX12_sureOf_26 : decode cX12_sureOf 26 = .ok (.iload_n 1, 1) := dq_27 (kX12_sureOf_0 26 rfl)
theorem dX12_sureOf_27 : decode cX12_sureOf 27 = .ok (.imul, 1) := dq_104 (kX12_sureOf_0 27 rfl)
theorem dX12_sureOf_28 : decode cX12_sureOf 28 = .ok (.istore 5, 2) := dq_54 (kX12_sureOf_0 28 rfl) (kX12_sureOf_0 29 rfl) rfl
theorem dX12_sureOf_30 : decode cX12_sureOf 30 = .ok (.iload 5, 2) := dq_21 (kX12_sureOf_0 30 rfl) (kX12_sureOf_0 31 rfl) rfl
theorem dX12_sureOf_32 : decode cX12_sureOf 32 = .ok (.bipush 8, 2) := dq_16 (kX12_sureOf_1 0 rfl) (kX12_sureOf_1 1 rfl) (by decide)
theorem dX12_sureOf_34 : decode cX12_sureOf 34 = .ok (.iload_n 1, 1) := dq_27 (kX12_sureOf_1 2 rfl)
theorem dX12_sureOf_35 : decode cX12_sureOf 35 = .ok (.imul, 1) := dq_104 (kX12_sureOf_1 3 rfl)
theorem dX12_sureOf_36 : decode cX12_sureOf 36 = .ok (.aload_n 0, 1) := dq_42 (kX12_sureOf_1 4 rfl)
theorem dX12_sureOf_37 : decode cX12_sureOf 37 = .ok (.getfield 283, 3) := dq_180 (kX12_sureOf_1 5 rfl) (kX12_sureOf_1 6 rfl) (kX12_sureOf_1 7 rfl) rfl
theorem dX12_sureOf_40 : decode cX12_sureOf 40 = .ok (.iload_n 1, 1) := dq_27 (kX12_sureOf_1 8 rfl)
theorem dX12_sureOf_41 : decode cX12_sureOf 41 = .ok (.iaload, 1) := dq_46 (kX12_sureOf_1 9 rfl)
theorem dX12_sureOf_42 : decode cX12_sureOf 42 = .ok (.iadd, 1) := dq_96 (kX12_sureOf_1 10 rfl)
theorem dX12_sureOf_43 : decode cX12_sureOf 43 = .ok (.if_icmp .ge 85, 3) := dq_162 (kX12_sureOf_1 11 rfl) (kX12_sureOf_1 12 rfl) (kX12_sureOf_1 13 rfl) (by decide)
theorem dX12_sureOf_46 : decode cX12_sureOf 46 = .ok (.aload_n 0, 1) := dq_42 (kX12_sureOf_1 14 rfl)
theorem dX12_sureOf_47 : decode cX12_sureOf 47 = .ok (.getfield 286, 3) := dq_180 (kX12_sureOf_1 15 rfl) (kX12_sureOf_1 16 rfl) (kX12_sureOf_1 17 rfl) rfl
theorem dX12_sureOf_50 : decode cX12_sureOf 50 = .ok (.iload 5, 2) := dq_21 (kX12_sureOf_1 18 rfl) (kX12_sureOf_1 19 rfl) rfl
theorem dX12_sureOf_52 : decode cX12_sureOf 52 = .ok (.iaload, 1) := dq_46 (kX12_sureOf_1 20 rfl)
theorem dX12_sureOf_53 : decode cX12_sureOf 53 = .ok (.aload_n 0, 1) := dq_42 (kX12_sureOf_1 21 rfl)
theorem dX12_sureOf_54 : decode cX12_sureOf 54 = .ok (.getfield 289, 3) := dq_180 (kX12_sureOf_1 22 rfl) (kX12_sureOf_1 23 rfl) (kX12_sureOf_1 24 rfl) rfl
theorem dX12_sureOf_57 : decode cX12_sureOf 57 = .ok (.iload 5, 2) := dq_21 (kX12_sureOf_1 25 rfl) (kX12_sureOf_1 26 rfl) rfl
theorem dX12_sureOf_59 : decode cX12_sureOf 59 = .ok (.iaload, 1) := dq_46 (kX12_sureOf_1 27 rfl)
theorem dX12_sureOf_60 : decode cX12_sureOf 60 = .ok (.isub, 1) := dq_100 (kX12_sureOf_1 28 rfl)
theorem dX12_sureOf_61 : decode cX12_sureOf 61 = .ok (.istore 6, 2) := dq_54 (kX12_sureOf_1 29 rfl) (kX12_sureOf_1 30 rfl) rfl
theorem dX12_sureOf_63 : decode cX12_sureOf 63 = .ok (.aload_n 0, 1) := dq_42 (kX12_sureOf_1 31 rfl)
theorem dX12_sureOf_64 : decode cX12_sureOf 64 = .ok (.getfield 286, 3) := dq_180 (kX12_sureOf_2 0 rfl) (kX12_sureOf_2 1 rfl) (kX12_sureOf_2 2 rfl) rfl
theorem dX12_sureOf_67 : decode cX12_sureOf 67 = .ok (.iload 5, 2) := dq_21 (kX12_sureOf_2 3 rfl) (kX12_sureOf_2 4 rfl) rfl
theorem dX12_sureOf_69 : decode cX12_sureOf 69 = .ok (.iaload, 1) := dq_46 (kX12_sureOf_2 5 rfl)
theorem dX12_sureOf_70 : decode cX12_sureOf 70 = .ok (.aload_n 0, 1) := dq_42 (kX12_sureOf_2 6 rfl)
theorem dX12_sureOf_71 : decode cX12_sureOf 71 = .ok (.getfield 289, 3) := dq_180 (kX12_sureOf_2 7 rfl) (kX12_sureOf_2 8 rfl) (kX12_sureOf_2 9 rfl) rfl
theorem dX12_sureOf_74 : decode cX12_sureOf 74 = .ok (.iload 5, 2) := dq_21 (kX12_sureOf_2 10 rfl) (kX12_sureOf_2 11 rfl) rfl
theorem dX12_sureOf_76 : decode cX12_sureOf 76 = .ok (.iaload, 1) := dq_46 (kX12_sureOf_2 12 rfl)
theorem dX12_sureOf_77 : decode cX12_sureOf 77 = .ok (.iadd, 1) := dq_96 (kX12_sureOf_2 13 rfl)
theorem dX12_sureOf_78 : decode cX12_sureOf 78 = .ok (.istore 7, 2) := dq_54 (kX12_sureOf_2 14 rfl) (kX12_sureOf_2 15 rfl) rfl
theorem dX12_sureOf_80 : decode cX12_sureOf 80 = .ok (.iload 6, 2) := dq_21 (kX12_sureOf_2 16 rfl) (kX12_sureOf_2 17 rfl) rfl
theorem dX12_sureOf_82 : decode cX12_sureOf 82 = .ok (.iload_n 2, 1) := dq_28 (kX12_sureOf_2 18 rfl)
theorem dX12_sureOf_83 : decode cX12_sureOf 83 = .ok (.if_icmp .le 8, 3) := dq_164 (kX12_sureOf_2 19 rfl) (kX12_sureOf_2 20 rfl) (kX12_sureOf_2 21 rfl) (by decide)
theorem dX12_sureOf_86 : decode cX12_sureOf 86 = .ok (.iload 6, 2) := dq_21 (kX12_sureOf_2 22 rfl) (kX12_sureOf_2 23 rfl) rfl
theorem dX12_sureOf_88 : decode cX12_sureOf 88 = .ok (.goto 4, 3) := dq_167 (kX12_sureOf_2 24 rfl) (kX12_sureOf_2 25 rfl) (kX12_sureOf_2 26 rfl) (by decide)
theorem dX12_sureOf_91 : decode cX12_sureOf 91 = .ok (.iload_n 2, 1) := dq_28 (kX12_sureOf_2 27 rfl)
theorem dX12_sureOf_92 : decode cX12_sureOf 92 = .ok (.istore_n 2, 1) := dq_61 (kX12_sureOf_2 28 rfl)
theorem dX12_sureOf_93 : decode cX12_sureOf 93 = .ok (.iload 6, 2) := dq_21 (kX12_sureOf_2 29 rfl) (kX12_sureOf_2 30 rfl) rfl
theorem dX12_sureOf_95 : decode cX12_sureOf 95 = .ok (.iload_n 3, 1) := dq_29 (kX12_sureOf_2 31 rfl)
theorem dX12_sureOf_96 : decode cX12_sureOf 96 = .ok (.if_icmp .ge 8, 3) := dq_162 (kX12_sureOf_3 0 rfl) (kX12_sureOf_3 1 rfl) (kX12_sureOf_3 2 rfl) (by decide)
theorem dX12_sureOf_99 : decode cX12_sureOf 99 = .ok (.iload 6, 2) := dq_21 (kX12_sureOf_3 3 rfl) (kX12_sureOf_3 4 rfl) rfl
theorem dX12_sureOf_101 : decode cX12_sureOf 101 = .ok (.goto 4, 3) := dq_167 (kX12_sureOf_3 5 rfl) (kX12_sureOf_3 6 rfl) (kX12_sureOf_3 7 rfl) (by decide)
theorem dX12_sureOf_104 : decode cX12_sureOf 104 = .ok (.iload_n 3, 1) := dq_29 (kX12_sureOf_3 8 rfl)
theorem dX12_sureOf_105 : decode cX12_sureOf 105 = .ok (.istore_n 3, 1) := dq_62 (kX12_sureOf_3 9 rfl)
theorem dX12_sureOf_106 : decode cX12_sureOf 106 = .ok (.iload 7, 2) := dq_21 (kX12_sureOf_3 10 rfl) (kX12_sureOf_3 11 rfl) rfl
theorem dX12_sureOf_108 : decode cX12_sureOf 108 = .ok (.iload 4, 2) := dq_21 (kX12_sureOf_3 12 rfl) (kX12_sureOf_3 13 rfl) rfl
theorem dX12_sureOf_110 : decode cX12_sureOf 110 = .ok (.if_icmp .ge 8, 3) := dq_162 (kX12_sureOf_3 14 rfl) (kX12_sureOf_3 15 rfl) (kX12_sureOf_3 16 rfl) (by decide)
theorem dX12_sureOf_113 : decode cX12_sureOf 113 = .ok (.iload 7, 2) := dq_21 (kX12_sureOf_3 17 rfl) (kX12_sureOf_3 18 rfl) rfl
theorem dX12_sureOf_115 : decode cX12_sureOf 115 = .ok (.goto 5, 3) := dq_167 (kX12_sureOf_3 19 rfl) (kX12_sureOf_3 20 rfl) (kX12_sureOf_3 21 rfl) (by decide)
theorem dX12_sureOf_118 : decode cX12_sureOf 118 = .ok (.iload 4, 2) := dq_21 (kX12_sureOf_3 22 rfl) (kX12_sureOf_3 23 rfl) rfl
theorem dX12_sureOf_120 : decode cX12_sureOf 120 = .ok (.istore 4, 2) := dq_54 (kX12_sureOf_3 24 rfl) (kX12_sureOf_3 25 rfl) rfl
theorem dX12_sureOf_122 : decode cX12_sureOf 122 = .ok (.iinc 5 1, 3) := dq_132 (kX12_sureOf_3 26 rfl) (kX12_sureOf_3 27 rfl) (kX12_sureOf_3 28 rfl) rfl (by decide)
theorem dX12_sureOf_125 : decode cX12_sureOf 125 = .ok (.goto (-95), 3) := dq_167 (kX12_sureOf_3 29 rfl) (kX12_sureOf_3 30 rfl) (kX12_sureOf_3 31 rfl) (by decide)
theorem dX12_sureOf_128 : decode cX12_sureOf 128 = .ok (.iload_n 2, 1) := dq_28 (kX12_sureOf_4 0 rfl)
theorem dX12_sureOf_129 : decode cX12_sureOf 129 = .ok (.iload 4, 2) := dq_21 (kX12_sureOf_4 1 rfl) (kX12_sureOf_4 2 rfl) rfl
theorem dX12_sureOf_131 : decode cX12_sureOf 131 = .ok (.if_icmp .gt 7, 3) := dq_163 (kX12_sureOf_4 3 rfl) (kX12_sureOf_4 4 rfl) (kX12_sureOf_4 5 rfl) (by decide)
theorem dX12_sureOf_134 : decode cX12_sureOf 134 = .ok (.iload_n 2, 1) := dq_28 (kX12_sureOf_4 6 rfl)
theorem dX12_sureOf_135 : decode cX12_sureOf 135 = .ok (.goto 4, 3) := dq_167 (kX12_sureOf_4 7 rfl) (kX12_sureOf_4 8 rfl) (kX12_sureOf_4 9 rfl) (by decide)
theorem dX12_sureOf_138 : decode cX12_sureOf 138 = .ok (.iload_n 3, 1) := dq_29 (kX12_sureOf_4 10 rfl)
theorem dX12_sureOf_139 : decode cX12_sureOf 139 = .ok (.istore 5, 2) := dq_54 (kX12_sureOf_4 11 rfl) (kX12_sureOf_4 12 rfl) rfl
theorem dX12_sureOf_141 : decode cX12_sureOf 141 = .ok (.iload 5, 2) := dq_21 (kX12_sureOf_4 13 rfl) (kX12_sureOf_4 14 rfl) rfl
theorem dX12_sureOf_143 : decode cX12_sureOf 143 = .ok (.ifCond .ge 7, 3) := dq_156 (kX12_sureOf_4 15 rfl) (kX12_sureOf_4 16 rfl) (kX12_sureOf_4 17 rfl) (by decide)
theorem dX12_sureOf_146 : decode cX12_sureOf 146 = .ok (.iconst 0, 1) := dq_3 (kX12_sureOf_4 18 rfl)
theorem dX12_sureOf_147 : decode cX12_sureOf 147 = .ok (.goto 5, 3) := dq_167 (kX12_sureOf_4 19 rfl) (kX12_sureOf_4 20 rfl) (kX12_sureOf_4 21 rfl) (by decide)
theorem dX12_sureOf_150 : decode cX12_sureOf 150 = .ok (.iload 5, 2) := dq_21 (kX12_sureOf_4 22 rfl) (kX12_sureOf_4 23 rfl) rfl
theorem dX12_sureOf_152 : decode cX12_sureOf 152 = .ok (.ireturn, 1) := dq_172 (kX12_sureOf_4 24 rfl)

def bX12_sure_0 : List UInt8 := [42, 27, 7, 182, 1, 143, 153, 0, 11, 42, 27, 182, 2, 191, 167, 0, 4, 2, 172]
theorem kX12_sure_0 (j : Nat) {b : UInt8} (hj : bX12_sure_0[j]? = some b) : AtB cX12_sure (0 + j) b := at_of32 (by decide +kernel) j hj
theorem dX12_sure_0 : decode cX12_sure 0 = .ok (.aload_n 0, 1) := dq_42 (kX12_sure_0 0 rfl)
theorem dX12_sure_1 : decode cX12_sure 1 = .ok (.iload_n 1, 1) := dq_27 (kX12_sure_0 1 rfl)
theorem dX12_sure_2 : decode cX12_sure 2 = .ok (.iconst 4, 1) := dq_7 (kX12_sure_0 2 rfl)
theorem dX12_sure_3 : decode cX12_sure 3 = .ok (.invokevirtual 399, 3) := dq_182 (kX12_sure_0 3 rfl) (kX12_sure_0 4 rfl) (kX12_sure_0 5 rfl) rfl
theorem dX12_sure_6 : decode cX12_sure 6 = .ok (.ifCond .eq 11, 3) := dq_153 (kX12_sure_0 6 rfl) (kX12_sure_0 7 rfl) (kX12_sure_0 8 rfl) (by decide)
theorem dX12_sure_9 : decode cX12_sure 9 = .ok (.aload_n 0, 1) := dq_42 (kX12_sure_0 9 rfl)
theorem dX12_sure_10 : decode cX12_sure 10 = .ok (.iload_n 1, 1) := dq_27 (kX12_sure_0 10 rfl)
theorem dX12_sure_11 : decode cX12_sure 11 = .ok (.invokevirtual 703, 3) := dq_182 (kX12_sure_0 11 rfl) (kX12_sure_0 12 rfl) (kX12_sure_0 13 rfl) rfl
theorem dX12_sure_14 : decode cX12_sure 14 = .ok (.goto 4, 3) := dq_167 (kX12_sure_0 14 rfl) (kX12_sure_0 15 rfl) (kX12_sure_0 16 rfl) (by decide)
theorem dX12_sure_17 : decode cX12_sure 17 = .ok (.iconst (-1), 1) := dq_2 (kX12_sure_0 17 rfl)
theorem dX12_sure_18 : decode cX12_sure 18 = .ok (.ireturn, 1) := dq_172 (kX12_sure_0 18 rfl)

def bX12_drill_0 : List UInt8 := [42, 27, 7, 182, 1, 143, 153, 0, 45, 42, 28, 182, 2, 54, 153, 0, 37, 42, 180, 0, 163, 28, 46, 5, 160, 0, 27, 42, 180, 0, 169, 28]
theorem kX12_drill_0 (j : Nat) {b : UInt8} (hj : bX12_drill_0[j]? = some b) : AtB cX12_drill (0 + j) b := at_of32 (by decide +kernel) j hj
def bX12_drill_1 : List UInt8 := [46, 42, 180, 0, 41, 27, 46, 160, 0, 12, 42, 180, 2, 155, 16, 10, 160, 0, 5, 2, 172, 42, 180, 1, 36, 42, 180, 2, 155, 27, 79, 42]
theorem kX12_drill_1 (j : Nat) {b : UInt8} (hj : bX12_drill_1[j]? = some b) : AtB cX12_drill (32 + j) b := at_of32 (by decide +kernel) j hj
def bX12_drill_2 : List UInt8 := [180, 1, 39, 42, 180, 2, 155, 28, 79, 42, 42, 180, 2, 155, 4, 96, 181, 2, 155, 42, 180, 2, 155, 4, 100, 172]
theorem kX12_drill_2 (j : Nat) {b : UInt8} (hj : bX12_drill_2[j]? = some b) : AtB cX12_drill (64 + j) b := at_of32 (by decide +kernel) j hj
theorem dX12_drill_0 : decode cX12_drill 0 = .ok (.aload_n 0, 1) := dq_42 (kX12_drill_0 0 rfl)
theorem dX12_drill_1 : decode cX12_drill 1 = .ok (.iload_n 1, 1) := dq_27 (kX12_drill_0 1 rfl)
theorem dX12_drill_2 : decode cX12_drill 2 = .ok (.iconst 4, 1) := dq_7 (kX12_drill_0 2 rfl)
theorem dX12_drill_3 : decode cX12_drill 3 = .ok (.invokevirtual 399, 3) := dq_182 (kX12_drill_0 3 rfl) (kX12_drill_0 4 rfl) (kX12_drill_0 5 rfl) rfl
theorem dX12_drill_6 : decode cX12_drill 6 = .ok (.ifCond .eq 45, 3) := dq_153 (kX12_drill_0 6 rfl) (kX12_drill_0 7 rfl) (kX12_drill_0 8 rfl) (by decide)
theorem dX12_drill_9 : decode cX12_drill 9 = .ok (.aload_n 0, 1) := dq_42 (kX12_drill_0 9 rfl)
theorem dX12_drill_10 : decode cX12_drill 10 = .ok (.iload_n 2, 1) := dq_28 (kX12_drill_0 10 rfl)
theorem dX12_drill_11 : decode cX12_drill 11 = .ok (.invokevirtual 566, 3) := dq_182 (kX12_drill_0 11 rfl) (kX12_drill_0 12 rfl) (kX12_drill_0 13 rfl) rfl
theorem dX12_drill_14 : decode cX12_drill 14 = .ok (.ifCond .eq 37, 3) := dq_153 (kX12_drill_0 14 rfl) (kX12_drill_0 15 rfl) (kX12_drill_0 16 rfl) (by decide)
theorem dX12_drill_17 : decode cX12_drill 17 = .ok (.aload_n 0, 1) := dq_42 (kX12_drill_0 17 rfl)
theorem dX12_drill_18 : decode cX12_drill 18 = .ok (.getfield 163, 3) := dq_180 (kX12_drill_0 18 rfl) (kX12_drill_0 19 rfl) (kX12_drill_0 20 rfl) rfl
theorem dX12_drill_21 : decode cX12_drill 21 = .ok (.iload_n 2, 1) := dq_28 (kX12_drill_0 21 rfl)
theorem dX12_drill_22 : decode cX12_drill 22 = .ok (.iaload, 1) := dq_46 (kX12_drill_0 22 rfl)
theorem dX12_drill_23 : decode cX12_drill 23 = .ok (.iconst 2, 1) := dq_5 (kX12_drill_0 23 rfl)
theorem dX12_drill_24 : decode cX12_drill 24 = .ok (.if_icmp .ne 27, 3) := dq_160 (kX12_drill_0 24 rfl) (kX12_drill_0 25 rfl) (kX12_drill_0 26 rfl) (by decide)
theorem dX12_drill_27 : decode cX12_drill 27 = .ok (.aload_n 0, 1) := dq_42 (kX12_drill_0 27 rfl)
theorem dX12_drill_28 : decode cX12_drill 28 = .ok (.getfield 169, 3) := dq_180 (kX12_drill_0 28 rfl) (kX12_drill_0 29 rfl) (kX12_drill_0 30 rfl) rfl
theorem dX12_drill_31 : decode cX12_drill 31 = .ok (.iload_n 2, 1) := dq_28 (kX12_drill_0 31 rfl)
theorem dX12_drill_32 : decode cX12_drill 32 = .ok (.iaload, 1) := dq_46 (kX12_drill_1 0 rfl)
theorem dX12_drill_33 : decode cX12_drill 33 = .ok (.aload_n 0, 1) := dq_42 (kX12_drill_1 1 rfl)
theorem dX12_drill_34 : decode cX12_drill 34 = .ok (.getfield 41, 3) := dq_180 (kX12_drill_1 2 rfl) (kX12_drill_1 3 rfl) (kX12_drill_1 4 rfl) rfl
theorem dX12_drill_37 : decode cX12_drill 37 = .ok (.iload_n 1, 1) := dq_27 (kX12_drill_1 5 rfl)
theorem dX12_drill_38 : decode cX12_drill 38 = .ok (.iaload, 1) := dq_46 (kX12_drill_1 6 rfl)
theorem dX12_drill_39 : decode cX12_drill 39 = .ok (.if_icmp .ne 12, 3) := dq_160 (kX12_drill_1 7 rfl) (kX12_drill_1 8 rfl) (kX12_drill_1 9 rfl) (by decide)
theorem dX12_drill_42 : decode cX12_drill 42 = .ok (.aload_n 0, 1) := dq_42 (kX12_drill_1 10 rfl)
theorem dX12_drill_43 : decode cX12_drill 43 = .ok (.getfield 667, 3) := dq_180 (kX12_drill_1 11 rfl) (kX12_drill_1 12 rfl) (kX12_drill_1 13 rfl) rfl
theorem dX12_drill_46 : decode cX12_drill 46 = .ok (.bipush 10, 2) := dq_16 (kX12_drill_1 14 rfl) (kX12_drill_1 15 rfl) (by decide)
theorem dX12_drill_48 : decode cX12_drill 48 = .ok (.if_icmp .ne 5, 3) := dq_160 (kX12_drill_1 16 rfl) (kX12_drill_1 17 rfl) (kX12_drill_1 18 rfl) (by decide)
theorem dX12_drill_51 : decode cX12_drill 51 = .ok (.iconst (-1), 1) := dq_2 (kX12_drill_1 19 rfl)
theorem dX12_drill_52 : decode cX12_drill 52 = .ok (.ireturn, 1) := dq_172 (kX12_drill_1 20 rfl)
theorem dX12_drill_53 : decode cX12_drill 53 = .ok (.aload_n 0, 1) := dq_42 (kX12_drill_1 21 rfl)
theorem dX12_drill_54 : decode cX12_drill 54 = .ok (.getfield 292, 3) := dq_180 (kX12_drill_1 22 rfl) (kX12_drill_1 23 rfl) (kX12_drill_1 24 rfl) rfl
theorem dX12_drill_57 : decode cX12_drill 57 = .ok (.aload_n 0, 1) := dq_42 (kX12_drill_1 25 rfl)
theorem dX12_drill_58 : decode cX12_drill 58 = .ok (.getfield 667, 3) := dq_180 (kX12_drill_1 26 rfl) (kX12_drill_1 27 rfl) (kX12_drill_1 28 rfl) rfl
theorem dX12_drill_61 : decode cX12_drill 61 = .ok (.iload_n 1, 1) := dq_27 (kX12_drill_1 29 rfl)
theorem dX12_drill_62 : decode cX12_drill 62 = .ok (.iastore, 1) := dq_79 (kX12_drill_1 30 rfl)
theorem dX12_drill_63 : decode cX12_drill 63 = .ok (.aload_n 0, 1) := dq_42 (kX12_drill_1 31 rfl)
theorem dX12_drill_64 : decode cX12_drill 64 = .ok (.getfield 295, 3) := dq_180 (kX12_drill_2 0 rfl) (kX12_drill_2 1 rfl) (kX12_drill_2 2 rfl) rfl
theorem dX12_drill_67 : decode cX12_drill 67 = .ok (.aload_n 0, 1) := dq_42 (kX12_drill_2 3 rfl)
theorem dX12_drill_68 : decode cX12_drill 68 = .ok (.getfield 667, 3) := dq_180 (kX12_drill_2 4 rfl) (kX12_drill_2 5 rfl) (kX12_drill_2 6 rfl) rfl
theorem dX12_drill_71 : decode cX12_drill 71 = .ok (.iload_n 2, 1) := dq_28 (kX12_drill_2 7 rfl)
theorem dX12_drill_72 : decode cX12_drill 72 = .ok (.iastore, 1) := dq_79 (kX12_drill_2 8 rfl)
theorem dX12_drill_73 : decode cX12_drill 73 = .ok (.aload_n 0, 1) := dq_42 (kX12_drill_2 9 rfl)
theorem dX12_drill_74 : decode cX12_drill 74 = .ok (.aload_n 0, 1) := dq_42 (kX12_drill_2 10 rfl)
theorem dX12_drill_75 : decode cX12_drill 75 = .ok (.getfield 667, 3) := dq_180 (kX12_drill_2 11 rfl) (kX12_drill_2 12 rfl) (kX12_drill_2 13 rfl) rfl
theorem dX12_drill_78 : decode cX12_drill 78 = .ok (.iconst 1, 1) := dq_4 (kX12_drill_2 14 rfl)
theorem dX12_drill_79 : decode cX12_drill 79 = .ok (.iadd, 1) := dq_96 (kX12_drill_2 15 rfl)
theorem dX12_drill_80 : decode cX12_drill 80 = .ok (.putfield 667, 3) := dq_181 (kX12_drill_2 16 rfl) (kX12_drill_2 17 rfl) (kX12_drill_2 18 rfl) rfl
theorem dX12_drill_83 : decode cX12_drill 83 = .ok (.aload_n 0, 1) := dq_42 (kX12_drill_2 19 rfl)
theorem dX12_drill_84 : decode cX12_drill 84 = .ok (.getfield 667, 3) := dq_180 (kX12_drill_2 20 rfl) (kX12_drill_2 21 rfl) (kX12_drill_2 22 rfl) rfl
theorem dX12_drill_87 : decode cX12_drill 87 = .ok (.iconst 1, 1) := dq_4 (kX12_drill_2 23 rfl)
theorem dX12_drill_88 : decode cX12_drill 88 = .ok (.isub, 1) := dq_100 (kX12_drill_2 24 rfl)
theorem dX12_drill_89 : decode cX12_drill 89 = .ok (.ireturn, 1) := dq_172 (kX12_drill_2 25 rfl)

def bX12_speed_0 : List UInt8 := [27, 2, 160, 0, 21, 28, 3, 17, 3, 232, 184, 1, 115, 153, 0, 10, 42, 28, 181, 1, 24, 4, 172, 27, 3, 16, 9, 184, 1, 115, 153, 0]
theorem kX12_speed_0 (j : Nat) {b : UInt8} (hj : bX12_speed_0[j]? = some b) : AtB cX12_speed (0 + j) b := at_of32 (by decide +kernel) j hj
def bX12_speed_1 : List UInt8 := [14, 28, 4, 17, 0, 200, 184, 1, 115, 154, 0, 5, 3, 172, 42, 180, 1, 45, 27, 28, 79, 4, 172]
theorem kX12_speed_1 (j : Nat) {b : UInt8} (hj : bX12_speed_1[j]? = some b) : AtB cX12_speed (32 + j) b := at_of32 (by decide +kernel) j hj
theorem dX12_speed_0 : decode cX12_speed 0 = .ok (.iload_n 1, 1) := dq_27 (kX12_speed_0 0 rfl)
theorem dX12_speed_1 : decode cX12_speed 1 = .ok (.iconst (-1), 1) := dq_2 (kX12_speed_0 1 rfl)
theorem dX12_speed_2 : decode cX12_speed 2 = .ok (.if_icmp .ne 21, 3) := dq_160 (kX12_speed_0 2 rfl) (kX12_speed_0 3 rfl) (kX12_speed_0 4 rfl) (by decide)
theorem dX12_speed_5 : decode cX12_speed 5 = .ok (.iload_n 2, 1) := dq_28 (kX12_speed_0 5 rfl)
theorem dX12_speed_6 : decode cX12_speed 6 = .ok (.iconst 0, 1) := dq_3 (kX12_speed_0 6 rfl)
theorem dX12_speed_7 : decode cX12_speed 7 = .ok (.sipush 1000, 3) := dq_17 (kX12_speed_0 7 rfl) (kX12_speed_0 8 rfl) (kX12_speed_0 9 rfl) (by decide)
theorem dX12_speed_10 : decode cX12_speed 10 = .ok (.invokestatic 371, 3) := dq_184 (kX12_speed_0 10 rfl) (kX12_speed_0 11 rfl) (kX12_speed_0 12 rfl) rfl
theorem dX12_speed_13 : decode cX12_speed 13 = .ok (.ifCond .eq 10, 3) := dq_153 (kX12_speed_0 13 rfl) (kX12_speed_0 14 rfl) (kX12_speed_0 15 rfl) (by decide)
theorem dX12_speed_16 : decode cX12_speed 16 = .ok (.aload_n 0, 1) := dq_42 (kX12_speed_0 16 rfl)
theorem dX12_speed_17 : decode cX12_speed 17 = .ok (.iload_n 2, 1) := dq_28 (kX12_speed_0 17 rfl)
theorem dX12_speed_18 : decode cX12_speed 18 = .ok (.putfield 280, 3) := dq_181 (kX12_speed_0 18 rfl) (kX12_speed_0 19 rfl) (kX12_speed_0 20 rfl) rfl
theorem dX12_speed_21 : decode cX12_speed 21 = .ok (.iconst 1, 1) := dq_4 (kX12_speed_0 21 rfl)
theorem dX12_speed_22 : decode cX12_speed 22 = .ok (.ireturn, 1) := dq_172 (kX12_speed_0 22 rfl)
theorem dX12_speed_23 : decode cX12_speed 23 = .ok (.iload_n 1, 1) := dq_27 (kX12_speed_0 23 rfl)
theorem dX12_speed_24 : decode cX12_speed 24 = .ok (.iconst 0, 1) := dq_3 (kX12_speed_0 24 rfl)
theorem dX12_speed_25 : decode cX12_speed 25 = .ok (.bipush 9, 2) := dq_16 (kX12_speed_0 25 rfl) (kX12_speed_0 26 rfl) (by decide)
theorem dX12_speed_27 : decode cX12_speed 27 = .ok (.invokestatic 371, 3) := dq_184 (kX12_speed_0 27 rfl) (kX12_speed_0 28 rfl) (kX12_speed_0 29 rfl) rfl
theorem dX12_speed_30 : decode cX12_speed 30 = .ok (.ifCond .eq 14, 3) := dq_153 (kX12_speed_0 30 rfl) (kX12_speed_0 31 rfl) (kX12_speed_1 0 rfl) (by decide)
theorem dX12_speed_33 : decode cX12_speed 33 = .ok (.iload_n 2, 1) := dq_28 (kX12_speed_1 1 rfl)
theorem dX12_speed_34 : decode cX12_speed 34 = .ok (.iconst 1, 1) := dq_4 (kX12_speed_1 2 rfl)
theorem dX12_speed_35 : decode cX12_speed 35 = .ok (.sipush 200, 3) := dq_17 (kX12_speed_1 3 rfl) (kX12_speed_1 4 rfl) (kX12_speed_1 5 rfl) (by decide)
theorem dX12_speed_38 : decode cX12_speed 38 = .ok (.invokestatic 371, 3) := dq_184 (kX12_speed_1 6 rfl) (kX12_speed_1 7 rfl) (kX12_speed_1 8 rfl) rfl
theorem dX12_speed_41 : decode cX12_speed 41 = .ok (.ifCond .ne 5, 3) := dq_154 (kX12_speed_1 9 rfl) (kX12_speed_1 10 rfl) (kX12_speed_1 11 rfl) (by decide)
theorem dX12_speed_44 : decode cX12_speed 44 = .ok (.iconst 0, 1) := dq_3 (kX12_speed_1 12 rfl)
theorem dX12_speed_45 : decode cX12_speed 45 = .ok (.ireturn, 1) := dq_172 (kX12_speed_1 13 rfl)
theorem dX12_speed_46 : decode cX12_speed 46 = .ok (.aload_n 0, 1) := dq_42 (kX12_speed_1 14 rfl)
theorem dX12_speed_47 : decode cX12_speed 47 = .ok (.getfield 301, 3) := dq_180 (kX12_speed_1 15 rfl) (kX12_speed_1 16 rfl) (kX12_speed_1 17 rfl) rfl
theorem dX12_speed_50 : decode cX12_speed 50 = .ok (.iload_n 1, 1) := dq_27 (kX12_speed_1 18 rfl)
theorem dX12_speed_51 : decode cX12_speed 51 = .ok (.iload_n 2, 1) := dq_28 (kX12_speed_1 19 rfl)
theorem dX12_speed_52 : decode cX12_speed 52 = .ok (.iastore, 1) := dq_79 (kX12_speed_1 20 rfl)
theorem dX12_speed_53 : decode cX12_speed 53 = .ok (.iconst 1, 1) := dq_4 (kX12_speed_1 21 rfl)
theorem dX12_speed_54 : decode cX12_speed 54 = .ok (.ireturn, 1) := dq_172 (kX12_speed_1 22 rfl)

def bX12_goesDown_0 : List UInt8 := [42, 180, 1, 42, 27, 46, 17, 1, 244, 108, 16, 9, 164, 0, 8, 16, 9, 167, 0, 13, 42, 180, 1, 42, 27, 46, 17, 1, 244, 108, 61, 42]
theorem kX12_goesDown_0 (j : Nat) {b : UInt8} (hj : bX12_goesDown_0[j]? = some b) : AtB cX12_goesDown (0 + j) b := at_of32 (by decide +kernel) j hj
def bX12_goesDown_1 : List UInt8 := [180, 1, 42, 27, 46, 42, 180, 1, 45, 28, 46, 96, 62, 42, 42, 180, 1, 36, 27, 46, 182, 2, 191, 42, 180, 1, 24, 100, 54, 4, 29, 21]
theorem kX12_goesDown_1 (j : Nat) {b : UInt8} (hj : bX12_goesDown_1[j]? = some b) : AtB cX12_goesDown (32 + j) b := at_of32 (by decide +kernel) j hj
def bX12_goesDown_2 : List UInt8 := [4, 162, 0, 7, 29, 167, 0, 5, 21, 4, 62, 42, 180, 1, 42, 27, 29, 42, 180, 1, 42, 27, 46, 164, 0, 7, 29, 167, 0, 9, 42, 180]
theorem kX12_goesDown_2 (j : Nat) {b : UInt8} (hj : bX12_goesDown_2[j]? = some b) : AtB cX12_goesDown (64 + j) b := at_of32 (by decide +kernel) j hj
def bX12_goesDown_3 : List UInt8 := [1, 42, 27, 46, 79, 177]
theorem kX12_goesDown_3 (j : Nat) {b : UInt8} (hj : bX12_goesDown_3[j]? = some b) : AtB cX12_goesDown (96 + j) b := at_of32 (by decide +kernel) j hj
theorem dX12_goesDown_0 : decode cX12_goesDown 0 = .ok (.aload_n 0, 1) := dq_42 (kX12_goesDown_0 0 rfl)
theorem dX12_goesDown_1 : decode cX12_goesDown 1 = .ok (.getfield 298, 3) := dq_180 (kX12_goesDown_0 1 rfl) (kX12_goesDown_0 2 rfl) (kX12_goesDown_0 3 rfl) rfl
theorem dX12_goesDown_4 : decode cX12_goesDown 4 = .ok (.iload_n 1, 1) := dq_27 (kX12_goesDown_0 4 rfl)
theorem dX12_goesDown_5 : decode cX12_goesDown 5 = .ok (.iaload, 1) := dq_46 (kX12_goesDown_0 5 rfl)
theorem dX12_goesDown_6 : decode cX12_goesDown 6 = .ok (.sipush 500, 3) := dq_17 (kX12_goesDown_0 6 rfl) (kX12_goesDown_0 7 rfl) (kX12_goesDown_0 8 rfl) (by decide)
theorem dX12_goesDown_9 : decode cX12_goesDown 9 = .ok (.idiv, 1) := dq_108 (kX12_goesDown_0 9 rfl)
theorem dX12_goesDown_10 : decode cX12_goesDown 10 = .ok (.bipush 9, 2) := dq_16 (kX12_goesDown_0 10 rfl) (kX12_goesDown_0 11 rfl) (by decide)
theorem dX12_goesDown_12 : decode cX12_goesDown 12 = .ok (.if_icmp .le 8, 3) := dq_164 (kX12_goesDown_0 12 rfl) (kX12_goesDown_0 13 rfl) (kX12_goesDown_0 14 rfl) (by decide)
theorem dX12_goesDown_15 : decode cX12_goesDown 15 = .ok (.bipush 9, 2) := dq_16 (kX12_goesDown_0 15 rfl) (kX12_goesDown_0 16 rfl) (by decide)
theorem dX12_goesDown_17 : decode cX12_goesDown 17 = .ok (.goto 13, 3) := dq_167 (kX12_goesDown_0 17 rfl) (kX12_goesDown_0 18 rfl) (kX12_goesDown_0 19 rfl) (by decide)
theorem dX12_goesDown_20 : decode cX12_goesDown 20 = .ok (.aload_n 0, 1) := dq_42 (kX12_goesDown_0 20 rfl)
theorem dX12_goesDown_21 : decode cX12_goesDown 21 = .ok (.getfield 298, 3) := dq_180 (kX12_goesDown_0 21 rfl) (kX12_goesDown_0 22 rfl) (kX12_goesDown_0 23 rfl) rfl
theorem dX12_goesDown_24 : decode cX12_goesDown 24 = .ok (.iload_n 1, 1) := dq_27 (kX12_goesDown_0 24 rfl)
theorem dX12_goesDown_25 : decode cX12_goesDown 25 = .ok (.iaload, 1) := dq_46 (kX12_goesDown_0 25 rfl)
theorem dX12_goesDown_26 : decode cX12_goesDown 26 = .ok (.sipush 500, 3) := dq_17 (kX12_goesDown_0 26 rfl) (kX12_goesDown_0 27 rfl) (kX12_goesDown_0 28 rfl) (by decide)
theorem dX12_goesDown_29 : decode cX12_goesDown 29 = .ok (.idiv, 1) := dq_108 (kX12_goesDown_0 29 rfl)
theorem dX12_goesDown_30 : decode cX12_goesDown 30 = .ok (.istore_n 2, 1) := dq_61 (kX12_goesDown_0 30 rfl)
theorem dX12_goesDown_31 : decode cX12_goesDown 31 = .ok (.aload_n 0, 1) := dq_42 (kX12_goesDown_0 31 rfl)
theorem dX12_goesDown_32 : decode cX12_goesDown 32 = .ok (.getfield 298, 3) := dq_180 (kX12_goesDown_1 0 rfl) (kX12_goesDown_1 1 rfl) (kX12_goesDown_1 2 rfl) rfl
theorem dX12_goesDown_35 : decode cX12_goesDown 35 = .ok (.iload_n 1, 1) := dq_27 (kX12_goesDown_1 3 rfl)
theorem dX12_goesDown_36 : decode cX12_goesDown 36 = .ok (.iaload, 1) := dq_46 (kX12_goesDown_1 4 rfl)
theorem dX12_goesDown_37 : decode cX12_goesDown 37 = .ok (.aload_n 0, 1) := dq_42 (kX12_goesDown_1 5 rfl)
theorem dX12_goesDown_38 : decode cX12_goesDown 38 = .ok (.getfield 301, 3) := dq_180 (kX12_goesDown_1 6 rfl) (kX12_goesDown_1 7 rfl) (kX12_goesDown_1 8 rfl) rfl
theorem dX12_goesDown_41 : decode cX12_goesDown 41 = .ok (.iload_n 2, 1) := dq_28 (kX12_goesDown_1 9 rfl)
theorem dX12_goesDown_42 : decode cX12_goesDown 42 = .ok (.iaload, 1) := dq_46 (kX12_goesDown_1 10 rfl)
theorem dX12_goesDown_43 : decode cX12_goesDown 43 = .ok (.iadd, 1) := dq_96 (kX12_goesDown_1 11 rfl)
theorem dX12_goesDown_44 : decode cX12_goesDown 44 = .ok (.istore_n 3, 1) := dq_62 (kX12_goesDown_1 12 rfl)
theorem dX12_goesDown_45 : decode cX12_goesDown 45 = .ok (.aload_n 0, 1) := dq_42 (kX12_goesDown_1 13 rfl)
theorem dX12_goesDown_46 : decode cX12_goesDown 46 = .ok (.aload_n 0, 1) := dq_42 (kX12_goesDown_1 14 rfl)
theorem dX12_goesDown_47 : decode cX12_goesDown 47 = .ok (.getfield 292, 3) := dq_180 (kX12_goesDown_1 15 rfl) (kX12_goesDown_1 16 rfl) (kX12_goesDown_1 17 rfl) rfl
theorem dX12_goesDown_50 : decode cX12_goesDown 50 = .ok (.iload_n 1, 1) := dq_27 (kX12_goesDown_1 18 rfl)
theorem dX12_goesDown_51 : decode cX12_goesDown 51 = .ok (.iaload, 1) := dq_46 (kX12_goesDown_1 19 rfl)
theorem dX12_goesDown_52 : decode cX12_goesDown 52 = .ok (.invokevirtual 703, 3) := dq_182 (kX12_goesDown_1 20 rfl) (kX12_goesDown_1 21 rfl) (kX12_goesDown_1 22 rfl) rfl
theorem dX12_goesDown_55 : decode cX12_goesDown 55 = .ok (.aload_n 0, 1) := dq_42 (kX12_goesDown_1 23 rfl)
theorem dX12_goesDown_56 : decode cX12_goesDown 56 = .ok (.getfield 280, 3) := dq_180 (kX12_goesDown_1 24 rfl) (kX12_goesDown_1 25 rfl) (kX12_goesDown_1 26 rfl) rfl
theorem dX12_goesDown_59 : decode cX12_goesDown 59 = .ok (.isub, 1) := dq_100 (kX12_goesDown_1 27 rfl)
theorem dX12_goesDown_60 : decode cX12_goesDown 60 = .ok (.istore 4, 2) := dq_54 (kX12_goesDown_1 28 rfl) (kX12_goesDown_1 29 rfl) rfl
theorem dX12_goesDown_62 : decode cX12_goesDown 62 = .ok (.iload_n 3, 1) := dq_29 (kX12_goesDown_1 30 rfl)
theorem dX12_goesDown_63 : decode cX12_goesDown 63 = .ok (.iload 4, 2) := dq_21 (kX12_goesDown_1 31 rfl) (kX12_goesDown_2 0 rfl) rfl
theorem dX12_goesDown_65 : decode cX12_goesDown 65 = .ok (.if_icmp .ge 7, 3) := dq_162 (kX12_goesDown_2 1 rfl) (kX12_goesDown_2 2 rfl) (kX12_goesDown_2 3 rfl) (by decide)
theorem dX12_goesDown_68 : decode cX12_goesDown 68 = .ok (.iload_n 3, 1) := dq_29 (kX12_goesDown_2 4 rfl)
theorem dX12_goesDown_69 : decode cX12_goesDown 69 = .ok (.goto 5, 3) := dq_167 (kX12_goesDown_2 5 rfl) (kX12_goesDown_2 6 rfl) (kX12_goesDown_2 7 rfl) (by decide)
theorem dX12_goesDown_72 : decode cX12_goesDown 72 = .ok (.iload 4, 2) := dq_21 (kX12_goesDown_2 8 rfl) (kX12_goesDown_2 9 rfl) rfl
theorem dX12_goesDown_74 : decode cX12_goesDown 74 = .ok (.istore_n 3, 1) := dq_62 (kX12_goesDown_2 10 rfl)
theorem dX12_goesDown_75 : decode cX12_goesDown 75 = .ok (.aload_n 0, 1) := dq_42 (kX12_goesDown_2 11 rfl)
theorem dX12_goesDown_76 : decode cX12_goesDown 76 = .ok (.getfield 298, 3) := dq_180 (kX12_goesDown_2 12 rfl) (kX12_goesDown_2 13 rfl) (kX12_goesDown_2 14 rfl) rfl
theorem dX12_goesDown_79 : decode cX12_goesDown 79 = .ok (.iload_n 1, 1) := dq_27 (kX12_goesDown_2 15 rfl)
theorem dX12_goesDown_80 : decode cX12_goesDown 80 = .ok (.iload_n 3, 1) := dq_29 (kX12_goesDown_2 16 rfl)
theorem dX12_goesDown_81 : decode cX12_goesDown 81 = .ok (.aload_n 0, 1) := dq_42 (kX12_goesDown_2 17 rfl)
theorem dX12_goesDown_82 : decode cX12_goesDown 82 = .ok (.getfield 298, 3) := dq_180 (kX12_goesDown_2 18 rfl) (kX12_goesDown_2 19 rfl) (kX12_goesDown_2 20 rfl) rfl
theorem dX12_goesDown_85 : decode cX12_goesDown 85 = .ok (.iload_n 1, 1) := dq_27 (kX12_goesDown_2 21 rfl)
theorem dX12_goesDown_86 : decode cX12_goesDown 86 = .ok (.iaload, 1) := dq_46 (kX12_goesDown_2 22 rfl)
theorem dX12_goesDown_87 : decode cX12_goesDown 87 = .ok (.if_icmp .le 7, 3) := dq_164 (kX12_goesDown_2 23 rfl) (kX12_goesDown_2 24 rfl) (kX12_goesDown_2 25 rfl) (by decide)
theorem dX12_goesDown_90 : decode cX12_goesDown 90 = .ok (.iload_n 3, 1) := dq_29 (kX12_goesDown_2 26 rfl)
theorem dX12_goesDown_91 : decode cX12_goesDown 91 = .ok (.goto 9, 3) := dq_167 (kX12_goesDown_2 27 rfl) (kX12_goesDown_2 28 rfl) (kX12_goesDown_2 29 rfl) (by decide)
theorem dX12_goesDown_94 : decode cX12_goesDown 94 = .ok (.aload_n 0, 1) := dq_42 (kX12_goesDown_2 30 rfl)
theorem dX12_goesDown_95 : decode cX12_goesDown 95 = .ok (.getfield 298, 3) := dq_180 (kX12_goesDown_2 31 rfl) (kX12_goesDown_3 0 rfl) (kX12_goesDown_3 1 rfl) rfl
theorem dX12_goesDown_98 : decode cX12_goesDown 98 = .ok (.iload_n 1, 1) := dq_27 (kX12_goesDown_3 2 rfl)
theorem dX12_goesDown_99 : decode cX12_goesDown 99 = .ok (.iaload, 1) := dq_46 (kX12_goesDown_3 3 rfl)
theorem dX12_goesDown_100 : decode cX12_goesDown 100 = .ok (.iastore, 1) := dq_79 (kX12_goesDown_3 4 rfl)
theorem dX12_goesDown_101 : decode cX12_goesDown 101 = .ok (.return_, 1) := dq_177 (kX12_goesDown_3 5 rfl)

def bX12_birds_0 : List UInt8 := [42, 27, 8, 182, 1, 143, 153, 0, 24, 28, 3, 16, 9, 184, 1, 115, 153, 0, 14, 29, 3, 19, 1, 172, 184, 1, 115, 154, 0, 5, 3, 172]
theorem kX12_birds_0 (j : Nat) {b : UInt8} (hj : bX12_birds_0[j]? = some b) : AtB cX12_birds (0 + j) b := at_of32 (by decide +kernel) j hj
def bX12_birds_1 : List UInt8 := [42, 180, 0, 77, 16, 10, 27, 104, 28, 96, 29, 79, 4, 172]
theorem kX12_birds_1 (j : Nat) {b : UInt8} (hj : bX12_birds_1[j]? = some b) : AtB cX12_birds (32 + j) b := at_of32 (by decide +kernel) j hj
theorem dX12_birds_0 : decode cX12_birds 0 = .ok (.aload_n 0, 1) := dq_42 (kX12_birds_0 0 rfl)
theorem dX12_birds_1 : decode cX12_birds 1 = .ok (.iload_n 1, 1) := dq_27 (kX12_birds_0 1 rfl)
theorem dX12_birds_2 : decode cX12_birds 2 = .ok (.iconst 5, 1) := dq_8 (kX12_birds_0 2 rfl)
theorem dX12_birds_3 : decode cX12_birds 3 = .ok (.invokevirtual 399, 3) := dq_182 (kX12_birds_0 3 rfl) (kX12_birds_0 4 rfl) (kX12_birds_0 5 rfl) rfl
theorem dX12_birds_6 : decode cX12_birds 6 = .ok (.ifCond .eq 24, 3) := dq_153 (kX12_birds_0 6 rfl) (kX12_birds_0 7 rfl) (kX12_birds_0 8 rfl) (by decide)
theorem dX12_birds_9 : decode cX12_birds 9 = .ok (.iload_n 2, 1) := dq_28 (kX12_birds_0 9 rfl)
theorem dX12_birds_10 : decode cX12_birds 10 = .ok (.iconst 0, 1) := dq_3 (kX12_birds_0 10 rfl)
theorem dX12_birds_11 : decode cX12_birds 11 = .ok (.bipush 9, 2) := dq_16 (kX12_birds_0 11 rfl) (kX12_birds_0 12 rfl) (by decide)
theorem dX12_birds_13 : decode cX12_birds 13 = .ok (.invokestatic 371, 3) := dq_184 (kX12_birds_0 13 rfl) (kX12_birds_0 14 rfl) (kX12_birds_0 15 rfl) rfl
theorem dX12_birds_16 : decode cX12_birds 16 = .ok (.ifCond .eq 14, 3) := dq_153 (kX12_birds_0 16 rfl) (kX12_birds_0 17 rfl) (kX12_birds_0 18 rfl) (by decide)
theorem dX12_birds_19 : decode cX12_birds 19 = .ok (.iload_n 3, 1) := dq_29 (kX12_birds_0 19 rfl)
theorem dX12_birds_20 : decode cX12_birds 20 = .ok (.iconst 0, 1) := dq_3 (kX12_birds_0 20 rfl)
theorem dX12_birds_21 : decode cX12_birds 21 = .ok (.ldc_w 428, 3) := dq_19 (kX12_birds_0 21 rfl) (kX12_birds_0 22 rfl) (kX12_birds_0 23 rfl) rfl
theorem dX12_birds_24 : decode cX12_birds 24 = .ok (.invokestatic 371, 3) := dq_184 (kX12_birds_0 24 rfl) (kX12_birds_0 25 rfl) (kX12_birds_0 26 rfl) rfl
theorem dX12_birds_27 : decode cX12_birds 27 = .ok (.ifCond .ne 5, 3) := dq_154 (kX12_birds_0 27 rfl) (kX12_birds_0 28 rfl) (kX12_birds_0 29 rfl) (by decide)
theorem dX12_birds_30 : decode cX12_birds 30 = .ok (.iconst 0, 1) := dq_3 (kX12_birds_0 30 rfl)
theorem dX12_birds_31 : decode cX12_birds 31 = .ok (.ireturn, 1) := dq_172 (kX12_birds_0 31 rfl)
theorem dX12_birds_32 : decode cX12_birds 32 = .ok (.aload_n 0, 1) := dq_42 (kX12_birds_1 0 rfl)
theorem dX12_birds_33 : decode cX12_birds 33 = .ok (.getfield 77, 3) := dq_180 (kX12_birds_1 1 rfl) (kX12_birds_1 2 rfl) (kX12_birds_1 3 rfl) rfl
theorem dX12_birds_36 : decode cX12_birds 36 = .ok (.bipush 10, 2) := dq_16 (kX12_birds_1 4 rfl) (kX12_birds_1 5 rfl) (by decide)
theorem dX12_birds_38 : decode cX12_birds 38 = .ok (.iload_n 1, 1) := dq_27 (kX12_birds_1 6 rfl)
theorem dX12_birds_39 : decode cX12_birds 39 = .ok (.imul, 1) := dq_104 (kX12_birds_1 7 rfl)
theorem dX12_birds_40 : decode cX12_birds 40 = .ok (.iload_n 2, 1) := dq_28 (kX12_birds_1 8 rfl)
theorem dX12_birds_41 : decode cX12_birds 41 = .ok (.iadd, 1) := dq_96 (kX12_birds_1 9 rfl)
theorem dX12_birds_42 : decode cX12_birds 42 = .ok (.iload_n 3, 1) := dq_29 (kX12_birds_1 10 rfl)
theorem dX12_birds_43 : decode cX12_birds 43 = .ok (.iastore, 1) := dq_79 (kX12_birds_1 11 rfl)
theorem dX12_birds_44 : decode cX12_birds 44 = .ok (.iconst 1, 1) := dq_4 (kX12_birds_1 12 rfl)
theorem dX12_birds_45 : decode cX12_birds 45 = .ok (.ireturn, 1) := dq_172 (kX12_birds_1 13 rfl)

def bX12_part_0 : List UInt8 := [26, 27, 104, 16, 99, 96, 16, 100, 108, 172]
theorem kX12_part_0 (j : Nat) {b : UInt8} (hj : bX12_part_0[j]? = some b) : AtB cX12_part (0 + j) b := at_of32 (by decide +kernel) j hj
theorem dX12_part_0 : decode cX12_part 0 = .ok (.iload_n 0, 1) := dq_26 (kX12_part_0 0 rfl)
theorem dX12_part_1 : decode cX12_part 1 = .ok (.iload_n 1, 1) := dq_27 (kX12_part_0 1 rfl)
theorem dX12_part_2 : decode cX12_part 2 = .ok (.imul, 1) := dq_104 (kX12_part_0 2 rfl)
theorem dX12_part_3 : decode cX12_part 3 = .ok (.bipush 99, 2) := dq_16 (kX12_part_0 3 rfl) (kX12_part_0 4 rfl) (by decide)
theorem dX12_part_5 : decode cX12_part 5 = .ok (.iadd, 1) := dq_96 (kX12_part_0 5 rfl)
theorem dX12_part_6 : decode cX12_part 6 = .ok (.bipush 100, 2) := dq_16 (kX12_part_0 6 rfl) (kX12_part_0 7 rfl) (by decide)
theorem dX12_part_8 : decode cX12_part 8 = .ok (.idiv, 1) := dq_108 (kX12_part_0 8 rfl)
theorem dX12_part_9 : decode cX12_part 9 = .ok (.ireturn, 1) := dq_172 (kX12_part_0 9 rfl)

def bX12_loss_0 : List UInt8 := [42, 27, 8, 182, 1, 143, 153, 0, 46, 28, 3, 16, 9, 184, 1, 115, 153, 0, 36, 29, 28, 4, 96, 16, 9, 184, 1, 115, 153, 0, 24, 21]
theorem kX12_loss_0 (j : Nat) {b : UInt8} (hj : bX12_loss_0[j]? = some b) : AtB cX12_loss (0 + j) b := at_of32 (by decide +kernel) j hj
def bX12_loss_1 : List UInt8 := [4, 3, 16, 99, 184, 1, 115, 153, 0, 13, 21, 5, 3, 4, 184, 1, 115, 154, 0, 7, 19, 2, 151, 172, 42, 180, 0, 77, 16, 10, 27, 104]
theorem kX12_loss_1 (j : Nat) {b : UInt8} (hj : bX12_loss_1[j]? = some b) : AtB cX12_loss (32 + j) b := at_of32 (by decide +kernel) j hj
def bX12_loss_2 : List UInt8 := [28, 96, 46, 54, 6, 42, 180, 0, 77, 16, 10, 27, 104, 29, 96, 46, 54, 7, 21, 6, 2, 159, 0, 9, 21, 7, 2, 160, 0, 7, 19, 2]
theorem kX12_loss_2 (j : Nat) {b : UInt8} (hj : bX12_loss_2[j]? = some b) : AtB cX12_loss (64 + j) b := at_of32 (by decide +kernel) j hj
def bX12_loss_3 : List UInt8 := [151, 172, 21, 6, 21, 4, 184, 2, 194, 21, 7, 21, 4, 184, 2, 194, 96, 54, 8, 21, 5, 154, 0, 14, 21, 6, 21, 7, 100, 21, 8, 100]
theorem kX12_loss_3 (j : Nat) {b : UInt8} (hj : bX12_loss_3[j]? = some b) : AtB cX12_loss (96 + j) b := at_of32 (by decide +kernel) j hj
def bX12_loss_4 : List UInt8 := [167, 0, 11, 21, 6, 21, 7, 100, 21, 8, 96, 172]
theorem kX12_loss_4 (j : Nat) {b : UInt8} (hj : bX12_loss_4[j]? = some b) : AtB cX12_loss (128 + j) b := at_of32 (by decide +kernel) j hj
theorem dX12_loss_0 : decode cX12_loss 0 = .ok (.aload_n 0, 1) := dq_42 (kX12_loss_0 0 rfl)
theorem dX12_loss_1 : decode cX12_loss 1 = .ok (.iload_n 1, 1) := dq_27 (kX12_loss_0 1 rfl)
theorem dX12_loss_2 : decode cX12_loss 2 = .ok (.iconst 5, 1) := dq_8 (kX12_loss_0 2 rfl)
theorem dX12_loss_3 : decode cX12_loss 3 = .ok (.invokevirtual 399, 3) := dq_182 (kX12_loss_0 3 rfl) (kX12_loss_0 4 rfl) (kX12_loss_0 5 rfl) rfl
theorem dX12_loss_6 : decode cX12_loss 6 = .ok (.ifCond .eq 46, 3) := dq_153 (kX12_loss_0 6 rfl) (kX12_loss_0 7 rfl) (kX12_loss_0 8 rfl) (by decide)
theorem dX12_loss_9 : decode cX12_loss 9 = .ok (.iload_n 2, 1) := dq_28 (kX12_loss_0 9 rfl)
theorem dX12_loss_10 : decode cX12_loss 10 = .ok (.iconst 0, 1) := dq_3 (kX12_loss_0 10 rfl)
theorem dX12_loss_11 : decode cX12_loss 11 = .ok (.bipush 9, 2) := dq_16 (kX12_loss_0 11 rfl) (kX12_loss_0 12 rfl) (by decide)
theorem dX12_loss_13 : decode cX12_loss 13 = .ok (.invokestatic 371, 3) := dq_184 (kX12_loss_0 13 rfl) (kX12_loss_0 14 rfl) (kX12_loss_0 15 rfl) rfl
theorem dX12_loss_16 : decode cX12_loss 16 = .ok (.ifCond .eq 36, 3) := dq_153 (kX12_loss_0 16 rfl) (kX12_loss_0 17 rfl) (kX12_loss_0 18 rfl) (by decide)
theorem dX12_loss_19 : decode cX12_loss 19 = .ok (.iload_n 3, 1) := dq_29 (kX12_loss_0 19 rfl)
theorem dX12_loss_20 : decode cX12_loss 20 = .ok (.iload_n 2, 1) := dq_28 (kX12_loss_0 20 rfl)
theorem dX12_loss_21 : decode cX12_loss 21 = .ok (.iconst 1, 1) := dq_4 (kX12_loss_0 21 rfl)
theorem dX12_loss_22 : decode cX12_loss 22 = .ok (.iadd, 1) := dq_96 (kX12_loss_0 22 rfl)
theorem dX12_loss_23 : decode cX12_loss 23 = .ok (.bipush 9, 2) := dq_16 (kX12_loss_0 23 rfl) (kX12_loss_0 24 rfl) (by decide)
theorem dX12_loss_25 : decode cX12_loss 25 = .ok (.invokestatic 371, 3) := dq_184 (kX12_loss_0 25 rfl) (kX12_loss_0 26 rfl) (kX12_loss_0 27 rfl) rfl
theorem dX12_loss_28 : decode cX12_loss 28 = .ok (.ifCond .eq 24, 3) := dq_153 (kX12_loss_0 28 rfl) (kX12_loss_0 29 rfl) (kX12_loss_0 30 rfl) (by decide)
theorem dX12_loss_31 : decode cX12_loss 31 = .ok (.iload 4, 2) := dq_21 (kX12_loss_0 31 rfl) (kX12_loss_1 0 rfl) rfl
theorem dX12_loss_33 : decode cX12_loss 33 = .ok (.iconst 0, 1) := dq_3 (kX12_loss_1 1 rfl)
theorem dX12_loss_34 : decode cX12_loss 34 = .ok (.bipush 99, 2) := dq_16 (kX12_loss_1 2 rfl) (kX12_loss_1 3 rfl) (by decide)
theorem dX12_loss_36 : decode cX12_loss 36 = .ok (.invokestatic 371, 3) := dq_184 (kX12_loss_1 4 rfl) (kX12_loss_1 5 rfl) (kX12_loss_1 6 rfl) rfl
theorem dX12_loss_39 : decode cX12_loss 39 = .ok (.ifCond .eq 13, 3) := dq_153 (kX12_loss_1 7 rfl) (kX12_loss_1 8 rfl) (kX12_loss_1 9 rfl) (by decide)
theorem dX12_loss_42 : decode cX12_loss 42 = .ok (.iload 5, 2) := dq_21 (kX12_loss_1 10 rfl) (kX12_loss_1 11 rfl) rfl
theorem dX12_loss_44 : decode cX12_loss 44 = .ok (.iconst 0, 1) := dq_3 (kX12_loss_1 12 rfl)
theorem dX12_loss_45 : decode cX12_loss 45 = .ok (.iconst 1, 1) := dq_4 (kX12_loss_1 13 rfl)
theorem dX12_loss_46 : decode cX12_loss 46 = .ok (.invokestatic 371, 3) := dq_184 (kX12_loss_1 14 rfl) (kX12_loss_1 15 rfl) (kX12_loss_1 16 rfl) rfl
theorem dX12_loss_49 : decode cX12_loss 49 = .ok (.ifCond .ne 7, 3) := dq_154 (kX12_loss_1 17 rfl) (kX12_loss_1 18 rfl) (kX12_loss_1 19 rfl) (by decide)
theorem dX12_loss_52 : decode cX12_loss 52 = .ok (.ldc_w 663, 3) := dq_19 (kX12_loss_1 20 rfl) (kX12_loss_1 21 rfl) (kX12_loss_1 22 rfl) rfl
theorem dX12_loss_55 : decode cX12_loss 55 = .ok (.ireturn, 1) := dq_172 (kX12_loss_1 23 rfl)
theorem dX12_loss_56 : decode cX12_loss 56 = .ok (.aload_n 0, 1) := dq_42 (kX12_loss_1 24 rfl)
theorem dX12_loss_57 : decode cX12_loss 57 = .ok (.getfield 77, 3) := dq_180 (kX12_loss_1 25 rfl) (kX12_loss_1 26 rfl) (kX12_loss_1 27 rfl) rfl
theorem dX12_loss_60 : decode cX12_loss 60 = .ok (.bipush 10, 2) := dq_16 (kX12_loss_1 28 rfl) (kX12_loss_1 29 rfl) (by decide)
theorem dX12_loss_62 : decode cX12_loss 62 = .ok (.iload_n 1, 1) := dq_27 (kX12_loss_1 30 rfl)
theorem dX12_loss_63 : decode cX12_loss 63 = .ok (.imul, 1) := dq_104 (kX12_loss_1 31 rfl)
theorem dX12_loss_64 : decode cX12_loss 64 = .ok (.iload_n 2, 1) := dq_28 (kX12_loss_2 0 rfl)
theorem dX12_loss_65 : decode cX12_loss 65 = .ok (.iadd, 1) := dq_96 (kX12_loss_2 1 rfl)
theorem dX12_loss_66 : decode cX12_loss 66 = .ok (.iaload, 1) := dq_46 (kX12_loss_2 2 rfl)
theorem dX12_loss_67 : decode cX12_loss 67 = .ok (.istore 6, 2) := dq_54 (kX12_loss_2 3 rfl) (kX12_loss_2 4 rfl) rfl
theorem dX12_loss_69 : decode cX12_loss 69 = .ok (.aload_n 0, 1) := dq_42 (kX12_loss_2 5 rfl)
theorem dX12_loss_70 : decode cX12_loss 70 = .ok (.getfield 77, 3) := dq_180 (kX12_loss_2 6 rfl) (kX12_loss_2 7 rfl) (kX12_loss_2 8 rfl) rfl
theorem dX12_loss_73 : decode cX12_loss 73 = .ok (.bipush 10, 2) := dq_16 (kX12_loss_2 9 rfl) (kX12_loss_2 10 rfl) (by decide)
theorem dX12_loss_75 : decode cX12_loss 75 = .ok (.iload_n 1, 1) := dq_27 (kX12_loss_2 11 rfl)
theorem dX12_loss_76 : decode cX12_loss 76 = .ok (.imul, 1) := dq_104 (kX12_loss_2 12 rfl)
theorem dX12_loss_77 : decode cX12_loss 77 = .ok (.iload_n 3, 1) := dq_29 (kX12_loss_2 13 rfl)
theorem dX12_loss_78 : decode cX12_loss 78 = .ok (.iadd, 1) := dq_96 (kX12_loss_2 14 rfl)
theorem dX12_loss_79 : decode cX12_loss 79 = .ok (.iaload, 1) := dq_46 (kX12_loss_2 15 rfl)
theorem dX12_loss_80 : decode cX12_loss 80 = .ok (.istore 7, 2) := dq_54 (kX12_loss_2 16 rfl) (kX12_loss_2 17 rfl) rfl
theorem dX12_loss_82 : decode cX12_loss 82 = .ok (.iload 6, 2) := dq_21 (kX12_loss_2 18 rfl) (kX12_loss_2 19 rfl) rfl
theorem dX12_loss_84 : decode cX12_loss 84 = .ok (.iconst (-1), 1) := dq_2 (kX12_loss_2 20 rfl)
theorem dX12_loss_85 : decode cX12_loss 85 = .ok (.if_icmp .eq 9, 3) := dq_159 (kX12_loss_2 21 rfl) (kX12_loss_2 22 rfl) (kX12_loss_2 23 rfl) (by decide)
theorem dX12_loss_88 : decode cX12_loss 88 = .ok (.iload 7, 2) := dq_21 (kX12_loss_2 24 rfl) (kX12_loss_2 25 rfl) rfl
theorem dX12_loss_90 : decode cX12_loss 90 = .ok (.iconst (-1), 1) := dq_2 (kX12_loss_2 26 rfl)
theorem dX12_loss_91 : decode cX12_loss 91 = .ok (.if_icmp .ne 7, 3) := dq_160 (kX12_loss_2 27 rfl) (kX12_loss_2 28 rfl) (kX12_loss_2 29 rfl) (by decide)
theorem dX12_loss_94 : decode cX12_loss 94 = .ok (.ldc_w 663, 3) := dq_19 (kX12_loss_2 30 rfl) (kX12_loss_2 31 rfl) (kX12_loss_3 0 rfl) rfl
theorem dX12_loss_97 : decode cX12_loss 97 = .ok (.ireturn, 1) := dq_172 (kX12_loss_3 1 rfl)
theorem dX12_loss_98 : decode cX12_loss 98 = .ok (.iload 6, 2) := dq_21 (kX12_loss_3 2 rfl) (kX12_loss_3 3 rfl) rfl
theorem dX12_loss_100 : decode cX12_loss 100 = .ok (.iload 4, 2) := dq_21 (kX12_loss_3 4 rfl) (kX12_loss_3 5 rfl) rfl
theorem dX12_loss_102 : decode cX12_loss 102 = .ok (.invokestatic 706, 3) := dq_184 (kX12_loss_3 6 rfl) (kX12_loss_3 7 rfl) (kX12_loss_3 8 rfl) rfl
theorem dX12_loss_105 : decode cX12_loss 105 = .ok (.iload 7, 2) := dq_21 (kX12_loss_3 9 rfl) (kX12_loss_3 10 rfl) rfl
theorem dX12_loss_107 : decode cX12_loss 107 = .ok (.iload 4, 2) := dq_21 (kX12_loss_3 11 rfl) (kX12_loss_3 12 rfl) rfl
theorem dX12_loss_109 : decode cX12_loss 109 = .ok (.invokestatic 706, 3) := dq_184 (kX12_loss_3 13 rfl) (kX12_loss_3 14 rfl) (kX12_loss_3 15 rfl) rfl
theorem dX12_loss_112 : decode cX12_loss 112 = .ok (.iadd, 1) := dq_96 (kX12_loss_3 16 rfl)
theorem dX12_loss_113 : decode cX12_loss 113 = .ok (.istore 8, 2) := dq_54 (kX12_loss_3 17 rfl) (kX12_loss_3 18 rfl) rfl
theorem dX12_loss_115 : decode cX12_loss 115 = .ok (.iload 5, 2) := dq_21 (kX12_loss_3 19 rfl) (kX12_loss_3 20 rfl) rfl
theorem dX12_loss_117 : decode cX12_loss 117 = .ok (.ifCond .ne 14, 3) := dq_154 (kX12_loss_3 21 rfl) (kX12_loss_3 22 rfl) (kX12_loss_3 23 rfl) (by decide)
theorem dX12_loss_120 : decode cX12_loss 120 = .ok (.iload 6, 2) := dq_21 (kX12_loss_3 24 rfl) (kX12_loss_3 25 rfl) rfl
theorem dX12_loss_122 : decode cX12_loss 122 = .ok (.iload 7, 2) := dq_21 (kX12_loss_3 26 rfl) (kX12_loss_3 27 rfl) rfl
theorem dX12_loss_124 : decode cX12_loss 124 = .ok (.isub, 1) := dq_100 (kX12_loss_3 28 rfl)
theorem dX12_loss_125 : decode cX12_loss 125 = .ok (.iload 8, 2) := dq_21 (kX12_loss_3 29 rfl) (kX12_loss_3 30 rfl) rfl
theorem dX12_loss_127 : decode cX12_loss 127 = .ok (.isub, 1) := dq_100 (kX12_loss_3 31 rfl)
theorem dX12_loss_128 : decode cX12_loss 128 = .ok (.goto 11, 3) := dq_167 (kX12_loss_4 0 rfl) (kX12_loss_4 1 rfl) (kX12_loss_4 2 rfl) (by decide)
theorem dX12_loss_131 : decode cX12_loss 131 = .ok (.iload 6, 2) := dq_21 (kX12_loss_4 3 rfl) (kX12_loss_4 4 rfl) rfl
theorem dX12_loss_133 : decode cX12_loss 133 = .ok (.iload 7, 2) := dq_21 (kX12_loss_4 5 rfl) (kX12_loss_4 6 rfl) rfl
theorem dX12_loss_135 : decode cX12_loss 135 = .ok (.isub, 1) := dq_100 (kX12_loss_4 7 rfl)
theorem dX12_loss_136 : decode cX12_loss 136 = .ok (.iload 8, 2) := dq_21 (kX12_loss_4 8 rfl) (kX12_loss_4 9 rfl) rfl
theorem dX12_loss_138 : decode cX12_loss 138 = .ok (.iadd, 1) := dq_96 (kX12_loss_4 10 rfl)
theorem dX12_loss_139 : decode cX12_loss 139 = .ok (.ireturn, 1) := dq_172 (kX12_loss_4 11 rfl)

def bX12_noise_0 : List UInt8 := [42, 27, 8, 182, 1, 143, 153, 0, 27, 28, 3, 16, 9, 184, 1, 115, 153, 0, 17, 42, 180, 0, 74, 16, 10, 27, 104, 28, 96, 46, 167, 0]
theorem kX12_noise_0 (j : Nat) {b : UInt8} (hj : bX12_noise_0[j]? = some b) : AtB cX12_noise (0 + j) b := at_of32 (by decide +kernel) j hj
def bX12_noise_1 : List UInt8 := [4, 2, 172]
theorem kX12_noise_1 (j : Nat) {b : UInt8} (hj : bX12_noise_1[j]? = some b) : AtB cX12_noise (32 + j) b := at_of32 (by decide +kernel) j hj
theorem dX12_noise_0 : decode cX12_noise 0 = .ok (.aload_n 0, 1) := dq_42 (kX12_noise_0 0 rfl)
theorem dX12_noise_1 : decode cX12_noise 1 = .ok (.iload_n 1, 1) := dq_27 (kX12_noise_0 1 rfl)
theorem dX12_noise_2 : decode cX12_noise 2 = .ok (.iconst 5, 1) := dq_8 (kX12_noise_0 2 rfl)
theorem dX12_noise_3 : decode cX12_noise 3 = .ok (.invokevirtual 399, 3) := dq_182 (kX12_noise_0 3 rfl) (kX12_noise_0 4 rfl) (kX12_noise_0 5 rfl) rfl
theorem dX12_noise_6 : decode cX12_noise 6 = .ok (.ifCond .eq 27, 3) := dq_153 (kX12_noise_0 6 rfl) (kX12_noise_0 7 rfl) (kX12_noise_0 8 rfl) (by decide)
theorem dX12_noise_9 : decode cX12_noise 9 = .ok (.iload_n 2, 1) := dq_28 (kX12_noise_0 9 rfl)
theorem dX12_noise_10 : decode cX12_noise 10 = .ok (.iconst 0, 1) := dq_3 (kX12_noise_0 10 rfl)
theorem dX12_noise_11 : decode cX12_noise 11 = .ok (.bipush 9, 2) := dq_16 (kX12_noise_0 11 rfl) (kX12_noise_0 12 rfl) (by decide)
theorem dX12_noise_13 : decode cX12_noise 13 = .ok (.invokestatic 371, 3) := dq_184 (kX12_noise_0 13 rfl) (kX12_noise_0 14 rfl) (kX12_noise_0 15 rfl) rfl
theorem dX12_noise_16 : decode cX12_noise 16 = .ok (.ifCond .eq 17, 3) := dq_153 (kX12_noise_0 16 rfl) (kX12_noise_0 17 rfl) (kX12_noise_0 18 rfl) (by decide)
theorem dX12_noise_19 : decode cX12_noise 19 = .ok (.aload_n 0, 1) := dq_42 (kX12_noise_0 19 rfl)
theorem dX12_noise_20 : decode cX12_noise 20 = .ok (.getfield 74, 3) := dq_180 (kX12_noise_0 20 rfl) (kX12_noise_0 21 rfl) (kX12_noise_0 22 rfl) rfl
theorem dX12_noise_23 : decode cX12_noise 23 = .ok (.bipush 10, 2) := dq_16 (kX12_noise_0 23 rfl) (kX12_noise_0 24 rfl) (by decide)
theorem dX12_noise_25 : decode cX12_noise 25 = .ok (.iload_n 1, 1) := dq_27 (kX12_noise_0 25 rfl)
theorem dX12_noise_26 : decode cX12_noise 26 = .ok (.imul, 1) := dq_104 (kX12_noise_0 26 rfl)
theorem dX12_noise_27 : decode cX12_noise 27 = .ok (.iload_n 2, 1) := dq_28 (kX12_noise_0 27 rfl)
theorem dX12_noise_28 : decode cX12_noise 28 = .ok (.iadd, 1) := dq_96 (kX12_noise_0 28 rfl)
theorem dX12_noise_29 : decode cX12_noise 29 = .ok (.iaload, 1) := dq_46 (kX12_noise_0 29 rfl)
theorem dX12_noise_30 : decode cX12_noise 30 = .ok (.goto 4, 3) := dq_167 (kX12_noise_0 30 rfl) (kX12_noise_0 31 rfl) (kX12_noise_1 0 rfl) (by decide)
theorem dX12_noise_33 : decode cX12_noise 33 = .ok (.iconst (-1), 1) := dq_2 (kX12_noise_1 1 rfl)
theorem dX12_noise_34 : decode cX12_noise 34 = .ok (.ireturn, 1) := dq_172 (kX12_noise_1 2 rfl)

def bX12_caught_0 : List UInt8 := [42, 27, 182, 2, 106, 153, 0, 54, 28, 3, 6, 184, 1, 115, 153, 0, 45, 29, 184, 2, 103, 153, 0, 38, 21, 4, 4, 19, 2, 126, 184, 1]
theorem kX12_caught_0 (j : Nat) {b : UInt8} (hj : bX12_caught_0[j]? = some b) : AtB cX12_caught (0 + j) b := at_of32 (by decide +kernel) j hj
def bX12_caught_1 : List UInt8 := [115, 153, 0, 26, 21, 5, 3, 42, 180, 1, 140, 184, 1, 115, 153, 0, 13, 42, 180, 2, 197, 17, 0, 200, 160, 0, 5, 2, 172, 42, 180, 1]
theorem kX12_caught_1 (j : Nat) {b : UInt8} (hj : bX12_caught_1[j]? = some b) : AtB cX12_caught (32 + j) b := at_of32 (by decide +kernel) j hj
def bX12_caught_2 : List UInt8 := [48, 42, 180, 2, 197, 27, 79, 42, 180, 1, 51, 42, 180, 2, 197, 28, 79, 42, 180, 1, 54, 42, 180, 2, 197, 29, 79, 42, 180, 1, 57, 42]
theorem kX12_caught_2 (j : Nat) {b : UInt8} (hj : bX12_caught_2[j]? = some b) : AtB cX12_caught (64 + j) b := at_of32 (by decide +kernel) j hj
def bX12_caught_3 : List UInt8 := [180, 2, 197, 21, 4, 79, 42, 180, 1, 60, 42, 180, 2, 197, 21, 5, 79, 42, 42, 180, 2, 197, 4, 96, 181, 2, 197, 42, 180, 2, 197, 4]
theorem kX12_caught_3 (j : Nat) {b : UInt8} (hj : bX12_caught_3[j]? = some b) : AtB cX12_caught (96 + j) b := at_of32 (by decide +kernel) j hj
def bX12_caught_4 : List UInt8 := [100, 172]
theorem kX12_caught_4 (j : Nat) {b : UInt8} (hj : bX12_caught_4[j]? = some b) : AtB cX12_caught (128 + j) b := at_of32 (by decide +kernel) j hj
theorem dX12_caught_0 : decode cX12_caught 0 = .ok (.aload_n 0, 1) := dq_42 (kX12_caught_0 0 rfl)
theorem dX12_caught_1 : decode cX12_caught 1 = .ok (.iload_n 1, 1) := dq_27 (kX12_caught_0 1 rfl)
theorem dX12_caught_2 : decode cX12_caught 2 = .ok (.invokevirtual 618, 3) := dq_182 (kX12_caught_0 2 rfl) (kX12_caught_0 3 rfl) (kX12_caught_0 4 rfl) rfl
theorem dX12_caught_5 : decode cX12_caught 5 = .ok (.ifCond .eq 54, 3) := dq_153 (kX12_caught_0 5 rfl) (kX12_caught_0 6 rfl) (kX12_caught_0 7 rfl) (by decide)
theorem dX12_caught_8 : decode cX12_caught 8 = .ok (.iload_n 2, 1) := dq_28 (kX12_caught_0 8 rfl)
theorem dX12_caught_9 : decode cX12_caught 9 = .ok (.iconst 0, 1) := dq_3 (kX12_caught_0 9 rfl)
theorem dX12_caught_10 : decode cX12_caught 10 = .ok (.iconst 3, 1) := dq_6 (kX12_caught_0 10 rfl)
theorem dX12_caught_11 : decode cX12_caught 11 = .ok (.invokestatic 371, 3) := dq_184 (kX12_caught_0 11 rfl) (kX12_caught_0 12 rfl) (kX12_caught_0 13 rfl) rfl
theorem dX12_caught_14 : decode cX12_caught 14 = .ok (.ifCond .eq 45, 3) := dq_153 (kX12_caught_0 14 rfl) (kX12_caught_0 15 rfl) (kX12_caught_0 16 rfl) (by decide)
theorem dX12_caught_17 : decode cX12_caught 17 = .ok (.iload_n 3, 1) := dq_29 (kX12_caught_0 17 rfl)
theorem dX12_caught_18 : decode cX12_caught 18 = .ok (.invokestatic 615, 3) := dq_184 (kX12_caught_0 18 rfl) (kX12_caught_0 19 rfl) (kX12_caught_0 20 rfl) rfl
theorem dX12_caught_21 : decode cX12_caught 21 = .ok (.ifCond .eq 38, 3) := dq_153 (kX12_caught_0 21 rfl) (kX12_caught_0 22 rfl) (kX12_caught_0 23 rfl) (by decide)
theorem dX12_caught_24 : decode cX12_caught 24 = .ok (.iload 4, 2) := dq_21 (kX12_caught_0 24 rfl) (kX12_caught_0 25 rfl) rfl
theorem dX12_caught_26 : decode cX12_caught 26 = .ok (.iconst 1, 1) := dq_4 (kX12_caught_0 26 rfl)
theorem dX12_caught_27 : decode cX12_caught 27 = .ok (.ldc_w 638, 3) := dq_19 (kX12_caught_0 27 rfl) (kX12_caught_0 28 rfl) (kX12_caught_0 29 rfl) rfl
theorem dX12_caught_30 : decode cX12_caught 30 = .ok (.invokestatic 371, 3) := dq_184 (kX12_caught_0 30 rfl) (kX12_caught_0 31 rfl) (kX12_caught_1 0 rfl) rfl
theorem dX12_caught_33 : decode cX12_caught 33 = .ok (.ifCond .eq 26, 3) := dq_153 (kX12_caught_1 1 rfl) (kX12_caught_1 2 rfl) (kX12_caught_1 3 rfl) (by decide)
theorem dX12_caught_36 : decode cX12_caught 36 = .ok (.iload 5, 2) := dq_21 (kX12_caught_1 4 rfl) (kX12_caught_1 5 rfl) rfl
theorem dX12_caught_38 : decode cX12_caught 38 = .ok (.iconst 0, 1) := dq_3 (kX12_caught_1 6 rfl)
theorem dX12_caught_39 : decode cX12_caught 39 = .ok (.aload_n 0, 1) := dq_42 (kX12_caught_1 7 rfl)
theorem dX12_caught_40 : decode cX12_caught 40 = .ok (.getfield 396, 3) := dq_180 (kX12_caught_1 8 rfl) (kX12_caught_1 9 rfl) (kX12_caught_1 10 rfl) rfl
theorem dX12_caught_43 : decode cX12_caught 43 = .ok (.invokestatic 371, 3) := dq_184 (kX12_caught_1 11 rfl) (kX12_caught_1 12 rfl) (kX12_caught_1 13 rfl) rfl
theorem dX12_caught_46 : decode cX12_caught 46 = .ok (.ifCond .eq 13, 3) := dq_153 (kX12_caught_1 14 rfl) (kX12_caught_1 15 rfl) (kX12_caught_1 16 rfl) (by decide)
theorem dX12_caught_49 : decode cX12_caught 49 = .ok (.aload_n 0, 1) := dq_42 (kX12_caught_1 17 rfl)
theorem dX12_caught_50 : decode cX12_caught 50 = .ok (.getfield 709, 3) := dq_180 (kX12_caught_1 18 rfl) (kX12_caught_1 19 rfl) (kX12_caught_1 20 rfl) rfl
theorem dX12_caught_53 : decode cX12_caught 53 = .ok (.sipush 200, 3) := dq_17 (kX12_caught_1 21 rfl) (kX12_caught_1 22 rfl) (kX12_caught_1 23 rfl) (by decide)
theorem dX12_caught_56 : decode cX12_caught 56 = .ok (.if_icmp .ne 5, 3) := dq_160 (kX12_caught_1 24 rfl) (kX12_caught_1 25 rfl) (kX12_caught_1 26 rfl) (by decide)
theorem dX12_caught_59 : decode cX12_caught 59 = .ok (.iconst (-1), 1) := dq_2 (kX12_caught_1 27 rfl)
theorem dX12_caught_60 : decode cX12_caught 60 = .ok (.ireturn, 1) := dq_172 (kX12_caught_1 28 rfl)
theorem dX12_caught_61 : decode cX12_caught 61 = .ok (.aload_n 0, 1) := dq_42 (kX12_caught_1 29 rfl)
theorem dX12_caught_62 : decode cX12_caught 62 = .ok (.getfield 304, 3) := dq_180 (kX12_caught_1 30 rfl) (kX12_caught_1 31 rfl) (kX12_caught_2 0 rfl) rfl
theorem dX12_caught_65 : decode cX12_caught 65 = .ok (.aload_n 0, 1) := dq_42 (kX12_caught_2 1 rfl)
theorem dX12_caught_66 : decode cX12_caught 66 = .ok (.getfield 709, 3) := dq_180 (kX12_caught_2 2 rfl) (kX12_caught_2 3 rfl) (kX12_caught_2 4 rfl) rfl
theorem dX12_caught_69 : decode cX12_caught 69 = .ok (.iload_n 1, 1) := dq_27 (kX12_caught_2 5 rfl)
theorem dX12_caught_70 : decode cX12_caught 70 = .ok (.iastore, 1) := dq_79 (kX12_caught_2 6 rfl)
theorem dX12_caught_71 : decode cX12_caught 71 = .ok (.aload_n 0, 1) := dq_42 (kX12_caught_2 7 rfl)
theorem dX12_caught_72 : decode cX12_caught 72 = .ok (.getfield 307, 3) := dq_180 (kX12_caught_2 8 rfl) (kX12_caught_2 9 rfl) (kX12_caught_2 10 rfl) rfl
theorem dX12_caught_75 : decode cX12_caught 75 = .ok (.aload_n 0, 1) := dq_42 (kX12_caught_2 11 rfl)
theorem dX12_caught_76 : decode cX12_caught 76 = .ok (.getfield 709, 3) := dq_180 (kX12_caught_2 12 rfl) (kX12_caught_2 13 rfl) (kX12_caught_2 14 rfl) rfl
theorem dX12_caught_79 : decode cX12_caught 79 = .ok (.iload_n 2, 1) := dq_28 (kX12_caught_2 15 rfl)
theorem dX12_caught_80 : decode cX12_caught 80 = .ok (.iastore, 1) := dq_79 (kX12_caught_2 16 rfl)
theorem dX12_caught_81 : decode cX12_caught 81 = .ok (.aload_n 0, 1) := dq_42 (kX12_caught_2 17 rfl)
theorem dX12_caught_82 : decode cX12_caught 82 = .ok (.getfield 310, 3) := dq_180 (kX12_caught_2 18 rfl) (kX12_caught_2 19 rfl) (kX12_caught_2 20 rfl) rfl
theorem dX12_caught_85 : decode cX12_caught 85 = .ok (.aload_n 0, 1) := dq_42 (kX12_caught_2 21 rfl)
theorem dX12_caught_86 : decode cX12_caught 86 = .ok (.getfield 709, 3) := dq_180 (kX12_caught_2 22 rfl) (kX12_caught_2 23 rfl) (kX12_caught_2 24 rfl) rfl
theorem dX12_caught_89 : decode cX12_caught 89 = .ok (.iload_n 3, 1) := dq_29 (kX12_caught_2 25 rfl)
theorem dX12_caught_90 : decode cX12_caught 90 = .ok (.iastore, 1) := dq_79 (kX12_caught_2 26 rfl)
theorem dX12_caught_91 : decode cX12_caught 91 = .ok (.aload_n 0, 1) := dq_42 (kX12_caught_2 27 rfl)
theorem dX12_caught_92 : decode cX12_caught 92 = .ok (.getfield 313, 3) := dq_180 (kX12_caught_2 28 rfl) (kX12_caught_2 29 rfl) (kX12_caught_2 30 rfl) rfl
theorem dX12_caught_95 : decode cX12_caught 95 = .ok (.aload_n 0, 1) := dq_42 (kX12_caught_2 31 rfl)
theorem dX12_caught_96 : decode cX12_caught 96 = .ok (.getfield 709, 3) := dq_180 (kX12_caught_3 0 rfl) (kX12_caught_3 1 rfl) (kX12_caught_3 2 rfl) rfl
theorem dX12_caught_99 : decode cX12_caught 99 = .ok (.iload 4, 2) := dq_21 (kX12_caught_3 3 rfl) (kX12_caught_3 4 rfl) rfl
theorem dX12_caught_101 : decode cX12_caught 101 = .ok (.iastore, 1) := dq_79 (kX12_caught_3 5 rfl)
theorem dX12_caught_102 : decode cX12_caught 102 = .ok (.aload_n 0, 1) := dq_42 (kX12_caught_3 6 rfl)
theorem dX12_caught_103 : decode cX12_caught 103 = .ok (.getfield 316, 3) := dq_180 (kX12_caught_3 7 rfl) (kX12_caught_3 8 rfl) (kX12_caught_3 9 rfl) rfl
theorem dX12_caught_106 : decode cX12_caught 106 = .ok (.aload_n 0, 1) := dq_42 (kX12_caught_3 10 rfl)
theorem dX12_caught_107 : decode cX12_caught 107 = .ok (.getfield 709, 3) := dq_180 (kX12_caught_3 11 rfl) (kX12_caught_3 12 rfl) (kX12_caught_3 13 rfl) rfl
theorem dX12_caught_110 : decode cX12_caught 110 = .ok (.iload 5, 2) := dq_21 (kX12_caught_3 14 rfl) (kX12_caught_3 15 rfl) rfl
theorem dX12_caught_112 : decode cX12_caught 112 = .ok (.iastore, 1) := dq_79 (kX12_caught_3 16 rfl)
theorem dX12_caught_113 : decode cX12_caught 113 = .ok (.aload_n 0, 1) := dq_42 (kX12_caught_3 17 rfl)
theorem dX12_caught_114 : decode cX12_caught 114 = .ok (.aload_n 0, 1) := dq_42 (kX12_caught_3 18 rfl)
theorem dX12_caught_115 : decode cX12_caught 115 = .ok (.getfield 709, 3) := dq_180 (kX12_caught_3 19 rfl) (kX12_caught_3 20 rfl) (kX12_caught_3 21 rfl) rfl
theorem dX12_caught_118 : decode cX12_caught 118 = .ok (.iconst 1, 1) := dq_4 (kX12_caught_3 22 rfl)
theorem dX12_caught_119 : decode cX12_caught 119 = .ok (.iadd, 1) := dq_96 (kX12_caught_3 23 rfl)
theorem dX12_caught_120 : decode cX12_caught 120 = .ok (.putfield 709, 3) := dq_181 (kX12_caught_3 24 rfl) (kX12_caught_3 25 rfl) (kX12_caught_3 26 rfl) rfl
theorem dX12_caught_123 : decode cX12_caught 123 = .ok (.aload_n 0, 1) := dq_42 (kX12_caught_3 27 rfl)
theorem dX12_caught_124 : decode cX12_caught 124 = .ok (.getfield 709, 3) := dq_180 (kX12_caught_3 28 rfl) (kX12_caught_3 29 rfl) (kX12_caught_3 30 rfl) rfl
theorem dX12_caught_127 : decode cX12_caught 127 = .ok (.iconst 1, 1) := dq_4 (kX12_caught_3 31 rfl)
theorem dX12_caught_128 : decode cX12_caught 128 = .ok (.isub, 1) := dq_100 (kX12_caught_4 0 rfl)
theorem dX12_caught_129 : decode cX12_caught 129 = .ok (.ireturn, 1) := dq_172 (kX12_caught_4 1 rfl)

def bX12_isAhead_0 : List UInt8 := [42, 180, 1, 60, 27, 46, 42, 180, 1, 60, 28, 46, 161, 0, 23, 42, 180, 1, 60, 27, 46, 42, 180, 1, 60, 28, 46, 160, 0, 12, 27, 28]
theorem kX12_isAhead_0 (j : Nat) {b : UInt8} (hj : bX12_isAhead_0[j]? = some b) : AtB cX12_isAhead (0 + j) b := at_of32 (by decide +kernel) j hj
def bX12_isAhead_1 : List UInt8 := [163, 0, 7, 4, 167, 0, 4, 3, 172]
theorem kX12_isAhead_1 (j : Nat) {b : UInt8} (hj : bX12_isAhead_1[j]? = some b) : AtB cX12_isAhead (32 + j) b := at_of32 (by decide +kernel) j hj
theorem dX12_isAhead_0 : decode cX12_isAhead 0 = .ok (.aload_n 0, 1) := dq_42 (kX12_isAhead_0 0 rfl)
theorem dX12_isAhead_1 : decode cX12_isAhead 1 = .ok (.getfield 316, 3) := dq_180 (kX12_isAhead_0 1 rfl) (kX12_isAhead_0 2 rfl) (kX12_isAhead_0 3 rfl) rfl
theorem dX12_isAhead_4 : decode cX12_isAhead 4 = .ok (.iload_n 1, 1) := dq_27 (kX12_isAhead_0 4 rfl)
theorem dX12_isAhead_5 : decode cX12_isAhead 5 = .ok (.iaload, 1) := dq_46 (kX12_isAhead_0 5 rfl)
theorem dX12_isAhead_6 : decode cX12_isAhead 6 = .ok (.aload_n 0, 1) := dq_42 (kX12_isAhead_0 6 rfl)
theorem dX12_isAhead_7 : decode cX12_isAhead 7 = .ok (.getfield 316, 3) := dq_180 (kX12_isAhead_0 7 rfl) (kX12_isAhead_0 8 rfl) (kX12_isAhead_0 9 rfl) rfl
theorem dX12_isAhead_10 : decode cX12_isAhead 10 = .ok (.iload_n 2, 1) := dq_28 (kX12_isAhead_0 10 rfl)
theorem dX12_isAhead_11 : decode cX12_isAhead 11 = .ok (.iaload, 1) := dq_46 (kX12_isAhead_0 11 rfl)
theorem dX12_isAhead_12 : decode cX12_isAhead 12 = .ok (.if_icmp .lt 23, 3) := dq_161 (kX12_isAhead_0 12 rfl) (kX12_isAhead_0 13 rfl) (kX12_isAhead_0 14 rfl) (by decide)
theorem dX12_isAhead_15 : decode cX12_isAhead 15 = .ok (.aload_n 0, 1) := dq_42 (kX12_isAhead_0 15 rfl)
theorem dX12_isAhead_16 : decode cX12_isAhead 16 = .ok (.getfield 316, 3) := dq_180 (kX12_isAhead_0 16 rfl) (kX12_isAhead_0 17 rfl) (kX12_isAhead_0 18 rfl) rfl
theorem dX12_isAhead_19 : decode cX12_isAhead 19 = .ok (.iload_n 1, 1) := dq_27 (kX12_isAhead_0 19 rfl)
theorem dX12_isAhead_20 : decode cX12_isAhead 20 = .ok (.iaload, 1) := dq_46 (kX12_isAhead_0 20 rfl)
theorem dX12_isAhead_21 : decode cX12_isAhead 21 = .ok (.aload_n 0, 1) := dq_42 (kX12_isAhead_0 21 rfl)
theorem dX12_isAhead_22 : decode cX12_isAhead 22 = .ok (.getfield 316, 3) := dq_180 (kX12_isAhead_0 22 rfl) (kX12_isAhead_0 23 rfl) (kX12_isAhead_0 24 rfl) rfl
theorem dX12_isAhead_25 : decode cX12_isAhead 25 = .ok (.iload_n 2, 1) := dq_28 (kX12_isAhead_0 25 rfl)
theorem dX12_isAhead_26 : decode cX12_isAhead 26 = .ok (.iaload, 1) := dq_46 (kX12_isAhead_0 26 rfl)
theorem dX12_isAhead_27 : decode cX12_isAhead 27 = .ok (.if_icmp .ne 12, 3) := dq_160 (kX12_isAhead_0 27 rfl) (kX12_isAhead_0 28 rfl) (kX12_isAhead_0 29 rfl) (by decide)
theorem dX12_isAhead_30 : decode cX12_isAhead 30 = .ok (.iload_n 1, 1) := dq_27 (kX12_isAhead_0 30 rfl)
theorem dX12_isAhead_31 : decode cX12_isAhead 31 = .ok (.iload_n 2, 1) := dq_28 (kX12_isAhead_0 31 rfl)
theorem dX12_isAhead_32 : decode cX12_isAhead 32 = .ok (.if_icmp .gt 7, 3) := dq_163 (kX12_isAhead_1 0 rfl) (kX12_isAhead_1 1 rfl) (kX12_isAhead_1 2 rfl) (by decide)
theorem dX12_isAhead_35 : decode cX12_isAhead 35 = .ok (.iconst 1, 1) := dq_4 (kX12_isAhead_1 3 rfl)
theorem dX12_isAhead_36 : decode cX12_isAhead 36 = .ok (.goto 4, 3) := dq_167 (kX12_isAhead_1 4 rfl) (kX12_isAhead_1 5 rfl) (kX12_isAhead_1 6 rfl) (by decide)
theorem dX12_isAhead_39 : decode cX12_isAhead 39 = .ok (.iconst 0, 1) := dq_3 (kX12_isAhead_1 7 rfl)
theorem dX12_isAhead_40 : decode cX12_isAhead 40 = .ok (.ireturn, 1) := dq_172 (kX12_isAhead_1 8 rfl)

def bX12_over_0 : List UInt8 := [2, 60, 3, 61, 28, 42, 180, 2, 197, 162, 0, 190, 27, 2, 159, 0, 15, 42, 27, 28, 182, 2, 200, 153, 0, 6, 167, 0, 167, 9, 66, 3]
theorem kX12_over_0 (j : Nat) {b : UInt8} (hj : bX12_over_0[j]? = some b) : AtB cX12_over (0 + j) b := at_of32 (by decide +kernel) j hj
def bX12_over_1 : List UInt8 := [54, 5, 21, 5, 42, 180, 2, 197, 162, 0, 102, 42, 180, 1, 51, 21, 5, 46, 42, 180, 1, 51, 28, 46, 160, 0, 47, 42, 180, 1, 54, 21]
theorem kX12_over_1 (j : Nat) {b : UInt8} (hj : bX12_over_1[j]? = some b) : AtB cX12_over (32 + j) b := at_of32 (by decide +kernel) j hj
def bX12_over_2 : List UInt8 := [5, 46, 42, 180, 1, 54, 28, 46, 160, 0, 31, 42, 180, 1, 60, 21, 5, 46, 17, 1, 104, 108, 42, 180, 1, 60, 28, 46, 17, 1, 104, 108]
theorem kX12_over_2 (j : Nat) {b : UInt8} (hj : bX12_over_2[j]? = some b) : AtB cX12_over (64 + j) b := at_of32 (by decide +kernel) j hj
def bX12_over_3 : List UInt8 := [160, 0, 7, 4, 167, 0, 4, 3, 54, 6, 33, 21, 6, 153, 0, 23, 42, 21, 5, 28, 182, 2, 200, 153, 0, 13, 42, 180, 1, 57, 21, 5]
theorem kX12_over_3 (j : Nat) {b : UInt8} (hj : bX12_over_3[j]? = some b) : AtB cX12_over (96 + j) b := at_of32 (by decide +kernel) j hj
def bX12_over_4 : List UInt8 := [46, 167, 0, 4, 3, 133, 97, 66, 132, 5, 1, 167, 255, 151, 42, 42, 180, 1, 51, 28, 46, 42, 180, 1, 54, 28, 46, 42, 180, 0, 208, 42]
theorem kX12_over_4 (j : Nat) {b : UInt8} (hj : bX12_over_4[j]? = some b) : AtB cX12_over (128 + j) b := at_of32 (by decide +kernel) j hj
def bX12_over_5 : List UInt8 := [180, 1, 48, 28, 46, 46, 42, 180, 1, 60, 28, 46, 182, 2, 48, 54, 5, 21, 5, 2, 159, 0, 13, 33, 21, 5, 133, 148, 158, 0, 5, 28]
theorem kX12_over_5 (j : Nat) {b : UInt8} (hj : bX12_over_5[j]? = some b) : AtB cX12_over (160 + j) b := at_of32 (by decide +kernel) j hj
def bX12_over_6 : List UInt8 := [60, 132, 2, 1, 167, 255, 64, 27, 172]
theorem kX12_over_6 (j : Nat) {b : UInt8} (hj : bX12_over_6[j]? = some b) : AtB cX12_over (192 + j) b := at_of32 (by decide +kernel) j hj
theorem dX12_over_0 : decode cX12_over 0 = .ok (.iconst (-1), 1) := dq_2 (kX12_over_0 0 rfl)
theorem dX12_over_1 : decode cX12_over 1 = .ok (.istore_n 1, 1) := dq_60 (kX12_over_0 1 rfl)
theorem dX12_over_2 : decode cX12_over 2 = .ok (.iconst 0, 1) := dq_3 (kX12_over_0 2 rfl)
theorem dX12_over_3 : decode cX12_over 3 = .ok (.istore_n 2, 1) := dq_61 (kX12_over_0 3 rfl)
theorem dX12_over_4 : decode cX12_over 4 = .ok (.iload_n 2, 1) := dq_28 (kX12_over_0 4 rfl)
theorem dX12_over_5 : decode cX12_over 5 = .ok (.aload_n 0, 1) := dq_42 (kX12_over_0 5 rfl)
theorem dX12_over_6 : decode cX12_over 6 = .ok (.getfield 709, 3) := dq_180 (kX12_over_0 6 rfl) (kX12_over_0 7 rfl) (kX12_over_0 8 rfl) rfl
theorem dX12_over_9 : decode cX12_over 9 = .ok (.if_icmp .ge 190, 3) := dq_162 (kX12_over_0 9 rfl) (kX12_over_0 10 rfl) (kX12_over_0 11 rfl) (by decide)
theorem dX12_over_12 : decode cX12_over 12 = .ok (.iload_n 1, 1) := dq_27 (kX12_over_0 12 rfl)
theorem dX12_over_13 : decode cX12_over 13 = .ok (.iconst (-1), 1) := dq_2 (kX12_over_0 13 rfl)
theorem dX12_over_14 : decode cX12_over 14 = .ok (.if_icmp .eq 15, 3) := dq_159 (kX12_over_0 14 rfl) (kX12_over_0 15 rfl) (kX12_over_0 16 rfl) (by decide)
theorem dX12_over_17 : decode cX12_over 17 = .ok (.aload_n 0, 1) := dq_42 (kX12_over_0 17 rfl)
theorem dX12_over_18 : decode cX12_over 18 = .ok (.iload_n 1, 1) := dq_27 (kX12_over_0 18 rfl)
theorem dX12_over_19 : decode cX12_over 19 = .ok (.iload_n 2, 1) := dq_28 (kX12_over_0 19 rfl)
theorem dX12_over_20 : decode cX12_over 20 = .ok (.invokevirtual 712, 3) := dq_182 (kX12_over_0 20 rfl) (kX12_over_0 21 rfl) (kX12_over_0 22 rfl) rfl
theorem dX12_over_23 : decode cX12_over 23 = .ok (.ifCond .eq 6, 3) := dq_153 (kX12_over_0 23 rfl) (kX12_over_0 24 rfl) (kX12_over_0 25 rfl) (by decide)
theorem dX12_over_26 : decode cX12_over 26 = .ok (.goto 167, 3) := dq_167 (kX12_over_0 26 rfl) (kX12_over_0 27 rfl) (kX12_over_0 28 rfl) (by decide)
theorem dX12_over_29 : decode cX12_over 29 = .ok (.lconst 0, 1) := dq_9 (kX12_over_0 29 rfl)
theorem dX12_over_30 : decode cX12_over 30 = .ok (.lstore_n 3, 1) := dq_66 (kX12_over_0 30 rfl)
theorem dX12_over_31 : decode cX12_over 31 = .ok (.iconst 0, 1) := dq_3 (kX12_over_0 31 rfl)
theorem dX12_over_32 : decode cX12_over 32 = .ok (.istore 5, 2) := dq_54 (kX12_over_1 0 rfl) (kX12_over_1 1 rfl) rfl
theorem dX12_over_34 : decode cX12_over 34 = .ok (.iload 5, 2) := dq_21 (kX12_over_1 2 rfl) (kX12_over_1 3 rfl) rfl
theorem dX12_over_36 : decode cX12_over 36 = .ok (.aload_n 0, 1) := dq_42 (kX12_over_1 4 rfl)
theorem dX12_over_37 : decode cX12_over 37 = .ok (.getfield 709, 3) := dq_180 (kX12_over_1 5 rfl) (kX12_over_1 6 rfl) (kX12_over_1 7 rfl) rfl
theorem dX12_over_40 : decode cX12_over 40 = .ok (.if_icmp .ge 102, 3) := dq_162 (kX12_over_1 8 rfl) (kX12_over_1 9 rfl) (kX12_over_1 10 rfl) (by decide)
theorem dX12_over_43 : decode cX12_over 43 = .ok (.aload_n 0, 1) := dq_42 (kX12_over_1 11 rfl)
theorem dX12_over_44 : decode cX12_over 44 = .ok (.getfield 307, 3) := dq_180 (kX12_over_1 12 rfl) (kX12_over_1 13 rfl) (kX12_over_1 14 rfl) rfl
theorem dX12_over_47 : decode cX12_over 47 = .ok (.iload 5, 2) := dq_21 (kX12_over_1 15 rfl) (kX12_over_1 16 rfl) rfl
theorem dX12_over_49 : decode cX12_over 49 = .ok (.iaload, 1) := dq_46 (kX12_over_1 17 rfl)
theorem dX12_over_50 : decode cX12_over 50 = .ok (.aload_n 0, 1) := dq_42 (kX12_over_1 18 rfl)
theorem dX12_over_51 : decode cX12_over 51 = .ok (.getfield 307, 3) := dq_180 (kX12_over_1 19 rfl) (kX12_over_1 20 rfl) (kX12_over_1 21 rfl) rfl
theorem dX12_over_54 : decode cX12_over 54 = .ok (.iload_n 2, 1) := dq_28 (kX12_over_1 22 rfl)
theorem dX12_over_55 : decode cX12_over 55 = .ok (.iaload, 1) := dq_46 (kX12_over_1 23 rfl)
theorem dX12_over_56 : decode cX12_over 56 = .ok (.if_icmp .ne 47, 3) := dq_160 (kX12_over_1 24 rfl) (kX12_over_1 25 rfl) (kX12_over_1 26 rfl) (by decide)
theorem dX12_over_59 : decode cX12_over 59 = .ok (.aload_n 0, 1) := dq_42 (kX12_over_1 27 rfl)
theorem dX12_over_60 : decode cX12_over 60 = .ok (.getfield 310, 3) := dq_180 (kX12_over_1 28 rfl) (kX12_over_1 29 rfl) (kX12_over_1 30 rfl) rfl
theorem dX12_over_63 : decode cX12_over 63 = .ok (.iload 5, 2) := dq_21 (kX12_over_1 31 rfl) (kX12_over_2 0 rfl) rfl
theorem dX12_over_65 : decode cX12_over 65 = .ok (.iaload, 1) := dq_46 (kX12_over_2 1 rfl)
theorem dX12_over_66 : decode cX12_over 66 = .ok (.aload_n 0, 1) := dq_42 (kX12_over_2 2 rfl)
theorem dX12_over_67 : decode cX12_over 67 = .ok (.getfield 310, 3) := dq_180 (kX12_over_2 3 rfl) (kX12_over_2 4 rfl) (kX12_over_2 5 rfl) rfl
theorem dX12_over_70 : decode cX12_over 70 = .ok (.iload_n 2, 1) := dq_28 (kX12_over_2 6 rfl)
theorem dX12_over_71 : decode cX12_over 71 = .ok (.iaload, 1) := dq_46 (kX12_over_2 7 rfl)
theorem dX12_over_72 : decode cX12_over 72 = .ok (.if_icmp .ne 31, 3) := dq_160 (kX12_over_2 8 rfl) (kX12_over_2 9 rfl) (kX12_over_2 10 rfl) (by decide)
theorem dX12_over_75 : decode cX12_over 75 = .ok (.aload_n 0, 1) := dq_42 (kX12_over_2 11 rfl)
theorem dX12_over_76 : decode cX12_over 76 = .ok (.getfield 316, 3) := dq_180 (kX12_over_2 12 rfl) (kX12_over_2 13 rfl) (kX12_over_2 14 rfl) rfl
theorem dX12_over_79 : decode cX12_over 79 = .ok (.iload 5, 2) := dq_21 (kX12_over_2 15 rfl) (kX12_over_2 16 rfl) rfl
theorem dX12_over_81 : decode cX12_over 81 = .ok (.iaload, 1) := dq_46 (kX12_over_2 17 rfl)
theorem dX12_over_82 : decode cX12_over 82 = .ok (.sipush 360, 3) := dq_17 (kX12_over_2 18 rfl) (kX12_over_2 19 rfl) (kX12_over_2 20 rfl) (by decide)
theorem dX12_over_85 : decode cX12_over 85 = .ok (.idiv, 1) := dq_108 (kX12_over_2 21 rfl)
theorem dX12_over_86 : decode cX12_over 86 = .ok (.aload_n 0, 1) := dq_42 (kX12_over_2 22 rfl)
theorem dX12_over_87 : decode cX12_over 87 = .ok (.getfield 316, 3) := dq_180 (kX12_over_2 23 rfl) (kX12_over_2 24 rfl) (kX12_over_2 25 rfl) rfl
theorem dX12_over_90 : decode cX12_over 90 = .ok (.iload_n 2, 1) := dq_28 (kX12_over_2 26 rfl)
theorem dX12_over_91 : decode cX12_over 91 = .ok (.iaload, 1) := dq_46 (kX12_over_2 27 rfl)
theorem dX12_over_92 : decode cX12_over 92 = .ok (.sipush 360, 3) := dq_17 (kX12_over_2 28 rfl) (kX12_over_2 29 rfl) (kX12_over_2 30 rfl) (by decide)
theorem dX12_over_95 : decode cX12_over 95 = .ok (.idiv, 1) := dq_108 (kX12_over_2 31 rfl)
theorem dX12_over_96 : decode cX12_over 96 = .ok (.if_icmp .ne 7, 3) := dq_160 (kX12_over_3 0 rfl) (kX12_over_3 1 rfl) (kX12_over_3 2 rfl) (by decide)
theorem dX12_over_99 : decode cX12_over 99 = .ok (.iconst 1, 1) := dq_4 (kX12_over_3 3 rfl)
theorem dX12_over_100 : decode cX12_over 100 = .ok (.goto 4, 3) := dq_167 (kX12_over_3 4 rfl) (kX12_over_3 5 rfl) (kX12_over_3 6 rfl) (by decide)
theorem dX12_over_103 : decode cX12_over 103 = .ok (.iconst 0, 1) := dq_3 (kX12_over_3 7 rfl)
theorem dX12_over_104 : decode cX12_over 104 = .ok (.istore 6, 2) := dq_54 (kX12_over_3 8 rfl) (kX12_over_3 9 rfl) rfl
theorem dX12_over_106 : decode cX12_over 106 = .ok (.lload_n 3, 1) := dq_33 (kX12_over_3 10 rfl)
theorem dX12_over_107 : decode cX12_over 107 = .ok (.iload 6, 2) := dq_21 (kX12_over_3 11 rfl) (kX12_over_3 12 rfl) rfl
theorem dX12_over_109 : decode cX12_over 109 = .ok (.ifCond .eq 23, 3) := dq_153 (kX12_over_3 13 rfl) (kX12_over_3 14 rfl) (kX12_over_3 15 rfl) (by decide)
theorem dX12_over_112 : decode cX12_over 112 = .ok (.aload_n 0, 1) := dq_42 (kX12_over_3 16 rfl)
theorem dX12_over_113 : decode cX12_over 113 = .ok (.iload 5, 2) := dq_21 (kX12_over_3 17 rfl) (kX12_over_3 18 rfl) rfl
theorem dX12_over_115 : decode cX12_over 115 = .ok (.iload_n 2, 1) := dq_28 (kX12_over_3 19 rfl)
theorem dX12_over_116 : decode cX12_over 116 = .ok (.invokevirtual 712, 3) := dq_182 (kX12_over_3 20 rfl) (kX12_over_3 21 rfl) (kX12_over_3 22 rfl) rfl
theorem dX12_over_119 : decode cX12_over 119 = .ok (.ifCond .eq 13, 3) := dq_153 (kX12_over_3 23 rfl) (kX12_over_3 24 rfl) (kX12_over_3 25 rfl) (by decide)
theorem dX12_over_122 : decode cX12_over 122 = .ok (.aload_n 0, 1) := dq_42 (kX12_over_3 26 rfl)
theorem dX12_over_123 : decode cX12_over 123 = .ok (.getfield 313, 3) := dq_180 (kX12_over_3 27 rfl) (kX12_over_3 28 rfl) (kX12_over_3 29 rfl) rfl
theorem dX12_over_126 : decode cX12_over 126 = .ok (.iload 5, 2) := dq_21 (kX12_over_3 30 rfl) (kX12_over_3 31 rfl) rfl
theorem dX12_over_128 : decode cX12_over 128 = .ok (.iaload, 1) := dq_46 (kX12_over_4 0 rfl)
theorem dX12_over_129 : decode cX12_over 129 = .ok (.goto 4, 3) := dq_167 (kX12_over_4 1 rfl) (kX12_over_4 2 rfl) (kX12_over_4 3 rfl) (by decide)
theorem dX12_over_132 : decode cX12_over 132 = .ok (.iconst 0, 1) := dq_3 (kX12_over_4 4 rfl)
theorem dX12_over_133 : decode cX12_over 133 = .ok (.i2l, 1) := dq_133 (kX12_over_4 5 rfl)
theorem dX12_over_134 : decode cX12_over 134 = .ok (.ladd, 1) := dq_97 (kX12_over_4 6 rfl)
theorem dX12_over_135 : decode cX12_over 135 = .ok (.lstore_n 3, 1) := dq_66 (kX12_over_4 7 rfl)
theorem dX12_over_136 : decode cX12_over 136 = .ok (.iinc 5 1, 3) := dq_132 (kX12_over_4 8 rfl) (kX12_over_4 9 rfl) (kX12_over_4 10 rfl) rfl (by decide)
theorem dX12_over_139 : decode cX12_over 139 = .ok (.goto (-105), 3) := dq_167 (kX12_over_4 11 rfl) (kX12_over_4 12 rfl) (kX12_over_4 13 rfl) (by decide)
theorem dX12_over_142 : decode cX12_over 142 = .ok (.aload_n 0, 1) := dq_42 (kX12_over_4 14 rfl)
theorem dX12_over_143 : decode cX12_over 143 = .ok (.aload_n 0, 1) := dq_42 (kX12_over_4 15 rfl)
theorem dX12_over_144 : decode cX12_over 144 = .ok (.getfield 307, 3) := dq_180 (kX12_over_4 16 rfl) (kX12_over_4 17 rfl) (kX12_over_4 18 rfl) rfl
theorem dX12_over_147 : decode cX12_over 147 = .ok (.iload_n 2, 1) := dq_28 (kX12_over_4 19 rfl)
theorem dX12_over_148 : decode cX12_over 148 = .ok (.iaload, 1) := dq_46 (kX12_over_4 20 rfl)
theorem dX12_over_149 : decode cX12_over 149 = .ok (.aload_n 0, 1) := dq_42 (kX12_over_4 21 rfl)
theorem dX12_over_150 : decode cX12_over 150 = .ok (.getfield 310, 3) := dq_180 (kX12_over_4 22 rfl) (kX12_over_4 23 rfl) (kX12_over_4 24 rfl) rfl
theorem dX12_over_153 : decode cX12_over 153 = .ok (.iload_n 2, 1) := dq_28 (kX12_over_4 25 rfl)
theorem dX12_over_154 : decode cX12_over 154 = .ok (.iaload, 1) := dq_46 (kX12_over_4 26 rfl)
theorem dX12_over_155 : decode cX12_over 155 = .ok (.aload_n 0, 1) := dq_42 (kX12_over_4 27 rfl)
theorem dX12_over_156 : decode cX12_over 156 = .ok (.getfield 208, 3) := dq_180 (kX12_over_4 28 rfl) (kX12_over_4 29 rfl) (kX12_over_4 30 rfl) rfl
theorem dX12_over_159 : decode cX12_over 159 = .ok (.aload_n 0, 1) := dq_42 (kX12_over_4 31 rfl)
theorem dX12_over_160 : decode cX12_over 160 = .ok (.getfield 304, 3) := dq_180 (kX12_over_5 0 rfl) (kX12_over_5 1 rfl) (kX12_over_5 2 rfl) rfl
theorem dX12_over_163 : decode cX12_over 163 = .ok (.iload_n 2, 1) := dq_28 (kX12_over_5 3 rfl)
theorem dX12_over_164 : decode cX12_over 164 = .ok (.iaload, 1) := dq_46 (kX12_over_5 4 rfl)
theorem dX12_over_165 : decode cX12_over 165 = .ok (.iaload, 1) := dq_46 (kX12_over_5 5 rfl)
theorem dX12_over_166 : decode cX12_over 166 = .ok (.aload_n 0, 1) := dq_42 (kX12_over_5 6 rfl)
theorem dX12_over_167 : decode cX12_over 167 = .ok (.getfield 316, 3) := dq_180 (kX12_over_5 7 rfl) (kX12_over_5 8 rfl) (kX12_over_5 9 rfl) rfl
theorem dX12_over_170 : decode cX12_over 170 = .ok (.iload_n 2, 1) := dq_28 (kX12_over_5 10 rfl)
theorem dX12_over_171 : decode cX12_over 171 = .ok (.iaload, 1) := dq_46 (kX12_over_5 11 rfl)
theorem dX12_over_172 : decode cX12_over 172 = .ok (.invokevirtual 560, 3) := dq_182 (kX12_over_5 12 rfl) (kX12_over_5 13 rfl) (kX12_over_5 14 rfl) rfl
theorem dX12_over_175 : decode cX12_over 175 = .ok (.istore 5, 2) := dq_54 (kX12_over_5 15 rfl) (kX12_over_5 16 rfl) rfl
theorem dX12_over_177 : decode cX12_over 177 = .ok (.iload 5, 2) := dq_21 (kX12_over_5 17 rfl) (kX12_over_5 18 rfl) rfl
theorem dX12_over_179 : decode cX12_over 179 = .ok (.iconst (-1), 1) := dq_2 (kX12_over_5 19 rfl)
theorem dX12_over_180 : decode cX12_over 180 = .ok (.if_icmp .eq 13, 3) := dq_159 (kX12_over_5 20 rfl) (kX12_over_5 21 rfl) (kX12_over_5 22 rfl) (by decide)
theorem dX12_over_183 : decode cX12_over 183 = .ok (.lload_n 3, 1) := dq_33 (kX12_over_5 23 rfl)
theorem dX12_over_184 : decode cX12_over 184 = .ok (.iload 5, 2) := dq_21 (kX12_over_5 24 rfl) (kX12_over_5 25 rfl) rfl
theorem dX12_over_186 : decode cX12_over 186 = .ok (.i2l, 1) := dq_133 (kX12_over_5 26 rfl)
theorem dX12_over_187 : decode cX12_over 187 = .ok (.lcmp, 1) := dq_148 (kX12_over_5 27 rfl)
theorem dX12_over_188 : decode cX12_over 188 = .ok (.ifCond .le 5, 3) := dq_158 (kX12_over_5 28 rfl) (kX12_over_5 29 rfl) (kX12_over_5 30 rfl) (by decide)
theorem dX12_over_191 : decode cX12_over 191 = .ok (.iload_n 2, 1) := dq_28 (kX12_over_5 31 rfl)
theorem dX12_over_192 : decode cX12_over 192 = .ok (.istore_n 1, 1) := dq_60 (kX12_over_6 0 rfl)
theorem dX12_over_193 : decode cX12_over 193 = .ok (.iinc 2 1, 3) := dq_132 (kX12_over_6 1 rfl) (kX12_over_6 2 rfl) (kX12_over_6 3 rfl) rfl (by decide)
theorem dX12_over_196 : decode cX12_over 196 = .ok (.goto (-192), 3) := dq_167 (kX12_over_6 4 rfl) (kX12_over_6 5 rfl) (kX12_over_6 6 rfl) (by decide)
theorem dX12_over_199 : decode cX12_over 199 = .ok (.iload_n 1, 1) := dq_27 (kX12_over_6 7 rfl)
theorem dX12_over_200 : decode cX12_over 200 = .ok (.ireturn, 1) := dq_172 (kX12_over_6 8 rfl)

def bX12_isDoubt_0 : List UInt8 := [42, 180, 1, 60, 27, 46, 42, 180, 1, 60, 28, 46, 100, 184, 1, 129, 62, 42, 180, 1, 48, 27, 46, 42, 180, 1, 48, 28, 46, 160, 0, 51]
theorem kX12_isDoubt_0 (j : Nat) {b : UInt8} (hj : bX12_isDoubt_0[j]? = some b) : AtB cX12_isDoubt (0 + j) b := at_of32 (by decide +kernel) j hj
def bX12_isDoubt_1 : List UInt8 := [42, 180, 1, 54, 27, 46, 42, 180, 1, 54, 28, 46, 159, 0, 36, 29, 42, 180, 0, 244, 42, 180, 1, 54, 27, 46, 46, 42, 180, 0, 244, 42]
theorem kX12_isDoubt_1 (j : Nat) {b : UInt8} (hj : bX12_isDoubt_1[j]? = some b) : AtB cX12_isDoubt (32 + j) b := at_of32 (by decide +kernel) j hj
def bX12_isDoubt_2 : List UInt8 := [180, 1, 54, 28, 46, 46, 96, 7, 108, 162, 0, 7, 4, 167, 0, 4, 3, 172]
theorem kX12_isDoubt_2 (j : Nat) {b : UInt8} (hj : bX12_isDoubt_2[j]? = some b) : AtB cX12_isDoubt (64 + j) b := at_of32 (by decide +kernel) j hj
theorem dX12_isDoubt_0 : decode cX12_isDoubt 0 = .ok (.aload_n 0, 1) := dq_42 (kX12_isDoubt_0 0 rfl)
theorem dX12_isDoubt_1 : decode cX12_isDoubt 1 = .ok (.getfield 316, 3) := dq_180 (kX12_isDoubt_0 1 rfl) (kX12_isDoubt_0 2 rfl) (kX12_isDoubt_0 3 rfl) rfl
theorem dX12_isDoubt_4 : decode cX12_isDoubt 4 = .ok (.iload_n 1, 1) := dq_27 (kX12_isDoubt_0 4 rfl)
theorem dX12_isDoubt_5 : decode cX12_isDoubt 5 = .ok (.iaload, 1) := dq_46 (kX12_isDoubt_0 5 rfl)
theorem dX12_isDoubt_6 : decode cX12_isDoubt 6 = .ok (.aload_n 0, 1) := dq_42 (kX12_isDoubt_0 6 rfl)
theorem dX12_isDoubt_7 : decode cX12_isDoubt 7 = .ok (.getfield 316, 3) := dq_180 (kX12_isDoubt_0 7 rfl) (kX12_isDoubt_0 8 rfl) (kX12_isDoubt_0 9 rfl) rfl
theorem dX12_isDoubt_10 : decode cX12_isDoubt 10 = .ok (.iload_n 2, 1) := dq_28 (kX12_isDoubt_0 10 rfl)
theorem dX12_isDoubt_11 : decode cX12_isDoubt 11 = .ok (.iaload, 1) := dq_46 (kX12_isDoubt_0 11 rfl)
theorem dX12_isDoubt_12 : decode cX12_isDoubt 12 = .ok (.isub, 1) := dq_100 (kX12_isDoubt_0 12 rfl)
theorem dX12_isDoubt_13 : decode cX12_isDoubt 13 = .ok (.invokestatic 385, 3) := dq_184 (kX12_isDoubt_0 13 rfl) (kX12_isDoubt_0 14 rfl) (kX12_isDoubt_0 15 rfl) rfl
theorem dX12_isDoubt_16 : decode cX12_isDoubt 16 = .ok (.istore_n 3, 1) := dq_62 (kX12_isDoubt_0 16 rfl)
theorem dX12_isDoubt_17 : decode cX12_isDoubt 17 = .ok (.aload_n 0, 1) := dq_42 (kX12_isDoubt_0 17 rfl)
theorem dX12_isDoubt_18 : decode cX12_isDoubt 18 = .ok (.getfield 304, 3) := dq_180 (kX12_isDoubt_0 18 rfl) (kX12_isDoubt_0 19 rfl) (kX12_isDoubt_0 20 rfl) rfl
theorem dX12_isDoubt_21 : decode cX12_isDoubt 21 = .ok (.iload_n 1, 1) := dq_27 (kX12_isDoubt_0 21 rfl)
theorem dX12_isDoubt_22 : decode cX12_isDoubt 22 = .ok (.iaload, 1) := dq_46 (kX12_isDoubt_0 22 rfl)
theorem dX12_isDoubt_23 : decode cX12_isDoubt 23 = .ok (.aload_n 0, 1) := dq_42 (kX12_isDoubt_0 23 rfl)
theorem dX12_isDoubt_24 : decode cX12_isDoubt 24 = .ok (.getfield 304, 3) := dq_180 (kX12_isDoubt_0 24 rfl) (kX12_isDoubt_0 25 rfl) (kX12_isDoubt_0 26 rfl) rfl
theorem dX12_isDoubt_27 : decode cX12_isDoubt 27 = .ok (.iload_n 2, 1) := dq_28 (kX12_isDoubt_0 27 rfl)
theorem dX12_isDoubt_28 : decode cX12_isDoubt 28 = .ok (.iaload, 1) := dq_46 (kX12_isDoubt_0 28 rfl)
theorem dX12_isDoubt_29 : decode cX12_isDoubt 29 = .ok (.if_icmp .ne 51, 3) := dq_160 (kX12_isDoubt_0 29 rfl) (kX12_isDoubt_0 30 rfl) (kX12_isDoubt_0 31 rfl) (by decide)
theorem dX12_isDoubt_32 : decode cX12_isDoubt 32 = .ok (.aload_n 0, 1) := dq_42 (kX12_isDoubt_1 0 rfl)
theorem dX12_isDoubt_33 : decode cX12_isDoubt 33 = .ok (.getfield 310, 3) := dq_180 (kX12_isDoubt_1 1 rfl) (kX12_isDoubt_1 2 rfl) (kX12_isDoubt_1 3 rfl) rfl
theorem dX12_isDoubt_36 : decode cX12_isDoubt 36 = .ok (.iload_n 1, 1) := dq_27 (kX12_isDoubt_1 4 rfl)
theorem dX12_isDoubt_37 : decode cX12_isDoubt 37 = .ok (.iaload, 1) := dq_46 (kX12_isDoubt_1 5 rfl)
theorem dX12_isDoubt_38 : decode cX12_isDoubt 38 = .ok (.aload_n 0, 1) := dq_42 (kX12_isDoubt_1 6 rfl)
theorem dX12_isDoubt_39 : decode cX12_isDoubt 39 = .ok (.getfield 310, 3) := dq_180 (kX12_isDoubt_1 7 rfl) (kX12_isDoubt_1 8 rfl) (kX12_isDoubt_1 9 rfl) rfl
theorem dX12_isDoubt_42 : decode cX12_isDoubt 42 = .ok (.iload_n 2, 1) := dq_28 (kX12_isDoubt_1 10 rfl)
theorem dX12_isDoubt_43 : decode cX12_isDoubt 43 = .ok (.iaload, 1) := dq_46 (kX12_isDoubt_1 11 rfl)
theorem dX12_isDoubt_44 : decode cX12_isDoubt 44 = .ok (.if_icmp .eq 36, 3) := dq_159 (kX12_isDoubt_1 12 rfl) (kX12_isDoubt_1 13 rfl) (kX12_isDoubt_1 14 rfl) (by decide)
theorem dX12_isDoubt_47 : decode cX12_isDoubt 47 = .ok (.iload_n 3, 1) := dq_29 (kX12_isDoubt_1 15 rfl)
theorem dX12_isDoubt_48 : decode cX12_isDoubt 48 = .ok (.aload_n 0, 1) := dq_42 (kX12_isDoubt_1 16 rfl)
theorem dX12_isDoubt_49 : decode cX12_isDoubt 49 = .ok (.getfield 244, 3) := dq_180 (kX12_isDoubt_1 17 rfl) (kX12_isDoubt_1 18 rfl) (kX12_isDoubt_1 19 rfl) rfl
theorem dX12_isDoubt_52 : decode cX12_isDoubt 52 = .ok (.aload_n 0, 1) := dq_42 (kX12_isDoubt_1 20 rfl)
theorem dX12_isDoubt_53 : decode cX12_isDoubt 53 = .ok (.getfield 310, 3) := dq_180 (kX12_isDoubt_1 21 rfl) (kX12_isDoubt_1 22 rfl) (kX12_isDoubt_1 23 rfl) rfl
theorem dX12_isDoubt_56 : decode cX12_isDoubt 56 = .ok (.iload_n 1, 1) := dq_27 (kX12_isDoubt_1 24 rfl)
theorem dX12_isDoubt_57 : decode cX12_isDoubt 57 = .ok (.iaload, 1) := dq_46 (kX12_isDoubt_1 25 rfl)
theorem dX12_isDoubt_58 : decode cX12_isDoubt 58 = .ok (.iaload, 1) := dq_46 (kX12_isDoubt_1 26 rfl)
theorem dX12_isDoubt_59 : decode cX12_isDoubt 59 = .ok (.aload_n 0, 1) := dq_42 (kX12_isDoubt_1 27 rfl)
theorem dX12_isDoubt_60 : decode cX12_isDoubt 60 = .ok (.getfield 244, 3) := dq_180 (kX12_isDoubt_1 28 rfl) (kX12_isDoubt_1 29 rfl) (kX12_isDoubt_1 30 rfl) rfl
theorem dX12_isDoubt_63 : decode cX12_isDoubt 63 = .ok (.aload_n 0, 1) := dq_42 (kX12_isDoubt_1 31 rfl)
theorem dX12_isDoubt_64 : decode cX12_isDoubt 64 = .ok (.getfield 310, 3) := dq_180 (kX12_isDoubt_2 0 rfl) (kX12_isDoubt_2 1 rfl) (kX12_isDoubt_2 2 rfl) rfl
theorem dX12_isDoubt_67 : decode cX12_isDoubt 67 = .ok (.iload_n 2, 1) := dq_28 (kX12_isDoubt_2 3 rfl)
theorem dX12_isDoubt_68 : decode cX12_isDoubt 68 = .ok (.iaload, 1) := dq_46 (kX12_isDoubt_2 4 rfl)
theorem dX12_isDoubt_69 : decode cX12_isDoubt 69 = .ok (.iaload, 1) := dq_46 (kX12_isDoubt_2 5 rfl)
theorem dX12_isDoubt_70 : decode cX12_isDoubt 70 = .ok (.iadd, 1) := dq_96 (kX12_isDoubt_2 6 rfl)
theorem dX12_isDoubt_71 : decode cX12_isDoubt 71 = .ok (.iconst 4, 1) := dq_7 (kX12_isDoubt_2 7 rfl)
theorem dX12_isDoubt_72 : decode cX12_isDoubt 72 = .ok (.idiv, 1) := dq_108 (kX12_isDoubt_2 8 rfl)
theorem dX12_isDoubt_73 : decode cX12_isDoubt 73 = .ok (.if_icmp .ge 7, 3) := dq_162 (kX12_isDoubt_2 9 rfl) (kX12_isDoubt_2 10 rfl) (kX12_isDoubt_2 11 rfl) (by decide)
theorem dX12_isDoubt_76 : decode cX12_isDoubt 76 = .ok (.iconst 1, 1) := dq_4 (kX12_isDoubt_2 12 rfl)
theorem dX12_isDoubt_77 : decode cX12_isDoubt 77 = .ok (.goto 4, 3) := dq_167 (kX12_isDoubt_2 13 rfl) (kX12_isDoubt_2 14 rfl) (kX12_isDoubt_2 15 rfl) (by decide)
theorem dX12_isDoubt_80 : decode cX12_isDoubt 80 = .ok (.iconst 0, 1) := dq_3 (kX12_isDoubt_2 16 rfl)
theorem dX12_isDoubt_81 : decode cX12_isDoubt 81 = .ok (.ireturn, 1) := dq_172 (kX12_isDoubt_2 17 rfl)

def bX12_doubt_0 : List UInt8 := [27, 3, 4, 184, 1, 115, 154, 0, 5, 2, 172, 3, 61, 28, 42, 180, 2, 197, 162, 0, 46, 28, 4, 96, 62, 29, 42, 180, 2, 197, 162, 0]
theorem kX12_doubt_0 (j : Nat) {b : UInt8} (hj : bX12_doubt_0[j]? = some b) : AtB cX12_doubt (0 + j) b := at_of32 (by decide +kernel) j hj
def bX12_doubt_1 : List UInt8 := [28, 42, 28, 29, 182, 2, 203, 153, 0, 13, 27, 154, 0, 7, 28, 167, 0, 4, 29, 172, 132, 3, 1, 167, 255, 226, 132, 2, 1, 167, 255, 208]
theorem kX12_doubt_1 (j : Nat) {b : UInt8} (hj : bX12_doubt_1[j]? = some b) : AtB cX12_doubt (32 + j) b := at_of32 (by decide +kernel) j hj
def bX12_doubt_2 : List UInt8 := [2, 172]
theorem kX12_doubt_2 (j : Nat) {b : UInt8} (hj : bX12_doubt_2[j]? = some b) : AtB cX12_doubt (64 + j) b := at_of32 (by decide +kernel) j hj
theorem dX12_doubt_0 : decode cX12_doubt 0 = .ok (.iload_n 1, 1) := dq_27 (kX12_doubt_0 0 rfl)
theorem dX12_doubt_1 : decode cX12_doubt 1 = .ok (.iconst 0, 1) := dq_3 (kX12_doubt_0 1 rfl)
theorem dX12_doubt_2 : decode cX12_doubt 2 = .ok (.iconst 1, 1) := dq_4 (kX12_doubt_0 2 rfl)
theorem dX12_doubt_3 : decode cX12_doubt 3 = .ok (.invokestatic 371, 3) := dq_184 (kX12_doubt_0 3 rfl) (kX12_doubt_0 4 rfl) (kX12_doubt_0 5 rfl) rfl
theorem dX12_doubt_6 : decode cX12_doubt 6 = .ok (.ifCond .ne 5, 3) := dq_154 (kX12_doubt_0 6 rfl) (kX12_doubt_0 7 rfl) (kX12_doubt_0 8 rfl) (by decide)
theorem dX12_doubt_9 : decode cX12_doubt 9 = .ok (.iconst (-1), 1) := dq_2 (kX12_doubt_0 9 rfl)
theorem dX12_doubt_10 : decode cX12_doubt 10 = .ok (.ireturn, 1) := dq_172 (kX12_doubt_0 10 rfl)
theorem dX12_doubt_11 : decode cX12_doubt 11 = .ok (.iconst 0, 1) := dq_3 (kX12_doubt_0 11 rfl)
theorem dX12_doubt_12 : decode cX12_doubt 12 = .ok (.istore_n 2, 1) := dq_61 (kX12_doubt_0 12 rfl)
theorem dX12_doubt_13 : decode cX12_doubt 13 = .ok (.iload_n 2, 1) := dq_28 (kX12_doubt_0 13 rfl)
theorem dX12_doubt_14 : decode cX12_doubt 14 = .ok (.aload_n 0, 1) := dq_42 (kX12_doubt_0 14 rfl)
theorem dX12_doubt_15 : decode cX12_doubt 15 = .ok (.getfield 709, 3) := dq_180 (kX12_doubt_0 15 rfl) (kX12_doubt_0 16 rfl) (kX12_doubt_0 17 rfl) rfl
theorem dX12_doubt_18 : decode cX12_doubt 18 = .ok (.if_icmp .ge 46, 3) := dq_162 (kX12_doubt_0 18 rfl) (kX12_doubt_0 19 rfl) (kX12_doubt_0 20 rfl) (by decide)
theorem dX12_doubt_21 : decode cX12_doubt 21 = .ok (.iload_n 2, 1) := dq_28 (kX12_doubt_0 21 rfl)
theorem dX12_doubt_22 : decode cX12_doubt 22 = .ok (.iconst 1, 1) := dq_4 (kX12_doubt_0 22 rfl)
theorem dX12_doubt_23 : decode cX12_doubt 23 = .ok (.iadd, 1) := dq_96 (kX12_doubt_0 23 rfl)
theorem dX12_doubt_24 : decode cX12_doubt 24 = .ok (.istore_n 3, 1) := dq_62 (kX12_doubt_0 24 rfl)
theorem dX12_doubt_25 : decode cX12_doubt 25 = .ok (.iload_n 3, 1) := dq_29 (kX12_doubt_0 25 rfl)
theorem dX12_doubt_26 : decode cX12_doubt 26 = .ok (.aload_n 0, 1) := dq_42 (kX12_doubt_0 26 rfl)
theorem dX12_doubt_27 : decode cX12_doubt 27 = .ok (.getfield 709, 3) := dq_180 (kX12_doubt_0 27 rfl) (kX12_doubt_0 28 rfl) (kX12_doubt_0 29 rfl) rfl
theorem dX12_doubt_30 : decode cX12_doubt 30 = .ok (.if_icmp .ge 28, 3) := dq_162 (kX12_doubt_0 30 rfl) (kX12_doubt_0 31 rfl) (kX12_doubt_1 0 rfl) (by decide)
theorem dX12_doubt_33 : decode cX12_doubt 33 = .ok (.aload_n 0, 1) := dq_42 (kX12_doubt_1 1 rfl)
theorem dX12_doubt_34 : decode cX12_doubt 34 = .ok (.iload_n 2, 1) := dq_28 (kX12_doubt_1 2 rfl)
theorem dX12_doubt_35 : decode cX12_doubt 35 = .ok (.iload_n 3, 1) := dq_29 (kX12_doubt_1 3 rfl)
theorem dX12_doubt_36 : decode cX12_doubt 36 = .ok (.invokevirtual 715, 3) := dq_182 (kX12_doubt_1 4 rfl) (kX12_doubt_1 5 rfl) (kX12_doubt_1 6 rfl) rfl
theorem dX12_doubt_39 : decode cX12_doubt 39 = .ok (.ifCond .eq 13, 3) := dq_153 (kX12_doubt_1 7 rfl) (kX12_doubt_1 8 rfl) (kX12_doubt_1 9 rfl) (by decide)
theorem dX12_doubt_42 : decode cX12_doubt 42 = .ok (.iload_n 1, 1) := dq_27 (kX12_doubt_1 10 rfl)
theorem dX12_doubt_43 : decode cX12_doubt 43 = .ok (.ifCond .ne 7, 3) := dq_154 (kX12_doubt_1 11 rfl) (kX12_doubt_1 12 rfl) (kX12_doubt_1 13 rfl) (by decide)
theorem dX12_doubt_46 : decode cX12_doubt 46 = .ok (.iload_n 2, 1) := dq_28 (kX12_doubt_1 14 rfl)
theorem dX12_doubt_47 : decode cX12_doubt 47 = .ok (.goto 4, 3) := dq_167 (kX12_doubt_1 15 rfl) (kX12_doubt_1 16 rfl) (kX12_doubt_1 17 rfl) (by decide)
theorem dX12_doubt_50 : decode cX12_doubt 50 = .ok (.iload_n 3, 1) := dq_29 (kX12_doubt_1 18 rfl)
theorem dX12_doubt_51 : decode cX12_doubt 51 = .ok (.ireturn, 1) := dq_172 (kX12_doubt_1 19 rfl)
theorem dX12_doubt_52 : decode cX12_doubt 52 = .ok (.iinc 3 1, 3) := dq_132 (kX12_doubt_1 20 rfl) (kX12_doubt_1 21 rfl) (kX12_doubt_1 22 rfl) rfl (by decide)
theorem dX12_doubt_55 : decode cX12_doubt 55 = .ok (.goto (-30), 3) := dq_167 (kX12_doubt_1 23 rfl) (kX12_doubt_1 24 rfl) (kX12_doubt_1 25 rfl) (by decide)
theorem dX12_doubt_58 : decode cX12_doubt 58 = .ok (.iinc 2 1, 3) := dq_132 (kX12_doubt_1 26 rfl) (kX12_doubt_1 27 rfl) (kX12_doubt_1 28 rfl) rfl (by decide)
theorem dX12_doubt_61 : decode cX12_doubt 61 = .ok (.goto (-48), 3) := dq_167 (kX12_doubt_1 29 rfl) (kX12_doubt_1 30 rfl) (kX12_doubt_1 31 rfl) (by decide)
theorem dX12_doubt_64 : decode cX12_doubt 64 = .ok (.iconst (-1), 1) := dq_2 (kX12_doubt_2 0 rfl)
theorem dX12_doubt_65 : decode cX12_doubt 65 = .ok (.ireturn, 1) := dq_172 (kX12_doubt_2 1 rfl)

def bX12_word_0 : List UInt8 := [27, 3, 17, 3, 232, 184, 1, 115, 153, 0, 12, 42, 180, 2, 206, 16, 7, 160, 0, 5, 2, 172, 42, 180, 1, 63, 42, 180, 2, 206, 27, 79]
theorem kX12_word_0 (j : Nat) {b : UInt8} (hj : bX12_word_0[j]? = some b) : AtB cX12_word (0 + j) b := at_of32 (by decide +kernel) j hj
def bX12_word_1 : List UInt8 := [42, 42, 180, 2, 206, 4, 96, 181, 2, 206, 42, 180, 2, 206, 4, 100, 172]
theorem kX12_word_1 (j : Nat) {b : UInt8} (hj : bX12_word_1[j]? = some b) : AtB cX12_word (32 + j) b := at_of32 (by decide +kernel) j hj
theorem dX12_word_0 : decode cX12_word 0 = .ok (.iload_n 1, 1) := dq_27 (kX12_word_0 0 rfl)
theorem dX12_word_1 : decode cX12_word 1 = .ok (.iconst 0, 1) := dq_3 (kX12_word_0 1 rfl)
theorem dX12_word_2 : decode cX12_word 2 = .ok (.sipush 1000, 3) := dq_17 (kX12_word_0 2 rfl) (kX12_word_0 3 rfl) (kX12_word_0 4 rfl) (by decide)
theorem dX12_word_5 : decode cX12_word 5 = .ok (.invokestatic 371, 3) := dq_184 (kX12_word_0 5 rfl) (kX12_word_0 6 rfl) (kX12_word_0 7 rfl) rfl
theorem dX12_word_8 : decode cX12_word 8 = .ok (.ifCond .eq 12, 3) := dq_153 (kX12_word_0 8 rfl) (kX12_word_0 9 rfl) (kX12_word_0 10 rfl) (by decide)
theorem dX12_word_11 : decode cX12_word 11 = .ok (.aload_n 0, 1) := dq_42 (kX12_word_0 11 rfl)
theorem dX12_word_12 : decode cX12_word 12 = .ok (.getfield 718, 3) := dq_180 (kX12_word_0 12 rfl) (kX12_word_0 13 rfl) (kX12_word_0 14 rfl) rfl
theorem dX12_word_15 : decode cX12_word 15 = .ok (.bipush 7, 2) := dq_16 (kX12_word_0 15 rfl) (kX12_word_0 16 rfl) (by decide)
theorem dX12_word_17 : decode cX12_word 17 = .ok (.if_icmp .ne 5, 3) := dq_160 (kX12_word_0 17 rfl) (kX12_word_0 18 rfl) (kX12_word_0 19 rfl) (by decide)
theorem dX12_word_20 : decode cX12_word 20 = .ok (.iconst (-1), 1) := dq_2 (kX12_word_0 20 rfl)
theorem dX12_word_21 : decode cX12_word 21 = .ok (.ireturn, 1) := dq_172 (kX12_word_0 21 rfl)
theorem dX12_word_22 : decode cX12_word 22 = .ok (.aload_n 0, 1) := dq_42 (kX12_word_0 22 rfl)
theorem dX12_word_23 : decode cX12_word 23 = .ok (.getfield 319, 3) := dq_180 (kX12_word_0 23 rfl) (kX12_word_0 24 rfl) (kX12_word_0 25 rfl) rfl
theorem dX12_word_26 : decode cX12_word 26 = .ok (.aload_n 0, 1) := dq_42 (kX12_word_0 26 rfl)
theorem dX12_word_27 : decode cX12_word 27 = .ok (.getfield 718, 3) := dq_180 (kX12_word_0 27 rfl) (kX12_word_0 28 rfl) (kX12_word_0 29 rfl) rfl
theorem dX12_word_30 : decode cX12_word 30 = .ok (.iload_n 1, 1) := dq_27 (kX12_word_0 30 rfl)
theorem dX12_word_31 : decode cX12_word 31 = .ok (.iastore, 1) := dq_79 (kX12_word_0 31 rfl)
theorem dX12_word_32 : decode cX12_word 32 = .ok (.aload_n 0, 1) := dq_42 (kX12_word_1 0 rfl)
theorem dX12_word_33 : decode cX12_word 33 = .ok (.aload_n 0, 1) := dq_42 (kX12_word_1 1 rfl)
theorem dX12_word_34 : decode cX12_word 34 = .ok (.getfield 718, 3) := dq_180 (kX12_word_1 2 rfl) (kX12_word_1 3 rfl) (kX12_word_1 4 rfl) rfl
theorem dX12_word_37 : decode cX12_word 37 = .ok (.iconst 1, 1) := dq_4 (kX12_word_1 5 rfl)
theorem dX12_word_38 : decode cX12_word 38 = .ok (.iadd, 1) := dq_96 (kX12_word_1 6 rfl)
theorem dX12_word_39 : decode cX12_word 39 = .ok (.putfield 718, 3) := dq_181 (kX12_word_1 7 rfl) (kX12_word_1 8 rfl) (kX12_word_1 9 rfl) rfl
theorem dX12_word_42 : decode cX12_word 42 = .ok (.aload_n 0, 1) := dq_42 (kX12_word_1 10 rfl)
theorem dX12_word_43 : decode cX12_word 43 = .ok (.getfield 718, 3) := dq_180 (kX12_word_1 11 rfl) (kX12_word_1 12 rfl) (kX12_word_1 13 rfl) rfl
theorem dX12_word_46 : decode cX12_word 46 = .ok (.iconst 1, 1) := dq_4 (kX12_word_1 14 rfl)
theorem dX12_word_47 : decode cX12_word 47 = .ok (.isub, 1) := dq_100 (kX12_word_1 15 rfl)
theorem dX12_word_48 : decode cX12_word 48 = .ok (.ireturn, 1) := dq_172 (kX12_word_1 16 rfl)

def bX12_isWord_0 : List UInt8 := [27, 155, 0, 15, 27, 42, 180, 2, 206, 162, 0, 7, 4, 167, 0, 4, 3, 172]
theorem kX12_isWord_0 (j : Nat) {b : UInt8} (hj : bX12_isWord_0[j]? = some b) : AtB cX12_isWord (0 + j) b := at_of32 (by decide +kernel) j hj
theorem dX12_isWord_0 : decode cX12_isWord 0 = .ok (.iload_n 1, 1) := dq_27 (kX12_isWord_0 0 rfl)
theorem dX12_isWord_1 : decode cX12_isWord 1 = .ok (.ifCond .lt 15, 3) := dq_155 (kX12_isWord_0 1 rfl) (kX12_isWord_0 2 rfl) (kX12_isWord_0 3 rfl) (by decide)
theorem dX12_isWord_4 : decode cX12_isWord 4 = .ok (.iload_n 1, 1) := dq_27 (kX12_isWord_0 4 rfl)
theorem dX12_isWord_5 : decode cX12_isWord 5 = .ok (.aload_n 0, 1) := dq_42 (kX12_isWord_0 5 rfl)
theorem dX12_isWord_6 : decode cX12_isWord 6 = .ok (.getfield 718, 3) := dq_180 (kX12_isWord_0 6 rfl) (kX12_isWord_0 7 rfl) (kX12_isWord_0 8 rfl) rfl
theorem dX12_isWord_9 : decode cX12_isWord 9 = .ok (.if_icmp .ge 7, 3) := dq_162 (kX12_isWord_0 9 rfl) (kX12_isWord_0 10 rfl) (kX12_isWord_0 11 rfl) (by decide)
theorem dX12_isWord_12 : decode cX12_isWord 12 = .ok (.iconst 1, 1) := dq_4 (kX12_isWord_0 12 rfl)
theorem dX12_isWord_13 : decode cX12_isWord 13 = .ok (.goto 4, 3) := dq_167 (kX12_isWord_0 13 rfl) (kX12_isWord_0 14 rfl) (kX12_isWord_0 15 rfl) (by decide)
theorem dX12_isWord_16 : decode cX12_isWord 16 = .ok (.iconst 0, 1) := dq_3 (kX12_isWord_0 16 rfl)
theorem dX12_isWord_17 : decode cX12_isWord 17 = .ok (.ireturn, 1) := dq_172 (kX12_isWord_0 17 rfl)

def bX12_asks_0 : List UInt8 := [42, 27, 182, 1, 150, 153, 0, 29, 42, 28, 182, 2, 209, 153, 0, 21, 29, 2, 159, 0, 11, 42, 29, 182, 2, 209, 153, 0, 8, 28, 29, 160]
theorem kX12_asks_0 (j : Nat) {b : UInt8} (hj : bX12_asks_0[j]? = some b) : AtB cX12_asks (0 + j) b := at_of32 (by decide +kernel) j hj
def bX12_asks_1 : List UInt8 := [0, 5, 3, 172, 16, 7, 27, 104, 28, 96, 54, 4, 29, 2, 160, 0, 16, 42, 180, 1, 66, 21, 4, 51, 153, 0, 23, 167, 0, 18, 42, 180]
theorem kX12_asks_1 (j : Nat) {b : UInt8} (hj : bX12_asks_1[j]? = some b) : AtB cX12_asks (32 + j) b := at_of32 (by decide +kernel) j hj
def bX12_asks_2 : List UInt8 := [1, 69, 16, 7, 21, 4, 104, 29, 96, 51, 153, 0, 5, 3, 172, 29, 2, 160, 0, 14, 42, 180, 1, 66, 21, 4, 4, 84, 167, 0, 16, 42]
theorem kX12_asks_2 (j : Nat) {b : UInt8} (hj : bX12_asks_2[j]? = some b) : AtB cX12_asks (64 + j) b := at_of32 (by decide +kernel) j hj
def bX12_asks_3 : List UInt8 := [180, 1, 69, 16, 7, 21, 4, 104, 29, 96, 4, 84, 4, 172]
theorem kX12_asks_3 (j : Nat) {b : UInt8} (hj : bX12_asks_3[j]? = some b) : AtB cX12_asks (96 + j) b := at_of32 (by decide +kernel) j hj
theorem dX12_asks_0 : decode cX12_asks 0 = .ok (.aload_n 0, 1) := dq_42 (kX12_asks_0 0 rfl)
theorem dX12_asks_1 : decode cX12_asks 1 = .ok (.iload_n 1, 1) := dq_27 (kX12_asks_0 1 rfl)
theorem dX12_asks_2 : decode cX12_asks 2 = .ok (.invokevirtual 406, 3) := dq_182 (kX12_asks_0 2 rfl) (kX12_asks_0 3 rfl) (kX12_asks_0 4 rfl) rfl
theorem dX12_asks_5 : decode cX12_asks 5 = .ok (.ifCond .eq 29, 3) := dq_153 (kX12_asks_0 5 rfl) (kX12_asks_0 6 rfl) (kX12_asks_0 7 rfl) (by decide)
theorem dX12_asks_8 : decode cX12_asks 8 = .ok (.aload_n 0, 1) := dq_42 (kX12_asks_0 8 rfl)
theorem dX12_asks_9 : decode cX12_asks 9 = .ok (.iload_n 2, 1) := dq_28 (kX12_asks_0 9 rfl)
theorem dX12_asks_10 : decode cX12_asks 10 = .ok (.invokevirtual 721, 3) := dq_182 (kX12_asks_0 10 rfl) (kX12_asks_0 11 rfl) (kX12_asks_0 12 rfl) rfl
theorem dX12_asks_13 : decode cX12_asks 13 = .ok (.ifCond .eq 21, 3) := dq_153 (kX12_asks_0 13 rfl) (kX12_asks_0 14 rfl) (kX12_asks_0 15 rfl) (by decide)
theorem dX12_asks_16 : decode cX12_asks 16 = .ok (.iload_n 3, 1) := dq_29 (kX12_asks_0 16 rfl)
theorem dX12_asks_17 : decode cX12_asks 17 = .ok (.iconst (-1), 1) := dq_2 (kX12_asks_0 17 rfl)
theorem dX12_asks_18 : decode cX12_asks 18 = .ok (.if_icmp .eq 11, 3) := dq_159 (kX12_asks_0 18 rfl) (kX12_asks_0 19 rfl) (kX12_asks_0 20 rfl) (by decide)
theorem dX12_asks_21 : decode cX12_asks 21 = .ok (.aload_n 0, 1) := dq_42 (kX12_asks_0 21 rfl)
theorem dX12_asks_22 : decode cX12_asks 22 = .ok (.iload_n 3, 1) := dq_29 (kX12_asks_0 22 rfl)
theorem dX12_asks_23 : decode cX12_asks 23 = .ok (.invokevirtual 721, 3) := dq_182 (kX12_asks_0 23 rfl) (kX12_asks_0 24 rfl) (kX12_asks_0 25 rfl) rfl
theorem dX12_asks_26 : decode cX12_asks 26 = .ok (.ifCond .eq 8, 3) := dq_153 (kX12_asks_0 26 rfl) (kX12_asks_0 27 rfl) (kX12_asks_0 28 rfl) (by decide)
theorem dX12_asks_29 : decode cX12_asks 29 = .ok (.iload_n 2, 1) := dq_28 (kX12_asks_0 29 rfl)
theorem dX12_asks_30 : decode cX12_asks 30 = .ok (.iload_n 3, 1) := dq_29 (kX12_asks_0 30 rfl)
theorem dX12_asks_31 : decode cX12_asks 31 = .ok (.if_icmp .ne 5, 3) := dq_160 (kX12_asks_0 31 rfl) (kX12_asks_1 0 rfl) (kX12_asks_1 1 rfl) (by decide)
theorem dX12_asks_34 : decode cX12_asks 34 = .ok (.iconst 0, 1) := dq_3 (kX12_asks_1 2 rfl)
theorem dX12_asks_35 : decode cX12_asks 35 = .ok (.ireturn, 1) := dq_172 (kX12_asks_1 3 rfl)
theorem dX12_asks_36 : decode cX12_asks 36 = .ok (.bipush 7, 2) := dq_16 (kX12_asks_1 4 rfl) (kX12_asks_1 5 rfl) (by decide)
theorem dX12_asks_38 : decode cX12_asks 38 = .ok (.iload_n 1, 1) := dq_27 (kX12_asks_1 6 rfl)
theorem dX12_asks_39 : decode cX12_asks 39 = .ok (.imul, 1) := dq_104 (kX12_asks_1 7 rfl)
theorem dX12_asks_40 : decode cX12_asks 40 = .ok (.iload_n 2, 1) := dq_28 (kX12_asks_1 8 rfl)
theorem dX12_asks_41 : decode cX12_asks 41 = .ok (.iadd, 1) := dq_96 (kX12_asks_1 9 rfl)
theorem dX12_asks_42 : decode cX12_asks 42 = .ok (.istore 4, 2) := dq_54 (kX12_asks_1 10 rfl) (kX12_asks_1 11 rfl) rfl
theorem dX12_asks_44 : decode cX12_asks 44 = .ok (.iload_n 3, 1) := dq_29 (kX12_asks_1 12 rfl)
theorem dX12_asks_45 : decode cX12_asks 45 = .ok (.iconst (-1), 1) := dq_2 (kX12_asks_1 13 rfl)
theorem dX12_asks_46 : decode cX12_asks 46 = .ok (.if_icmp .ne 16, 3) := dq_160 (kX12_asks_1 14 rfl) (kX12_asks_1 15 rfl) (kX12_asks_1 16 rfl) (by decide)
theorem dX12_asks_49 : decode cX12_asks 49 = .ok (.aload_n 0, 1) := dq_42 (kX12_asks_1 17 rfl)
theorem dX12_asks_50 : decode cX12_asks 50 = .ok (.getfield 322, 3) := dq_180 (kX12_asks_1 18 rfl) (kX12_asks_1 19 rfl) (kX12_asks_1 20 rfl) rfl
theorem dX12_asks_53 : decode cX12_asks 53 = .ok (.iload 4, 2) := dq_21 (kX12_asks_1 21 rfl) (kX12_asks_1 22 rfl) rfl
theorem dX12_asks_55 : decode cX12_asks 55 = .ok (.baload, 1) := dq_51 (kX12_asks_1 23 rfl)
theorem dX12_asks_56 : decode cX12_asks 56 = .ok (.ifCond .eq 23, 3) := dq_153 (kX12_asks_1 24 rfl) (kX12_asks_1 25 rfl) (kX12_asks_1 26 rfl) (by decide)
theorem dX12_asks_59 : decode cX12_asks 59 = .ok (.goto 18, 3) := dq_167 (kX12_asks_1 27 rfl) (kX12_asks_1 28 rfl) (kX12_asks_1 29 rfl) (by decide)
theorem dX12_asks_62 : decode cX12_asks 62 = .ok (.aload_n 0, 1) := dq_42 (kX12_asks_1 30 rfl)
theorem dX12_asks_63 : decode cX12_asks 63 = .ok (.getfield 325, 3) := dq_180 (kX12_asks_1 31 rfl) (kX12_asks_2 0 rfl) (kX12_asks_2 1 rfl) rfl
theorem dX12_asks_66 : decode cX12_asks 66 = .ok (.bipush 7, 2) := dq_16 (kX12_asks_2 2 rfl) (kX12_asks_2 3 rfl) (by decide)
theorem dX12_asks_68 : decode cX12_asks 68 = .ok (.iload 4, 2) := dq_21 (kX12_asks_2 4 rfl) (kX12_asks_2 5 rfl) rfl
theorem dX12_asks_70 : decode cX12_asks 70 = .ok (.imul, 1) := dq_104 (kX12_asks_2 6 rfl)
theorem dX12_asks_71 : decode cX12_asks 71 = .ok (.iload_n 3, 1) := dq_29 (kX12_asks_2 7 rfl)
theorem dX12_asks_72 : decode cX12_asks 72 = .ok (.iadd, 1) := dq_96 (kX12_asks_2 8 rfl)
theorem dX12_asks_73 : decode cX12_asks 73 = .ok (.baload, 1) := dq_51 (kX12_asks_2 9 rfl)
theorem dX12_asks_74 : decode cX12_asks 74 = .ok (.ifCond .eq 5, 3) := dq_153 (kX12_asks_2 10 rfl) (kX12_asks_2 11 rfl) (kX12_asks_2 12 rfl) (by decide)
theorem dX12_asks_77 : decode cX12_asks 77 = .ok (.iconst 0, 1) := dq_3 (kX12_asks_2 13 rfl)
theorem dX12_asks_78 : decode cX12_asks 78 = .ok (.ireturn, 1) := dq_172 (kX12_asks_2 14 rfl)
theorem dX12_asks_79 : decode cX12_asks 79 = .ok (.iload_n 3, 1) := dq_29 (kX12_asks_2 15 rfl)
theorem dX12_asks_80 : decode cX12_asks 80 = .ok (.iconst (-1), 1) := dq_2 (kX12_asks_2 16 rfl)
theorem dX12_asks_81 : decode cX12_asks 81 = .ok (.if_icmp .ne 14, 3) := dq_160 (kX12_asks_2 17 rfl) (kX12_asks_2 18 rfl) (kX12_asks_2 19 rfl) (by decide)
theorem dX12_asks_84 : decode cX12_asks 84 = .ok (.aload_n 0, 1) := dq_42 (kX12_asks_2 20 rfl)
theorem dX12_asks_85 : decode cX12_asks 85 = .ok (.getfield 322, 3) := dq_180 (kX12_asks_2 21 rfl) (kX12_asks_2 22 rfl) (kX12_asks_2 23 rfl) rfl
theorem dX12_asks_88 : decode cX12_asks 88 = .ok (.iload 4, 2) := dq_21 (kX12_asks_2 24 rfl) (kX12_asks_2 25 rfl) rfl
theorem dX12_asks_90 : decode cX12_asks 90 = .ok (.iconst 1, 1) := dq_4 (kX12_asks_2 26 rfl)
theorem dX12_asks_91 : decode cX12_asks 91 = .ok (.bastore, 1) := dq_84 (kX12_asks_2 27 rfl)
theorem dX12_asks_92 : decode cX12_asks 92 = .ok (.goto 16, 3) := dq_167 (kX12_asks_2 28 rfl) (kX12_asks_2 29 rfl) (kX12_asks_2 30 rfl) (by decide)
theorem dX12_asks_95 : decode cX12_asks 95 = .ok (.aload_n 0, 1) := dq_42 (kX12_asks_2 31 rfl)
theorem dX12_asks_96 : decode cX12_asks 96 = .ok (.getfield 325, 3) := dq_180 (kX12_asks_3 0 rfl) (kX12_asks_3 1 rfl) (kX12_asks_3 2 rfl) rfl
theorem dX12_asks_99 : decode cX12_asks 99 = .ok (.bipush 7, 2) := dq_16 (kX12_asks_3 3 rfl) (kX12_asks_3 4 rfl) (by decide)
theorem dX12_asks_101 : decode cX12_asks 101 = .ok (.iload 4, 2) := dq_21 (kX12_asks_3 5 rfl) (kX12_asks_3 6 rfl) rfl
theorem dX12_asks_103 : decode cX12_asks 103 = .ok (.imul, 1) := dq_104 (kX12_asks_3 7 rfl)
theorem dX12_asks_104 : decode cX12_asks 104 = .ok (.iload_n 3, 1) := dq_29 (kX12_asks_3 8 rfl)
theorem dX12_asks_105 : decode cX12_asks 105 = .ok (.iadd, 1) := dq_96 (kX12_asks_3 9 rfl)
theorem dX12_asks_106 : decode cX12_asks 106 = .ok (.iconst 1, 1) := dq_4 (kX12_asks_3 10 rfl)
theorem dX12_asks_107 : decode cX12_asks 107 = .ok (.bastore, 1) := dq_84 (kX12_asks_3 11 rfl)
theorem dX12_asks_108 : decode cX12_asks 108 = .ok (.iconst 1, 1) := dq_4 (kX12_asks_3 12 rfl)
theorem dX12_asks_109 : decode cX12_asks 109 = .ok (.ireturn, 1) := dq_172 (kX12_asks_3 13 rfl)

def bX12_isBlocked_0 : List UInt8 := [3, 62, 29, 42, 180, 2, 206, 162, 0, 92, 28, 29, 122, 4, 126, 4, 160, 0, 19, 42, 180, 1, 66, 16, 7, 27, 104, 29, 96, 51, 153, 0]
theorem kX12_isBlocked_0 (j : Nat) {b : UInt8} (hj : bX12_isBlocked_0[j]? = some b) : AtB cX12_isBlocked (0 + j) b := at_of32 (by decide +kernel) j hj
def bX12_isBlocked_1 : List UInt8 := [5, 4, 172, 3, 54, 4, 21, 4, 42, 180, 2, 206, 162, 0, 49, 28, 29, 122, 4, 126, 154, 0, 35, 28, 21, 4, 122, 4, 126, 4, 160, 0]
theorem kX12_isBlocked_1 (j : Nat) {b : UInt8} (hj : bX12_isBlocked_1[j]? = some b) : AtB cX12_isBlocked (32 + j) b := at_of32 (by decide +kernel) j hj
def bX12_isBlocked_2 : List UInt8 := [25, 42, 180, 1, 69, 16, 7, 16, 7, 27, 104, 29, 96, 104, 21, 4, 96, 51, 153, 0, 5, 4, 172, 132, 4, 1, 167, 255, 204, 132, 3, 1]
theorem kX12_isBlocked_2 (j : Nat) {b : UInt8} (hj : bX12_isBlocked_2[j]? = some b) : AtB cX12_isBlocked (64 + j) b := at_of32 (by decide +kernel) j hj
def bX12_isBlocked_3 : List UInt8 := [167, 255, 162, 3, 172]
theorem kX12_isBlocked_3 (j : Nat) {b : UInt8} (hj : bX12_isBlocked_3[j]? = some b) : AtB cX12_isBlocked (96 + j) b := at_of32 (by decide +kernel) j hj
theorem dX12_isBlocked_0 : decode cX12_isBlocked 0 = .ok (.iconst 0, 1) := dq_3 (kX12_isBlocked_0 0 rfl)
theorem dX12_isBlocked_1 : decode cX12_isBlocked 1 = .ok (.istore_n 3, 1) := dq_62 (kX12_isBlocked_0 1 rfl)
theorem dX12_isBlocked_2 : decode cX12_isBlocked 2 = .ok (.iload_n 3, 1) := dq_29 (kX12_isBlocked_0 2 rfl)
theorem dX12_isBlocked_3 : decode cX12_isBlocked 3 = .ok (.aload_n 0, 1) := dq_42 (kX12_isBlocked_0 3 rfl)
theorem dX12_isBlocked_4 : decode cX12_isBlocked 4 = .ok (.getfield 718, 3) := dq_180 (kX12_isBlocked_0 4 rfl) (kX12_isBlocked_0 5 rfl) (kX12_isBlocked_0 6 rfl) rfl
theorem dX12_isBlocked_7 : decode cX12_isBlocked 7 = .ok (.if_icmp .ge 92, 3) := dq_162 (kX12_isBlocked_0 7 rfl) (kX12_isBlocked_0 8 rfl) (kX12_isBlocked_0 9 rfl) (by decide)
theorem dX12_isBlocked_10 : decode cX12_isBlocked 10 = .ok (.iload_n 2, 1) := dq_28 (kX12_isBlocked_0 10 rfl)
theorem dX12_isBlocked_11 : decode cX12_isBlocked 11 = .ok (.iload_n 3, 1) := dq_29 (kX12_isBlocked_0 11 rfl)
theorem dX12_isBlocked_12 : decode cX12_isBlocked 12 = .ok (.ishr, 1) := dq_122 (kX12_isBlocked_0 12 rfl)
theorem dX12_isBlocked_13 : decode cX12_isBlocked 13 = .ok (.iconst 1, 1) := dq_4 (kX12_isBlocked_0 13 rfl)
theorem dX12_isBlocked_14 : decode cX12_isBlocked 14 = .ok (.iand, 1) := dq_126 (kX12_isBlocked_0 14 rfl)
theorem dX12_isBlocked_15 : decode cX12_isBlocked 15 = .ok (.iconst 1, 1) := dq_4 (kX12_isBlocked_0 15 rfl)
theorem dX12_isBlocked_16 : decode cX12_isBlocked 16 = .ok (.if_icmp .ne 19, 3) := dq_160 (kX12_isBlocked_0 16 rfl) (kX12_isBlocked_0 17 rfl) (kX12_isBlocked_0 18 rfl) (by decide)
theorem dX12_isBlocked_19 : decode cX12_isBlocked 19 = .ok (.aload_n 0, 1) := dq_42 (kX12_isBlocked_0 19 rfl)
theorem dX12_isBlocked_20 : decode cX12_isBlocked 20 = .ok (.getfield 322, 3) := dq_180 (kX12_isBlocked_0 20 rfl) (kX12_isBlocked_0 21 rfl) (kX12_isBlocked_0 22 rfl) rfl
theorem dX12_isBlocked_23 : decode cX12_isBlocked 23 = .ok (.bipush 7, 2) := dq_16 (kX12_isBlocked_0 23 rfl) (kX12_isBlocked_0 24 rfl) (by decide)
theorem dX12_isBlocked_25 : decode cX12_isBlocked 25 = .ok (.iload_n 1, 1) := dq_27 (kX12_isBlocked_0 25 rfl)
theorem dX12_isBlocked_26 : decode cX12_isBlocked 26 = .ok (.imul, 1) := dq_104 (kX12_isBlocked_0 26 rfl)
theorem dX12_isBlocked_27 : decode cX12_isBlocked 27 = .ok (.iload_n 3, 1) := dq_29 (kX12_isBlocked_0 27 rfl)
theorem dX12_isBlocked_28 : decode cX12_isBlocked 28 = .ok (.iadd, 1) := dq_96 (kX12_isBlocked_0 28 rfl)
theorem dX12_isBlocked_29 : decode cX12_isBlocked 29 = .ok (.baload, 1) := dq_51 (kX12_isBlocked_0 29 rfl)
theorem dX12_isBlocked_30 : decode cX12_isBlocked 30 = .ok (.ifCond .eq 5, 3) := dq_153 (kX12_isBlocked_0 30 rfl) (kX12_isBlocked_0 31 rfl) (kX12_isBlocked_1 0 rfl) (by decide)
theorem dX12_isBlocked_33 : decode cX12_isBlocked 33 = .ok (.iconst 1, 1) := dq_4 (kX12_isBlocked_1 1 rfl)
theorem dX12_isBlocked_34 : decode cX12_isBlocked 34 = .ok (.ireturn, 1) := dq_172 (kX12_isBlocked_1 2 rfl)
theorem dX12_isBlocked_35 : decode cX12_isBlocked 35 = .ok (.iconst 0, 1) := dq_3 (kX12_isBlocked_1 3 rfl)
theorem dX12_isBlocked_36 : decode cX12_isBlocked 36 = .ok (.istore 4, 2) := dq_54 (kX12_isBlocked_1 4 rfl) (kX12_isBlocked_1 5 rfl) rfl
theorem dX12_isBlocked_38 : decode cX12_isBlocked 38 = .ok (.iload 4, 2) := dq_21 (kX12_isBlocked_1 6 rfl) (kX12_isBlocked_1 7 rfl) rfl
theorem dX12_isBlocked_40 : decode cX12_isBlocked 40 = .ok (.aload_n 0, 1) := dq_42 (kX12_isBlocked_1 8 rfl)
theorem dX12_isBlocked_41 : decode cX12_isBlocked 41 = .ok (.getfield 718, 3) := dq_180 (kX12_isBlocked_1 9 rfl) (kX12_isBlocked_1 10 rfl) (kX12_isBlocked_1 11 rfl) rfl
theorem dX12_isBlocked_44 : decode cX12_isBlocked 44 = .ok (.if_icmp .ge 49, 3) := dq_162 (kX12_isBlocked_1 12 rfl) (kX12_isBlocked_1 13 rfl) (kX12_isBlocked_1 14 rfl) (by decide)
theorem dX12_isBlocked_47 : decode cX12_isBlocked 47 = .ok (.iload_n 2, 1) := dq_28 (kX12_isBlocked_1 15 rfl)
theorem dX12_isBlocked_48 : decode cX12_isBlocked 48 = .ok (.iload_n 3, 1) := dq_29 (kX12_isBlocked_1 16 rfl)
theorem dX12_isBlocked_49 : decode cX12_isBlocked 49 = .ok (.ishr, 1) := dq_122 (kX12_isBlocked_1 17 rfl)
theorem dX12_isBlocked_50 : decode cX12_isBlocked 50 = .ok (.iconst 1, 1) := dq_4 (kX12_isBlocked_1 18 rfl)
theorem dX12_isBlocked_51 : decode cX12_isBlocked 51 = .ok (.iand, 1) := dq_126 (kX12_isBlocked_1 19 rfl)
theorem dX12_isBlocked_52 : decode cX12_isBlocked 52 = .ok (.ifCond .ne 35, 3) := dq_154 (kX12_isBlocked_1 20 rfl) (kX12_isBlocked_1 21 rfl) (kX12_isBlocked_1 22 rfl) (by decide)
theorem dX12_isBlocked_55 : decode cX12_isBlocked 55 = .ok (.iload_n 2, 1) := dq_28 (kX12_isBlocked_1 23 rfl)
theorem dX12_isBlocked_56 : decode cX12_isBlocked 56 = .ok (.iload 4, 2) := dq_21 (kX12_isBlocked_1 24 rfl) (kX12_isBlocked_1 25 rfl) rfl
theorem dX12_isBlocked_58 : decode cX12_isBlocked 58 = .ok (.ishr, 1) := dq_122 (kX12_isBlocked_1 26 rfl)
theorem dX12_isBlocked_59 : decode cX12_isBlocked 59 = .ok (.iconst 1, 1) := dq_4 (kX12_isBlocked_1 27 rfl)
theorem dX12_isBlocked_60 : decode cX12_isBlocked 60 = .ok (.iand, 1) := dq_126 (kX12_isBlocked_1 28 rfl)
theorem dX12_isBlocked_61 : decode cX12_isBlocked 61 = .ok (.iconst 1, 1) := dq_4 (kX12_isBlocked_1 29 rfl)
theorem dX12_isBlocked_62 : decode cX12_isBlocked 62 = .ok (.if_icmp .ne 25, 3) := dq_160 (kX12_isBlocked_1 30 rfl) (kX12_isBlocked_1 31 rfl) (kX12_isBlocked_2 0 rfl) (by decide)
theorem dX12_isBlocked_65 : decode cX12_isBlocked 65 = .ok (.aload_n 0, 1) := dq_42 (kX12_isBlocked_2 1 rfl)
theorem dX12_isBlocked_66 : decode cX12_isBlocked 66 = .ok (.getfield 325, 3) := dq_180 (kX12_isBlocked_2 2 rfl) (kX12_isBlocked_2 3 rfl) (kX12_isBlocked_2 4 rfl) rfl
theorem dX12_isBlocked_69 : decode cX12_isBlocked 69 = .ok (.bipush 7, 2) := dq_16 (kX12_isBlocked_2 5 rfl) (kX12_isBlocked_2 6 rfl) (by decide)
theorem dX12_isBlocked_71 : decode cX12_isBlocked 71 = .ok (.bipush 7, 2) := dq_16 (kX12_isBlocked_2 7 rfl) (kX12_isBlocked_2 8 rfl) (by decide)
theorem dX12_isBlocked_73 : decode cX12_isBlocked 73 = .ok (.iload_n 1, 1) := dq_27 (kX12_isBlocked_2 9 rfl)
theorem dX12_isBlocked_74 : decode cX12_isBlocked 74 = .ok (.imul, 1) := dq_104 (kX12_isBlocked_2 10 rfl)
theorem dX12_isBlocked_75 : decode cX12_isBlocked 75 = .ok (.iload_n 3, 1) := dq_29 (kX12_isBlocked_2 11 rfl)
theorem dX12_isBlocked_76 : decode cX12_isBlocked 76 = .ok (.iadd, 1) := dq_96 (kX12_isBlocked_2 12 rfl)
theorem dX12_isBlocked_77 : decode cX12_isBlocked 77 = .ok (.imul, 1) := dq_104 (kX12_isBlocked_2 13 rfl)
theorem dX12_isBlocked_78 : decode cX12_isBlocked 78 = .ok (.iload 4, 2) := dq_21 (kX12_isBlocked_2 14 rfl) (kX12_isBlocked_2 15 rfl) rfl
theorem dX12_isBlocked_80 : decode cX12_isBlocked 80 = .ok (.iadd, 1) := dq_96 (kX12_isBlocked_2 16 rfl)
theorem dX12_isBlocked_81 : decode cX12_isBlocked 81 = .ok (.baload, 1) := dq_51 (kX12_isBlocked_2 17 rfl)
theorem dX12_isBlocked_82 : decode cX12_isBlocked 82 = .ok (.ifCond .eq 5, 3) := dq_153 (kX12_isBlocked_2 18 rfl) (kX12_isBlocked_2 19 rfl) (kX12_isBlocked_2 20 rfl) (by decide)
theorem dX12_isBlocked_85 : decode cX12_isBlocked 85 = .ok (.iconst 1, 1) := dq_4 (kX12_isBlocked_2 21 rfl)
theorem dX12_isBlocked_86 : decode cX12_isBlocked 86 = .ok (.ireturn, 1) := dq_172 (kX12_isBlocked_2 22 rfl)
theorem dX12_isBlocked_87 : decode cX12_isBlocked 87 = .ok (.iinc 4 1, 3) := dq_132 (kX12_isBlocked_2 23 rfl) (kX12_isBlocked_2 24 rfl) (kX12_isBlocked_2 25 rfl) rfl (by decide)
theorem dX12_isBlocked_90 : decode cX12_isBlocked 90 = .ok (.goto (-52), 3) := dq_167 (kX12_isBlocked_2 26 rfl) (kX12_isBlocked_2 27 rfl) (kX12_isBlocked_2 28 rfl) (by decide)
theorem dX12_isBlocked_93 : decode cX12_isBlocked 93 = .ok (.iinc 3 1, 3) := dq_132 (kX12_isBlocked_2 29 rfl) (kX12_isBlocked_2 30 rfl) (kX12_isBlocked_2 31 rfl) rfl (by decide)
theorem dX12_isBlocked_96 : decode cX12_isBlocked 96 = .ok (.goto (-94), 3) := dq_167 (kX12_isBlocked_3 0 rfl) (kX12_isBlocked_3 1 rfl) (kX12_isBlocked_3 2 rfl) (by decide)
theorem dX12_isBlocked_99 : decode cX12_isBlocked 99 = .ok (.iconst 0, 1) := dq_3 (kX12_isBlocked_3 3 rfl)
theorem dX12_isBlocked_100 : decode cX12_isBlocked 100 = .ok (.ireturn, 1) := dq_172 (kX12_isBlocked_3 4 rfl)

def bX12_blocks_0 : List UInt8 := [27, 3, 4, 42, 180, 2, 206, 120, 4, 100, 184, 1, 115, 154, 0, 5, 2, 172, 3, 61, 3, 62, 29, 42, 180, 1, 137, 162, 0, 28, 28, 42]
theorem kX12_blocks_0 (j : Nat) {b : UInt8} (hj : bX12_blocks_0[j]? = some b) : AtB cX12_blocks (0 + j) b := at_of32 (by decide +kernel) j hj
def bX12_blocks_1 : List UInt8 := [29, 27, 182, 2, 212, 153, 0, 9, 4, 29, 120, 167, 0, 4, 3, 128, 61, 132, 3, 1, 167, 255, 226, 28, 172]
theorem kX12_blocks_1 (j : Nat) {b : UInt8} (hj : bX12_blocks_1[j]? = some b) : AtB cX12_blocks (32 + j) b := at_of32 (by decide +kernel) j hj
theorem dX12_blocks_0 : decode cX12_blocks 0 = .ok (.iload_n 1, 1) := dq_27 (kX12_blocks_0 0 rfl)
theorem dX12_blocks_1 : decode cX12_blocks 1 = .ok (.iconst 0, 1) := dq_3 (kX12_blocks_0 1 rfl)
theorem dX12_blocks_2 : decode cX12_blocks 2 = .ok (.iconst 1, 1) := dq_4 (kX12_blocks_0 2 rfl)
theorem dX12_blocks_3 : decode cX12_blocks 3 = .ok (.aload_n 0, 1) := dq_42 (kX12_blocks_0 3 rfl)
theorem dX12_blocks_4 : decode cX12_blocks 4 = .ok (.getfield 718, 3) := dq_180 (kX12_blocks_0 4 rfl) (kX12_blocks_0 5 rfl) (kX12_blocks_0 6 rfl) rfl
theorem dX12_blocks_7 : decode cX12_blocks 7 = .ok (.ishl, 1) := dq_120 (kX12_blocks_0 7 rfl)
theorem dX12_blocks_8 : decode cX12_blocks 8 = .ok (.iconst 1, 1) := dq_4 (kX12_blocks_0 8 rfl)
theorem dX12_blocks_9 : decode cX12_blocks 9 = .ok (.isub, 1) := dq_100 (kX12_blocks_0 9 rfl)
theorem dX12_blocks_10 : decode cX12_blocks 10 = .ok (.invokestatic 371, 3) := dq_184 (kX12_blocks_0 10 rfl) (kX12_blocks_0 11 rfl) (kX12_blocks_0 12 rfl) rfl
theorem dX12_blocks_13 : decode cX12_blocks 13 = .ok (.ifCond .ne 5, 3) := dq_154 (kX12_blocks_0 13 rfl) (kX12_blocks_0 14 rfl) (kX12_blocks_0 15 rfl) (by decide)
theorem dX12_blocks_16 : decode cX12_blocks 16 = .ok (.iconst (-1), 1) := dq_2 (kX12_blocks_0 16 rfl)
theorem dX12_blocks_17 : decode cX12_blocks 17 = .ok (.ireturn, 1) := dq_172 (kX12_blocks_0 17 rfl)
theorem dX12_blocks_18 : decode cX12_blocks 18 = .ok (.iconst 0, 1) := dq_3 (kX12_blocks_0 18 rfl)
theorem dX12_blocks_19 : decode cX12_blocks 19 = .ok (.istore_n 2, 1) := dq_61 (kX12_blocks_0 19 rfl)
theorem dX12_blocks_20 : decode cX12_blocks 20 = .ok (.iconst 0, 1) := dq_3 (kX12_blocks_0 20 rfl)
theorem dX12_blocks_21 : decode cX12_blocks 21 = .ok (.istore_n 3, 1) := dq_62 (kX12_blocks_0 21 rfl)
theorem dX12_blocks_22 : decode cX12_blocks 22 = .ok (.iload_n 3, 1) := dq_29 (kX12_blocks_0 22 rfl)
theorem dX12_blocks_23 : decode cX12_blocks 23 = .ok (.aload_n 0, 1) := dq_42 (kX12_blocks_0 23 rfl)
theorem dX12_blocks_24 : decode cX12_blocks 24 = .ok (.getfield 393, 3) := dq_180 (kX12_blocks_0 24 rfl) (kX12_blocks_0 25 rfl) (kX12_blocks_0 26 rfl) rfl
theorem dX12_blocks_27 : decode cX12_blocks 27 = .ok (.if_icmp .ge 28, 3) := dq_162 (kX12_blocks_0 27 rfl) (kX12_blocks_0 28 rfl) (kX12_blocks_0 29 rfl) (by decide)
theorem dX12_blocks_30 : decode cX12_blocks 30 = .ok (.iload_n 2, 1) := dq_28 (kX12_blocks_0 30 rfl)
theorem dX12_blocks_31 : decode cX12_blocks 31 = .ok (.aload_n 0, 1) := dq_42 (kX12_blocks_0 31 rfl)
theorem dX12_blocks_32 : decode cX12_blocks 32 = .ok (.iload_n 3, 1) := dq_29 (kX12_blocks_1 0 rfl)
theorem dX12_blocks_33 : decode cX12_blocks 33 = .ok (.iload_n 1, 1) := dq_27 (kX12_blocks_1 1 rfl)
theorem dX12_blocks_34 : decode cX12_blocks 34 = .ok (.invokevirtual 724, 3) := dq_182 (kX12_blocks_1 2 rfl) (kX12_blocks_1 3 rfl) (kX12_blocks_1 4 rfl) rfl
theorem dX12_blocks_37 : decode cX12_blocks 37 = .ok (.ifCond .eq 9, 3) := dq_153 (kX12_blocks_1 5 rfl) (kX12_blocks_1 6 rfl) (kX12_blocks_1 7 rfl) (by decide)
theorem dX12_blocks_40 : decode cX12_blocks 40 = .ok (.iconst 1, 1) := dq_4 (kX12_blocks_1 8 rfl)
theorem dX12_blocks_41 : decode cX12_blocks 41 = .ok (.iload_n 3, 1) := dq_29 (kX12_blocks_1 9 rfl)
theorem dX12_blocks_42 : decode cX12_blocks 42 = .ok (.ishl, 1) := dq_120 (kX12_blocks_1 10 rfl)
theorem dX12_blocks_43 : decode cX12_blocks 43 = .ok (.goto 4, 3) := dq_167 (kX12_blocks_1 11 rfl) (kX12_blocks_1 12 rfl) (kX12_blocks_1 13 rfl) (by decide)
theorem dX12_blocks_46 : decode cX12_blocks 46 = .ok (.iconst 0, 1) := dq_3 (kX12_blocks_1 14 rfl)
theorem dX12_blocks_47 : decode cX12_blocks 47 = .ok (.ior, 1) := dq_128 (kX12_blocks_1 15 rfl)
theorem dX12_blocks_48 : decode cX12_blocks 48 = .ok (.istore_n 2, 1) := dq_61 (kX12_blocks_1 16 rfl)
theorem dX12_blocks_49 : decode cX12_blocks 49 = .ok (.iinc 3 1, 3) := dq_132 (kX12_blocks_1 17 rfl) (kX12_blocks_1 18 rfl) (kX12_blocks_1 19 rfl) rfl (by decide)
theorem dX12_blocks_52 : decode cX12_blocks 52 = .ok (.goto (-30), 3) := dq_167 (kX12_blocks_1 20 rfl) (kX12_blocks_1 21 rfl) (kX12_blocks_1 22 rfl) (by decide)
theorem dX12_blocks_55 : decode cX12_blocks 55 = .ok (.iload_n 2, 1) := dq_28 (kX12_blocks_1 23 rfl)
theorem dX12_blocks_56 : decode cX12_blocks 56 = .ok (.ireturn, 1) := dq_172 (kX12_blocks_1 24 rfl)

def bX12_worthOf_0 : List UInt8 := [3, 61, 3, 62, 29, 42, 180, 2, 206, 162, 0, 31, 28, 27, 29, 122, 4, 126, 4, 160, 0, 12, 42, 180, 1, 63, 29, 46, 167, 0, 4, 3]
theorem kX12_worthOf_0 (j : Nat) {b : UInt8} (hj : bX12_worthOf_0[j]? = some b) : AtB cX12_worthOf (0 + j) b := at_of32 (by decide +kernel) j hj
def bX12_worthOf_1 : List UInt8 := [96, 61, 132, 3, 1, 167, 255, 223, 28, 172]
theorem kX12_worthOf_1 (j : Nat) {b : UInt8} (hj : bX12_worthOf_1[j]? = some b) : AtB cX12_worthOf (32 + j) b := at_of32 (by decide +kernel) j hj
theorem dX12_worthOf_0 : decode cX12_worthOf 0 = .ok (.iconst 0, 1) := dq_3 (kX12_worthOf_0 0 rfl)
theorem dX12_worthOf_1 : decode cX12_worthOf 1 = .ok (.istore_n 2, 1) := dq_61 (kX12_worthOf_0 1 rfl)
theorem dX12_worthOf_2 : decode cX12_worthOf 2 = .ok (.iconst 0, 1) := dq_3 (kX12_worthOf_0 2 rfl)
theorem dX12_worthOf_3 : decode cX12_worthOf 3 = .ok (.istore_n 3, 1) := dq_62 (kX12_worthOf_0 3 rfl)
theorem dX12_worthOf_4 : decode cX12_worthOf 4 = .ok (.iload_n 3, 1) := dq_29 (kX12_worthOf_0 4 rfl)
theorem dX12_worthOf_5 : decode cX12_worthOf 5 = .ok (.aload_n 0, 1) := dq_42 (kX12_worthOf_0 5 rfl)
theorem dX12_worthOf_6 : decode cX12_worthOf 6 = .ok (.getfield 718, 3) := dq_180 (kX12_worthOf_0 6 rfl) (kX12_worthOf_0 7 rfl) (kX12_worthOf_0 8 rfl) rfl
theorem dX12_worthOf_9 : decode cX12_worthOf 9 = .ok (.if_icmp .ge 31, 3) := dq_162 (kX12_worthOf_0 9 rfl) (kX12_worthOf_0 10 rfl) (kX12_worthOf_0 11 rfl) (by decide)
theorem dX12_worthOf_12 : decode cX12_worthOf 12 = .ok (.iload_n 2, 1) := dq_28 (kX12_worthOf_0 12 rfl)
theorem dX12_worthOf_13 : decode cX12_worthOf 13 = .ok (.iload_n 1, 1) := dq_27 (kX12_worthOf_0 13 rfl)
theorem dX12_worthOf_14 : decode cX12_worthOf 14 = .ok (.iload_n 3, 1) := dq_29 (kX12_worthOf_0 14 rfl)
theorem dX12_worthOf_15 : decode cX12_worthOf 15 = .ok (.ishr, 1) := dq_122 (kX12_worthOf_0 15 rfl)
theorem dX12_worthOf_16 : decode cX12_worthOf 16 = .ok (.iconst 1, 1) := dq_4 (kX12_worthOf_0 16 rfl)
theorem dX12_worthOf_17 : decode cX12_worthOf 17 = .ok (.iand, 1) := dq_126 (kX12_worthOf_0 17 rfl)
theorem dX12_worthOf_18 : decode cX12_worthOf 18 = .ok (.iconst 1, 1) := dq_4 (kX12_worthOf_0 18 rfl)
theorem dX12_worthOf_19 : decode cX12_worthOf 19 = .ok (.if_icmp .ne 12, 3) := dq_160 (kX12_worthOf_0 19 rfl) (kX12_worthOf_0 20 rfl) (kX12_worthOf_0 21 rfl) (by decide)
theorem dX12_worthOf_22 : decode cX12_worthOf 22 = .ok (.aload_n 0, 1) := dq_42 (kX12_worthOf_0 22 rfl)
theorem dX12_worthOf_23 : decode cX12_worthOf 23 = .ok (.getfield 319, 3) := dq_180 (kX12_worthOf_0 23 rfl) (kX12_worthOf_0 24 rfl) (kX12_worthOf_0 25 rfl) rfl
theorem dX12_worthOf_26 : decode cX12_worthOf 26 = .ok (.iload_n 3, 1) := dq_29 (kX12_worthOf_0 26 rfl)
theorem dX12_worthOf_27 : decode cX12_worthOf 27 = .ok (.iaload, 1) := dq_46 (kX12_worthOf_0 27 rfl)
theorem dX12_worthOf_28 : decode cX12_worthOf 28 = .ok (.goto 4, 3) := dq_167 (kX12_worthOf_0 28 rfl) (kX12_worthOf_0 29 rfl) (kX12_worthOf_0 30 rfl) (by decide)
theorem dX12_worthOf_31 : decode cX12_worthOf 31 = .ok (.iconst 0, 1) := dq_3 (kX12_worthOf_0 31 rfl)
theorem dX12_worthOf_32 : decode cX12_worthOf 32 = .ok (.iadd, 1) := dq_96 (kX12_worthOf_1 0 rfl)
theorem dX12_worthOf_33 : decode cX12_worthOf 33 = .ok (.istore_n 2, 1) := dq_61 (kX12_worthOf_1 1 rfl)
theorem dX12_worthOf_34 : decode cX12_worthOf 34 = .ok (.iinc 3 1, 3) := dq_132 (kX12_worthOf_1 2 rfl) (kX12_worthOf_1 3 rfl) (kX12_worthOf_1 4 rfl) rfl (by decide)
theorem dX12_worthOf_37 : decode cX12_worthOf 37 = .ok (.goto (-33), 3) := dq_167 (kX12_worthOf_1 5 rfl) (kX12_worthOf_1 6 rfl) (kX12_worthOf_1 7 rfl) (by decide)
theorem dX12_worthOf_40 : decode cX12_worthOf 40 = .ok (.iload_n 2, 1) := dq_28 (kX12_worthOf_1 8 rfl)
theorem dX12_worthOf_41 : decode cX12_worthOf 41 = .ok (.ireturn, 1) := dq_172 (kX12_worthOf_1 9 rfl)

def bX12_bits_0 : List UInt8 := [3, 60, 3, 61, 28, 16, 9, 162, 0, 17, 27, 26, 28, 122, 4, 126, 96, 60, 132, 2, 1, 167, 255, 239, 27, 172]
theorem kX12_bits_0 (j : Nat) {b : UInt8} (hj : bX12_bits_0[j]? = some b) : AtB cX12_bits (0 + j) b := at_of32 (by decide +kernel) j hj
theorem dX12_bits_0 : decode cX12_bits 0 = .ok (.iconst 0, 1) := dq_3 (kX12_bits_0 0 rfl)
theorem dX12_bits_1 : decode cX12_bits 1 = .ok (.istore_n 1, 1) := dq_60 (kX12_bits_0 1 rfl)
theorem dX12_bits_2 : decode cX12_bits 2 = .ok (.iconst 0, 1) := dq_3 (kX12_bits_0 2 rfl)
theorem dX12_bits_3 : decode cX12_bits 3 = .ok (.istore_n 2, 1) := dq_61 (kX12_bits_0 3 rfl)
theorem dX12_bits_4 : decode cX12_bits 4 = .ok (.iload_n 2, 1) := dq_28 (kX12_bits_0 4 rfl)
theorem dX12_bits_5 : decode cX12_bits 5 = .ok (.bipush 9, 2) := dq_16 (kX12_bits_0 5 rfl) (kX12_bits_0 6 rfl) (by decide)
theorem dX12_bits_7 : decode cX12_bits 7 = .ok (.if_icmp .ge 17, 3) := dq_162 (kX12_bits_0 7 rfl) (kX12_bits_0 8 rfl) (kX12_bits_0 9 rfl) (by decide)
theorem dX12_bits_10 : decode cX12_bits 10 = .ok (.iload_n 1, 1) := dq_27 (kX12_bits_0 10 rfl)
theorem dX12_bits_11 : decode cX12_bits 11 = .ok (.iload_n 0, 1) := dq_26 (kX12_bits_0 11 rfl)
theorem dX12_bits_12 : decode cX12_bits 12 = .ok (.iload_n 2, 1) := dq_28 (kX12_bits_0 12 rfl)
theorem dX12_bits_13 : decode cX12_bits 13 = .ok (.ishr, 1) := dq_122 (kX12_bits_0 13 rfl)
theorem dX12_bits_14 : decode cX12_bits 14 = .ok (.iconst 1, 1) := dq_4 (kX12_bits_0 14 rfl)
theorem dX12_bits_15 : decode cX12_bits 15 = .ok (.iand, 1) := dq_126 (kX12_bits_0 15 rfl)
theorem dX12_bits_16 : decode cX12_bits 16 = .ok (.iadd, 1) := dq_96 (kX12_bits_0 16 rfl)
theorem dX12_bits_17 : decode cX12_bits 17 = .ok (.istore_n 1, 1) := dq_60 (kX12_bits_0 17 rfl)
theorem dX12_bits_18 : decode cX12_bits 18 = .ok (.iinc 2 1, 3) := dq_132 (kX12_bits_0 18 rfl) (kX12_bits_0 19 rfl) (kX12_bits_0 20 rfl) rfl (by decide)
theorem dX12_bits_21 : decode cX12_bits 21 = .ok (.goto (-17), 3) := dq_167 (kX12_bits_0 21 rfl) (kX12_bits_0 22 rfl) (kX12_bits_0 23 rfl) (by decide)
theorem dX12_bits_24 : decode cX12_bits 24 = .ok (.iload_n 1, 1) := dq_27 (kX12_bits_0 24 rfl)
theorem dX12_bits_25 : decode cX12_bits 25 = .ok (.ireturn, 1) := dq_172 (kX12_bits_0 25 rfl)

def bX12_best_0 : List UInt8 := [3, 60, 3, 61, 28, 42, 180, 1, 137, 162, 0, 31, 27, 42, 28, 42, 180, 1, 140, 182, 1, 156, 153, 0, 9, 4, 28, 120, 167, 0, 4, 3]
theorem kX12_best_0 (j : Nat) {b : UInt8} (hj : bX12_best_0[j]? = some b) : AtB cX12_best (0 + j) b := at_of32 (by decide +kernel) j hj
def bX12_best_1 : List UInt8 := [128, 60, 132, 2, 1, 167, 255, 223, 3, 61, 4, 62, 29, 4, 42, 180, 2, 206, 120, 162, 0, 58, 42, 29, 182, 2, 215, 27, 126, 153, 0, 6]
theorem kX12_best_1 (j : Nat) {b : UInt8} (hj : bX12_best_1[j]? = some b) : AtB cX12_best (32 + j) b := at_of32 (by decide +kernel) j hj
def bX12_best_2 : List UInt8 := [167, 0, 39, 42, 29, 182, 2, 218, 42, 28, 182, 2, 218, 100, 54, 4, 21, 4, 157, 0, 19, 21, 4, 154, 0, 16, 29, 184, 2, 221, 28, 184]
theorem kX12_best_2 (j : Nat) {b : UInt8} (hj : bX12_best_2[j]? = some b) : AtB cX12_best (64 + j) b := at_of32 (by decide +kernel) j hj
def bX12_best_3 : List UInt8 := [2, 221, 162, 0, 5, 29, 61, 132, 3, 1, 167, 255, 194, 28, 172]
theorem kX12_best_3 (j : Nat) {b : UInt8} (hj : bX12_best_3[j]? = some b) : AtB cX12_best (96 + j) b := at_of32 (by decide +kernel) j hj
theorem dX12_best_0 : decode cX12_best 0 = .ok (.iconst 0, 1) := dq_3 (kX12_best_0 0 rfl)
theorem dX12_best_1 : decode cX12_best 1 = .ok (.istore_n 1, 1) := dq_60 (kX12_best_0 1 rfl)
theorem dX12_best_2 : decode cX12_best 2 = .ok (.iconst 0, 1) := dq_3 (kX12_best_0 2 rfl)
theorem dX12_best_3 : decode cX12_best 3 = .ok (.istore_n 2, 1) := dq_61 (kX12_best_0 3 rfl)
theorem dX12_best_4 : decode cX12_best 4 = .ok (.iload_n 2, 1) := dq_28 (kX12_best_0 4 rfl)
theorem dX12_best_5 : decode cX12_best 5 = .ok (.aload_n 0, 1) := dq_42 (kX12_best_0 5 rfl)
theorem dX12_best_6 : decode cX12_best 6 = .ok (.getfield 393, 3) := dq_180 (kX12_best_0 6 rfl) (kX12_best_0 7 rfl) (kX12_best_0 8 rfl) rfl
theorem dX12_best_9 : decode cX12_best 9 = .ok (.if_icmp .ge 31, 3) := dq_162 (kX12_best_0 9 rfl) (kX12_best_0 10 rfl) (kX12_best_0 11 rfl) (by decide)
theorem dX12_best_12 : decode cX12_best 12 = .ok (.iload_n 1, 1) := dq_27 (kX12_best_0 12 rfl)
theorem dX12_best_13 : decode cX12_best 13 = .ok (.aload_n 0, 1) := dq_42 (kX12_best_0 13 rfl)
theorem dX12_best_14 : decode cX12_best 14 = .ok (.iload_n 2, 1) := dq_28 (kX12_best_0 14 rfl)
theorem dX12_best_15 : decode cX12_best 15 = .ok (.aload_n 0, 1) := dq_42 (kX12_best_0 15 rfl)
theorem dX12_best_16 : decode cX12_best 16 = .ok (.getfield 396, 3) := dq_180 (kX12_best_0 16 rfl) (kX12_best_0 17 rfl) (kX12_best_0 18 rfl) rfl
theorem dX12_best_19 : decode cX12_best 19 = .ok (.invokevirtual 412, 3) := dq_182 (kX12_best_0 19 rfl) (kX12_best_0 20 rfl) (kX12_best_0 21 rfl) rfl
theorem dX12_best_22 : decode cX12_best 22 = .ok (.ifCond .eq 9, 3) := dq_153 (kX12_best_0 22 rfl) (kX12_best_0 23 rfl) (kX12_best_0 24 rfl) (by decide)
theorem dX12_best_25 : decode cX12_best 25 = .ok (.iconst 1, 1) := dq_4 (kX12_best_0 25 rfl)
theorem dX12_best_26 : decode cX12_best 26 = .ok (.iload_n 2, 1) := dq_28 (kX12_best_0 26 rfl)
theorem dX12_best_27 : decode cX12_best 27 = .ok (.ishl, 1) := dq_120 (kX12_best_0 27 rfl)
theorem dX12_best_28 : decode cX12_best 28 = .ok (.goto 4, 3) := dq_167 (kX12_best_0 28 rfl) (kX12_best_0 29 rfl) (kX12_best_0 30 rfl) (by decide)
theorem dX12_best_31 : decode cX12_best 31 = .ok (.iconst 0, 1) := dq_3 (kX12_best_0 31 rfl)
theorem dX12_best_32 : decode cX12_best 32 = .ok (.ior, 1) := dq_128 (kX12_best_1 0 rfl)
theorem dX12_best_33 : decode cX12_best 33 = .ok (.istore_n 1, 1) := dq_60 (kX12_best_1 1 rfl)
theorem dX12_best_34 : decode cX12_best 34 = .ok (.iinc 2 1, 3) := dq_132 (kX12_best_1 2 rfl) (kX12_best_1 3 rfl) (kX12_best_1 4 rfl) rfl (by decide)
theorem dX12_best_37 : decode cX12_best 37 = .ok (.goto (-33), 3) := dq_167 (kX12_best_1 5 rfl) (kX12_best_1 6 rfl) (kX12_best_1 7 rfl) (by decide)
theorem dX12_best_40 : decode cX12_best 40 = .ok (.iconst 0, 1) := dq_3 (kX12_best_1 8 rfl)
theorem dX12_best_41 : decode cX12_best 41 = .ok (.istore_n 2, 1) := dq_61 (kX12_best_1 9 rfl)
theorem dX12_best_42 : decode cX12_best 42 = .ok (.iconst 1, 1) := dq_4 (kX12_best_1 10 rfl)
theorem dX12_best_43 : decode cX12_best 43 = .ok (.istore_n 3, 1) := dq_62 (kX12_best_1 11 rfl)
theorem dX12_best_44 : decode cX12_best 44 = .ok (.iload_n 3, 1) := dq_29 (kX12_best_1 12 rfl)
theorem dX12_best_45 : decode cX12_best 45 = .ok (.iconst 1, 1) := dq_4 (kX12_best_1 13 rfl)
theorem dX12_best_46 : decode cX12_best 46 = .ok (.aload_n 0, 1) := dq_42 (kX12_best_1 14 rfl)
theorem dX12_best_47 : decode cX12_best 47 = .ok (.getfield 718, 3) := dq_180 (kX12_best_1 15 rfl) (kX12_best_1 16 rfl) (kX12_best_1 17 rfl) rfl
theorem dX12_best_50 : decode cX12_best 50 = .ok (.ishl, 1) := dq_120 (kX12_best_1 18 rfl)
theorem dX12_best_51 : decode cX12_best 51 = .ok (.if_icmp .ge 58, 3) := dq_162 (kX12_best_1 19 rfl) (kX12_best_1 20 rfl) (kX12_best_1 21 rfl) (by decide)
theorem dX12_best_54 : decode cX12_best 54 = .ok (.aload_n 0, 1) := dq_42 (kX12_best_1 22 rfl)
theorem dX12_best_55 : decode cX12_best 55 = .ok (.iload_n 3, 1) := dq_29 (kX12_best_1 23 rfl)
theorem dX12_best_56 : decode cX12_best 56 = .ok (.invokevirtual 727, 3) := dq_182 (kX12_best_1 24 rfl) (kX12_best_1 25 rfl) (kX12_best_1 26 rfl) rfl
theorem dX12_best_59 : decode cX12_best 59 = .ok (.iload_n 1, 1) := dq_27 (kX12_best_1 27 rfl)
theorem dX12_best_60 : decode cX12_best 60 = .ok (.iand, 1) := dq_126 (kX12_best_1 28 rfl)
theorem dX12_best_61 : decode cX12_best 61 = .ok (.ifCond .eq 6, 3) := dq_153 (kX12_best_1 29 rfl) (kX12_best_1 30 rfl) (kX12_best_1 31 rfl) (by decide)
theorem dX12_best_64 : decode cX12_best 64 = .ok (.goto 39, 3) := dq_167 (kX12_best_2 0 rfl) (kX12_best_2 1 rfl) (kX12_best_2 2 rfl) (by decide)
theorem dX12_best_67 : decode cX12_best 67 = .ok (.aload_n 0, 1) := dq_42 (kX12_best_2 3 rfl)
theorem dX12_best_68 : decode cX12_best 68 = .ok (.iload_n 3, 1) := dq_29 (kX12_best_2 4 rfl)
theorem dX12_best_69 : decode cX12_best 69 = .ok (.invokevirtual 730, 3) := dq_182 (kX12_best_2 5 rfl) (kX12_best_2 6 rfl) (kX12_best_2 7 rfl) rfl
theorem dX12_best_72 : decode cX12_best 72 = .ok (.aload_n 0, 1) := dq_42 (kX12_best_2 8 rfl)
theorem dX12_best_73 : decode cX12_best 73 = .ok (.iload_n 2, 1) := dq_28 (kX12_best_2 9 rfl)
theorem dX12_best_74 : decode cX12_best 74 = .ok (.invokevirtual 730, 3) := dq_182 (kX12_best_2 10 rfl) (kX12_best_2 11 rfl) (kX12_best_2 12 rfl) rfl
theorem dX12_best_77 : decode cX12_best 77 = .ok (.isub, 1) := dq_100 (kX12_best_2 13 rfl)
theorem dX12_best_78 : decode cX12_best 78 = .ok (.istore 4, 2) := dq_54 (kX12_best_2 14 rfl) (kX12_best_2 15 rfl) rfl
theorem dX12_best_80 : decode cX12_best 80 = .ok (.iload 4, 2) := dq_21 (kX12_best_2 16 rfl) (kX12_best_2 17 rfl) rfl
theorem dX12_best_82 : decode cX12_best 82 = .ok (.ifCond .gt 19, 3) := dq_157 (kX12_best_2 18 rfl) (kX12_best_2 19 rfl) (kX12_best_2 20 rfl) (by decide)
theorem dX12_best_85 : decode cX12_best 85 = .ok (.iload 4, 2) := dq_21 (kX12_best_2 21 rfl) (kX12_best_2 22 rfl) rfl
theorem dX12_best_87 : decode cX12_best 87 = .ok (.ifCond .ne 16, 3) := dq_154 (kX12_best_2 23 rfl) (kX12_best_2 24 rfl) (kX12_best_2 25 rfl) (by decide)
theorem dX12_best_90 : decode cX12_best 90 = .ok (.iload_n 3, 1) := dq_29 (kX12_best_2 26 rfl)
theorem dX12_best_91 : decode cX12_best 91 = .ok (.invokestatic 733, 3) := dq_184 (kX12_best_2 27 rfl) (kX12_best_2 28 rfl) (kX12_best_2 29 rfl) rfl
theorem dX12_best_94 : decode cX12_best 94 = .ok (.iload_n 2, 1) := dq_28 (kX12_best_2 30 rfl)
theorem dX12_best_95 : decode cX12_best 95 = .ok (.invokestatic 733, 3) := dq_184 (kX12_best_2 31 rfl) (kX12_best_3 0 rfl) (kX12_best_3 1 rfl) rfl
theorem dX12_best_98 : decode cX12_best 98 = .ok (.if_icmp .ge 5, 3) := dq_162 (kX12_best_3 2 rfl) (kX12_best_3 3 rfl) (kX12_best_3 4 rfl) (by decide)
theorem dX12_best_101 : decode cX12_best 101 = .ok (.iload_n 3, 1) := dq_29 (kX12_best_3 5 rfl)
theorem dX12_best_102 : decode cX12_best 102 = .ok (.istore_n 2, 1) := dq_61 (kX12_best_3 6 rfl)
theorem dX12_best_103 : decode cX12_best 103 = .ok (.iinc 3 1, 3) := dq_132 (kX12_best_3 7 rfl) (kX12_best_3 8 rfl) (kX12_best_3 9 rfl) rfl (by decide)
theorem dX12_best_106 : decode cX12_best 106 = .ok (.goto (-62), 3) := dq_167 (kX12_best_3 10 rfl) (kX12_best_3 11 rfl) (kX12_best_3 12 rfl) (by decide)
theorem dX12_best_109 : decode cX12_best 109 = .ok (.iload_n 2, 1) := dq_28 (kX12_best_3 13 rfl)
theorem dX12_best_110 : decode cX12_best 110 = .ok (.ireturn, 1) := dq_172 (kX12_best_3 14 rfl)

def bX12_stop_0 : List UInt8 := [42, 27, 182, 1, 177, 153, 0, 23, 28, 3, 17, 39, 16, 184, 1, 115, 153, 0, 12, 42, 180, 2, 224, 16, 8, 160, 0, 5, 2, 172, 3, 62]
theorem kX12_stop_0 (j : Nat) {b : UInt8} (hj : bX12_stop_0[j]? = some b) : AtB cX12_stop (0 + j) b := at_of32 (by decide +kernel) j hj
def bX12_stop_1 : List UInt8 := [29, 42, 180, 2, 224, 162, 0, 21, 42, 180, 1, 72, 29, 46, 27, 160, 0, 5, 2, 172, 132, 3, 1, 167, 255, 233, 42, 180, 1, 72, 42, 180]
theorem kX12_stop_1 (j : Nat) {b : UInt8} (hj : bX12_stop_1[j]? = some b) : AtB cX12_stop (32 + j) b := at_of32 (by decide +kernel) j hj
def bX12_stop_2 : List UInt8 := [2, 224, 27, 79, 42, 180, 1, 75, 42, 180, 2, 224, 28, 79, 42, 42, 180, 2, 224, 4, 96, 181, 2, 224, 42, 180, 2, 224, 4, 100, 172]
theorem kX12_stop_2 (j : Nat) {b : UInt8} (hj : bX12_stop_2[j]? = some b) : AtB cX12_stop (64 + j) b := at_of32 (by decide +kernel) j hj
theorem dX12_stop_0 : decode cX12_stop 0 = .ok (.aload_n 0, 1) := dq_42 (kX12_stop_0 0 rfl)
theorem dX12_stop_1 : decode cX12_stop 1 = .ok (.iload_n 1, 1) := dq_27 (kX12_stop_0 1 rfl)
theorem dX12_stop_2 : decode cX12_stop 2 = .ok (.invokevirtual 433, 3) := dq_182 (kX12_stop_0 2 rfl) (kX12_stop_0 3 rfl) (kX12_stop_0 4 rfl) rfl
theorem dX12_stop_5 : decode cX12_stop 5 = .ok (.ifCond .eq 23, 3) := dq_153 (kX12_stop_0 5 rfl) (kX12_stop_0 6 rfl) (kX12_stop_0 7 rfl) (by decide)
theorem dX12_stop_8 : decode cX12_stop 8 = .ok (.iload_n 2, 1) := dq_28 (kX12_stop_0 8 rfl)
theorem dX12_stop_9 : decode cX12_stop 9 = .ok (.iconst 0, 1) := dq_3 (kX12_stop_0 9 rfl)
theorem dX12_stop_10 : decode cX12_stop 10 = .ok (.sipush 10000, 3) := dq_17 (kX12_stop_0 10 rfl) (kX12_stop_0 11 rfl) (kX12_stop_0 12 rfl) (by decide)
theorem dX12_stop_13 : decode cX12_stop 13 = .ok (.invokestatic 371, 3) := dq_184 (kX12_stop_0 13 rfl) (kX12_stop_0 14 rfl) (kX12_stop_0 15 rfl) rfl
theorem dX12_stop_16 : decode cX12_stop 16 = .ok (.ifCond .eq 12, 3) := dq_153 (kX12_stop_0 16 rfl) (kX12_stop_0 17 rfl) (kX12_stop_0 18 rfl) (by decide)
theorem dX12_stop_19 : decode cX12_stop 19 = .ok (.aload_n 0, 1) := dq_42 (kX12_stop_0 19 rfl)
theorem dX12_stop_20 : decode cX12_stop 20 = .ok (.getfield 736, 3) := dq_180 (kX12_stop_0 20 rfl) (kX12_stop_0 21 rfl) (kX12_stop_0 22 rfl) rfl
theorem dX12_stop_23 : decode cX12_stop 23 = .ok (.bipush 8, 2) := dq_16 (kX12_stop_0 23 rfl) (kX12_stop_0 24 rfl) (by decide)
theorem dX12_stop_25 : decode cX12_stop 25 = .ok (.if_icmp .ne 5, 3) := dq_160 (kX12_stop_0 25 rfl) (kX12_stop_0 26 rfl) (kX12_stop_0 27 rfl) (by decide)
theorem dX12_stop_28 : decode cX12_stop 28 = .ok (.iconst (-1), 1) := dq_2 (kX12_stop_0 28 rfl)
theorem dX12_stop_29 : decode cX12_stop 29 = .ok (.ireturn, 1) := dq_172 (kX12_stop_0 29 rfl)
theorem dX12_stop_30 : decode cX12_stop 30 = .ok (.iconst 0, 1) := dq_3 (kX12_stop_0 30 rfl)
theorem dX12_stop_31 : decode cX12_stop 31 = .ok (.istore_n 3, 1) := dq_62 (kX12_stop_0 31 rfl)
theorem dX12_stop_32 : decode cX12_stop 32 = .ok (.iload_n 3, 1) := dq_29 (kX12_stop_1 0 rfl)
theorem dX12_stop_33 : decode cX12_stop 33 = .ok (.aload_n 0, 1) := dq_42 (kX12_stop_1 1 rfl)
theorem dX12_stop_34 : decode cX12_stop 34 = .ok (.getfield 736, 3) := dq_180 (kX12_stop_1 2 rfl) (kX12_stop_1 3 rfl) (kX12_stop_1 4 rfl) rfl
theorem dX12_stop_37 : decode cX12_stop 37 = .ok (.if_icmp .ge 21, 3) := dq_162 (kX12_stop_1 5 rfl) (kX12_stop_1 6 rfl) (kX12_stop_1 7 rfl) (by decide)
theorem dX12_stop_40 : decode cX12_stop 40 = .ok (.aload_n 0, 1) := dq_42 (kX12_stop_1 8 rfl)
theorem dX12_stop_41 : decode cX12_stop 41 = .ok (.getfield 328, 3) := dq_180 (kX12_stop_1 9 rfl) (kX12_stop_1 10 rfl) (kX12_stop_1 11 rfl) rfl
theorem dX12_stop_44 : decode cX12_stop 44 = .ok (.iload_n 3, 1) := dq_29 (kX12_stop_1 12 rfl)
theorem dX12_stop_45 : decode cX12_stop 45 = .ok (.iaload, 1) := dq_46 (kX12_stop_1 13 rfl)
theorem dX12_stop_46 : decode cX12_stop 46 = .ok (.iload_n 1, 1) := dq_27 (kX12_stop_1 14 rfl)
theorem dX12_stop_47 : decode cX12_stop 47 = .ok (.if_icmp .ne 5, 3) := dq_160 (kX12_stop_1 15 rfl) (kX12_stop_1 16 rfl) (kX12_stop_1 17 rfl) (by decide)
theorem dX12_stop_50 : decode cX12_stop 50 = .ok (.iconst (-1), 1) := dq_2 (kX12_stop_1 18 rfl)
theorem dX12_stop_51 : decode cX12_stop 51 = .ok (.ireturn, 1) := dq_172 (kX12_stop_1 19 rfl)
theorem dX12_stop_52 : decode cX12_stop 52 = .ok (.iinc 3 1, 3) := dq_132 (kX12_stop_1 20 rfl) (kX12_stop_1 21 rfl) (kX12_stop_1 22 rfl) rfl (by decide)
theorem dX12_stop_55 : decode cX12_stop 55 = .ok (.goto (-23), 3) := dq_167 (kX12_stop_1 23 rfl) (kX12_stop_1 24 rfl) (kX12_stop_1 25 rfl) (by decide)
theorem dX12_stop_58 : decode cX12_stop 58 = .ok (.aload_n 0, 1) := dq_42 (kX12_stop_1 26 rfl)
theorem dX12_stop_59 : decode cX12_stop 59 = .ok (.getfield 328, 3) := dq_180 (kX12_stop_1 27 rfl) (kX12_stop_1 28 rfl) (kX12_stop_1 29 rfl) rfl
theorem dX12_stop_62 : decode cX12_stop 62 = .ok (.aload_n 0, 1) := dq_42 (kX12_stop_1 30 rfl)
theorem dX12_stop_63 : decode cX12_stop 63 = .ok (.getfield 736, 3) := dq_180 (kX12_stop_1 31 rfl) (kX12_stop_2 0 rfl) (kX12_stop_2 1 rfl) rfl
theorem dX12_stop_66 : decode cX12_stop 66 = .ok (.iload_n 1, 1) := dq_27 (kX12_stop_2 2 rfl)
theorem dX12_stop_67 : decode cX12_stop 67 = .ok (.iastore, 1) := dq_79 (kX12_stop_2 3 rfl)
theorem dX12_stop_68 : decode cX12_stop 68 = .ok (.aload_n 0, 1) := dq_42 (kX12_stop_2 4 rfl)
theorem dX12_stop_69 : decode cX12_stop 69 = .ok (.getfield 331, 3) := dq_180 (kX12_stop_2 5 rfl) (kX12_stop_2 6 rfl) (kX12_stop_2 7 rfl) rfl
theorem dX12_stop_72 : decode cX12_stop 72 = .ok (.aload_n 0, 1) := dq_42 (kX12_stop_2 8 rfl)
theorem dX12_stop_73 : decode cX12_stop 73 = .ok (.getfield 736, 3) := dq_180 (kX12_stop_2 9 rfl) (kX12_stop_2 10 rfl) (kX12_stop_2 11 rfl) rfl
theorem dX12_stop_76 : decode cX12_stop 76 = .ok (.iload_n 2, 1) := dq_28 (kX12_stop_2 12 rfl)
theorem dX12_stop_77 : decode cX12_stop 77 = .ok (.iastore, 1) := dq_79 (kX12_stop_2 13 rfl)
theorem dX12_stop_78 : decode cX12_stop 78 = .ok (.aload_n 0, 1) := dq_42 (kX12_stop_2 14 rfl)
theorem dX12_stop_79 : decode cX12_stop 79 = .ok (.aload_n 0, 1) := dq_42 (kX12_stop_2 15 rfl)
theorem dX12_stop_80 : decode cX12_stop 80 = .ok (.getfield 736, 3) := dq_180 (kX12_stop_2 16 rfl) (kX12_stop_2 17 rfl) (kX12_stop_2 18 rfl) rfl
theorem dX12_stop_83 : decode cX12_stop 83 = .ok (.iconst 1, 1) := dq_4 (kX12_stop_2 19 rfl)
theorem dX12_stop_84 : decode cX12_stop 84 = .ok (.iadd, 1) := dq_96 (kX12_stop_2 20 rfl)
theorem dX12_stop_85 : decode cX12_stop 85 = .ok (.putfield 736, 3) := dq_181 (kX12_stop_2 21 rfl) (kX12_stop_2 22 rfl) (kX12_stop_2 23 rfl) rfl
theorem dX12_stop_88 : decode cX12_stop 88 = .ok (.aload_n 0, 1) := dq_42 (kX12_stop_2 24 rfl)
theorem dX12_stop_89 : decode cX12_stop 89 = .ok (.getfield 736, 3) := dq_180 (kX12_stop_2 25 rfl) (kX12_stop_2 26 rfl) (kX12_stop_2 27 rfl) rfl
theorem dX12_stop_92 : decode cX12_stop 92 = .ok (.iconst 1, 1) := dq_4 (kX12_stop_2 28 rfl)
theorem dX12_stop_93 : decode cX12_stop 93 = .ok (.isub, 1) := dq_100 (kX12_stop_2 29 rfl)
theorem dX12_stop_94 : decode cX12_stop 94 = .ok (.ireturn, 1) := dq_172 (kX12_stop_2 30 rfl)

def bX12_open_0 : List UInt8 := [27, 3, 5, 184, 1, 115, 153, 0, 38, 28, 155, 0, 34, 28, 42, 180, 2, 224, 162, 0, 26, 29, 3, 17, 1, 103, 184, 1, 115, 153, 0, 15]
theorem kX12_open_0 (j : Nat) {b : UInt8} (hj : bX12_open_0[j]? = some b) : AtB cX12_open (0 + j) b := at_of32 (by decide +kernel) j hj
def bX12_open_1 : List UInt8 := [21, 4, 29, 17, 1, 103, 184, 1, 115, 154, 0, 5, 3, 172, 42, 180, 1, 78, 16, 8, 27, 104, 28, 96, 29, 79, 42, 180, 1, 81, 16, 8]
theorem kX12_open_1 (j : Nat) {b : UInt8} (hj : bX12_open_1[j]? = some b) : AtB cX12_open (32 + j) b := at_of32 (by decide +kernel) j hj
def bX12_open_2 : List UInt8 := [27, 104, 28, 96, 21, 4, 79, 4, 172]
theorem kX12_open_2 (j : Nat) {b : UInt8} (hj : bX12_open_2[j]? = some b) : AtB cX12_open (64 + j) b := at_of32 (by decide +kernel) j hj
theorem dX12_open_0 : decode cX12_open 0 = .ok (.iload_n 1, 1) := dq_27 (kX12_open_0 0 rfl)
theorem dX12_open_1 : decode cX12_open 1 = .ok (.iconst 0, 1) := dq_3 (kX12_open_0 1 rfl)
theorem dX12_open_2 : decode cX12_open 2 = .ok (.iconst 2, 1) := dq_5 (kX12_open_0 2 rfl)
theorem dX12_open_3 : decode cX12_open 3 = .ok (.invokestatic 371, 3) := dq_184 (kX12_open_0 3 rfl) (kX12_open_0 4 rfl) (kX12_open_0 5 rfl) rfl
theorem dX12_open_6 : decode cX12_open 6 = .ok (.ifCond .eq 38, 3) := dq_153 (kX12_open_0 6 rfl) (kX12_open_0 7 rfl) (kX12_open_0 8 rfl) (by decide)
theorem dX12_open_9 : decode cX12_open 9 = .ok (.iload_n 2, 1) := dq_28 (kX12_open_0 9 rfl)
theorem dX12_open_10 : decode cX12_open 10 = .ok (.ifCond .lt 34, 3) := dq_155 (kX12_open_0 10 rfl) (kX12_open_0 11 rfl) (kX12_open_0 12 rfl) (by decide)
theorem dX12_open_13 : decode cX12_open 13 = .ok (.iload_n 2, 1) := dq_28 (kX12_open_0 13 rfl)
theorem dX12_open_14 : decode cX12_open 14 = .ok (.aload_n 0, 1) := dq_42 (kX12_open_0 14 rfl)
theorem dX12_open_15 : decode cX12_open 15 = .ok (.getfield 736, 3) := dq_180 (kX12_open_0 15 rfl) (kX12_open_0 16 rfl) (kX12_open_0 17 rfl) rfl
theorem dX12_open_18 : decode cX12_open 18 = .ok (.if_icmp .ge 26, 3) := dq_162 (kX12_open_0 18 rfl) (kX12_open_0 19 rfl) (kX12_open_0 20 rfl) (by decide)
theorem dX12_open_21 : decode cX12_open 21 = .ok (.iload_n 3, 1) := dq_29 (kX12_open_0 21 rfl)
theorem dX12_open_22 : decode cX12_open 22 = .ok (.iconst 0, 1) := dq_3 (kX12_open_0 22 rfl)
theorem dX12_open_23 : decode cX12_open 23 = .ok (.sipush 359, 3) := dq_17 (kX12_open_0 23 rfl) (kX12_open_0 24 rfl) (kX12_open_0 25 rfl) (by decide)
theorem dX12_open_26 : decode cX12_open 26 = .ok (.invokestatic 371, 3) := dq_184 (kX12_open_0 26 rfl) (kX12_open_0 27 rfl) (kX12_open_0 28 rfl) rfl
theorem dX12_open_29 : decode cX12_open 29 = .ok (.ifCond .eq 15, 3) := dq_153 (kX12_open_0 29 rfl) (kX12_open_0 30 rfl) (kX12_open_0 31 rfl) (by decide)
theorem dX12_open_32 : decode cX12_open 32 = .ok (.iload 4, 2) := dq_21 (kX12_open_1 0 rfl) (kX12_open_1 1 rfl) rfl
theorem dX12_open_34 : decode cX12_open 34 = .ok (.iload_n 3, 1) := dq_29 (kX12_open_1 2 rfl)
theorem dX12_open_35 : decode cX12_open 35 = .ok (.sipush 359, 3) := dq_17 (kX12_open_1 3 rfl) (kX12_open_1 4 rfl) (kX12_open_1 5 rfl) (by decide)
theorem dX12_open_38 : decode cX12_open 38 = .ok (.invokestatic 371, 3) := dq_184 (kX12_open_1 6 rfl) (kX12_open_1 7 rfl) (kX12_open_1 8 rfl) rfl
theorem dX12_open_41 : decode cX12_open 41 = .ok (.ifCond .ne 5, 3) := dq_154 (kX12_open_1 9 rfl) (kX12_open_1 10 rfl) (kX12_open_1 11 rfl) (by decide)
theorem dX12_open_44 : decode cX12_open 44 = .ok (.iconst 0, 1) := dq_3 (kX12_open_1 12 rfl)
theorem dX12_open_45 : decode cX12_open 45 = .ok (.ireturn, 1) := dq_172 (kX12_open_1 13 rfl)
theorem dX12_open_46 : decode cX12_open 46 = .ok (.aload_n 0, 1) := dq_42 (kX12_open_1 14 rfl)
theorem dX12_open_47 : decode cX12_open 47 = .ok (.getfield 334, 3) := dq_180 (kX12_open_1 15 rfl) (kX12_open_1 16 rfl) (kX12_open_1 17 rfl) rfl
theorem dX12_open_50 : decode cX12_open 50 = .ok (.bipush 8, 2) := dq_16 (kX12_open_1 18 rfl) (kX12_open_1 19 rfl) (by decide)
theorem dX12_open_52 : decode cX12_open 52 = .ok (.iload_n 1, 1) := dq_27 (kX12_open_1 20 rfl)
theorem dX12_open_53 : decode cX12_open 53 = .ok (.imul, 1) := dq_104 (kX12_open_1 21 rfl)
theorem dX12_open_54 : decode cX12_open 54 = .ok (.iload_n 2, 1) := dq_28 (kX12_open_1 22 rfl)
theorem dX12_open_55 : decode cX12_open 55 = .ok (.iadd, 1) := dq_96 (kX12_open_1 23 rfl)
theorem dX12_open_56 : decode cX12_open 56 = .ok (.iload_n 3, 1) := dq_29 (kX12_open_1 24 rfl)
theorem dX12_open_57 : decode cX12_open 57 = .ok (.iastore, 1) := dq_79 (kX12_open_1 25 rfl)
theorem dX12_open_58 : decode cX12_open 58 = .ok (.aload_n 0, 1) := dq_42 (kX12_open_1 26 rfl)
theorem dX12_open_59 : decode cX12_open 59 = .ok (.getfield 337, 3) := dq_180 (kX12_open_1 27 rfl) (kX12_open_1 28 rfl) (kX12_open_1 29 rfl) rfl
theorem dX12_open_62 : decode cX12_open 62 = .ok (.bipush 8, 2) := dq_16 (kX12_open_1 30 rfl) (kX12_open_1 31 rfl) (by decide)
theorem dX12_open_64 : decode cX12_open 64 = .ok (.iload_n 1, 1) := dq_27 (kX12_open_2 0 rfl)
theorem dX12_open_65 : decode cX12_open 65 = .ok (.imul, 1) := dq_104 (kX12_open_2 1 rfl)
theorem dX12_open_66 : decode cX12_open 66 = .ok (.iload_n 2, 1) := dq_28 (kX12_open_2 2 rfl)
theorem dX12_open_67 : decode cX12_open 67 = .ok (.iadd, 1) := dq_96 (kX12_open_2 3 rfl)
theorem dX12_open_68 : decode cX12_open 68 = .ok (.iload 4, 2) := dq_21 (kX12_open_2 4 rfl) (kX12_open_2 5 rfl) rfl
theorem dX12_open_70 : decode cX12_open 70 = .ok (.iastore, 1) := dq_79 (kX12_open_2 6 rfl)
theorem dX12_open_71 : decode cX12_open 71 = .ok (.iconst 1, 1) := dq_4 (kX12_open_2 7 rfl)
theorem dX12_open_72 : decode cX12_open 72 = .ok (.ireturn, 1) := dq_172 (kX12_open_2 8 rfl)

def bX12_endOf_0 : List UInt8 := [28, 62, 3, 54, 4, 21, 4, 42, 180, 2, 224, 162, 0, 109, 21, 4, 158, 0, 48, 29, 5, 42, 42, 180, 0, 41, 42, 180, 1, 72, 42, 180]
theorem kX12_endOf_0 (j : Nat) {b : UInt8} (hj : bX12_endOf_0[j]? = some b) : AtB cX12_endOf (0 + j) b := at_of32 (by decide +kernel) j hj
def bX12_endOf_1 : List UInt8 := [1, 84, 21, 4, 4, 100, 46, 46, 46, 42, 180, 0, 41, 42, 180, 1, 72, 42, 180, 1, 84, 21, 4, 46, 46, 46, 182, 1, 133, 104, 96, 62]
theorem kX12_endOf_1 (j : Nat) {b : UInt8} (hj : bX12_endOf_1[j]? = some b) : AtB cX12_endOf (32 + j) b := at_of32 (by decide +kernel) j hj
def bX12_endOf_2 : List UInt8 := [16, 8, 27, 104, 42, 180, 1, 84, 21, 4, 46, 96, 54, 5, 29, 42, 180, 1, 81, 21, 5, 46, 164, 0, 5, 2, 172, 29, 42, 180, 1, 78]
theorem kX12_endOf_2 (j : Nat) {b : UInt8} (hj : bX12_endOf_2[j]? = some b) : AtB cX12_endOf (64 + j) b := at_of32 (by decide +kernel) j hj
def bX12_endOf_3 : List UInt8 := [21, 5, 46, 162, 0, 13, 42, 180, 1, 78, 21, 5, 46, 167, 0, 4, 29, 62, 132, 4, 1, 167, 255, 144, 29, 172]
theorem kX12_endOf_3 (j : Nat) {b : UInt8} (hj : bX12_endOf_3[j]? = some b) : AtB cX12_endOf (96 + j) b := at_of32 (by decide +kernel) j hj
theorem dX12_endOf_0 : decode cX12_endOf 0 = .ok (.iload_n 2, 1) := dq_28 (kX12_endOf_0 0 rfl)
theorem dX12_endOf_1 : decode cX12_endOf 1 = .ok (.istore_n 3, 1) := dq_62 (kX12_endOf_0 1 rfl)
theorem dX12_endOf_2 : decode cX12_endOf 2 = .ok (.iconst 0, 1) := dq_3 (kX12_endOf_0 2 rfl)
theorem dX12_endOf_3 : decode cX12_endOf 3 = .ok (.istore 4, 2) := dq_54 (kX12_endOf_0 3 rfl) (kX12_endOf_0 4 rfl) rfl
theorem dX12_endOf_5 : decode cX12_endOf 5 = .ok (.iload 4, 2) := dq_21 (kX12_endOf_0 5 rfl) (kX12_endOf_0 6 rfl) rfl
theorem dX12_endOf_7 : decode cX12_endOf 7 = .ok (.aload_n 0, 1) := dq_42 (kX12_endOf_0 7 rfl)
theorem dX12_endOf_8 : decode cX12_endOf 8 = .ok (.getfield 736, 3) := dq_180 (kX12_endOf_0 8 rfl) (kX12_endOf_0 9 rfl) (kX12_endOf_0 10 rfl) rfl
theorem dX12_endOf_11 : decode cX12_endOf 11 = .ok (.if_icmp .ge 109, 3) := dq_162 (kX12_endOf_0 11 rfl) (kX12_endOf_0 12 rfl) (kX12_endOf_0 13 rfl) (by decide)
theorem dX12_endOf_14 : decode cX12_endOf 14 = .ok (.iload 4, 2) := dq_21 (kX12_endOf_0 14 rfl) (kX12_endOf_0 15 rfl) rfl
theorem dX12_endOf_16 : decode cX12_endOf 16 = .ok (.ifCond .le 48, 3) := dq_158 (kX12_endOf_0 16 rfl) (kX12_endOf_0 17 rfl) (kX12_endOf_0 18 rfl) (by decide)
theorem dX12_endOf_19 : decode cX12_endOf 19 = .ok (.iload_n 3, 1) := dq_29 (kX12_endOf_0 19 rfl)
theorem dX12_endOf_20 : decode cX12_endOf 20 = .ok (.iconst 2, 1) := dq_5 (kX12_endOf_0 20 rfl)
theorem dX12_endOf_21 : decode cX12_endOf 21 = .ok (.aload_n 0, 1) := dq_42 (kX12_endOf_0 21 rfl)
theorem dX12_endOf_22 : decode cX12_endOf 22 = .ok (.aload_n 0, 1) := dq_42 (kX12_endOf_0 22 rfl)
theorem dX12_endOf_23 : decode cX12_endOf 23 = .ok (.getfield 41, 3) := dq_180 (kX12_endOf_0 23 rfl) (kX12_endOf_0 24 rfl) (kX12_endOf_0 25 rfl) rfl
theorem dX12_endOf_26 : decode cX12_endOf 26 = .ok (.aload_n 0, 1) := dq_42 (kX12_endOf_0 26 rfl)
theorem dX12_endOf_27 : decode cX12_endOf 27 = .ok (.getfield 328, 3) := dq_180 (kX12_endOf_0 27 rfl) (kX12_endOf_0 28 rfl) (kX12_endOf_0 29 rfl) rfl
theorem dX12_endOf_30 : decode cX12_endOf 30 = .ok (.aload_n 0, 1) := dq_42 (kX12_endOf_0 30 rfl)
theorem dX12_endOf_31 : decode cX12_endOf 31 = .ok (.getfield 340, 3) := dq_180 (kX12_endOf_0 31 rfl) (kX12_endOf_1 0 rfl) (kX12_endOf_1 1 rfl) rfl
theorem dX12_endOf_34 : decode cX12_endOf 34 = .ok (.iload 4, 2) := dq_21 (kX12_endOf_1 2 rfl) (kX12_endOf_1 3 rfl) rfl
theorem dX12_endOf_36 : decode cX12_endOf 36 = .ok (.iconst 1, 1) := dq_4 (kX12_endOf_1 4 rfl)
theorem dX12_endOf_37 : decode cX12_endOf 37 = .ok (.isub, 1) := dq_100 (kX12_endOf_1 5 rfl)
theorem dX12_endOf_38 : decode cX12_endOf 38 = .ok (.iaload, 1) := dq_46 (kX12_endOf_1 6 rfl)
theorem dX12_endOf_39 : decode cX12_endOf 39 = .ok (.iaload, 1) := dq_46 (kX12_endOf_1 7 rfl)
theorem dX12_endOf_40 : decode cX12_endOf 40 = .ok (.iaload, 1) := dq_46 (kX12_endOf_1 8 rfl)
theorem dX12_endOf_41 : decode cX12_endOf 41 = .ok (.aload_n 0, 1) := dq_42 (kX12_endOf_1 9 rfl)
theorem dX12_endOf_42 : decode cX12_endOf 42 = .ok (.getfield 41, 3) := dq_180 (kX12_endOf_1 10 rfl) (kX12_endOf_1 11 rfl) (kX12_endOf_1 12 rfl) rfl
theorem dX12_endOf_45 : decode cX12_endOf 45 = .ok (.aload_n 0, 1) := dq_42 (kX12_endOf_1 13 rfl)
theorem dX12_endOf_46 : decode cX12_endOf 46 = .ok (.getfield 328, 3) := dq_180 (kX12_endOf_1 14 rfl) (kX12_endOf_1 15 rfl) (kX12_endOf_1 16 rfl) rfl
theorem dX12_endOf_49 : decode cX12_endOf 49 = .ok (.aload_n 0, 1) := dq_42 (kX12_endOf_1 17 rfl)
theorem dX12_endOf_50 : decode cX12_endOf 50 = .ok (.getfield 340, 3) := dq_180 (kX12_endOf_1 18 rfl) (kX12_endOf_1 19 rfl) (kX12_endOf_1 20 rfl) rfl
theorem dX12_endOf_53 : decode cX12_endOf 53 = .ok (.iload 4, 2) := dq_21 (kX12_endOf_1 21 rfl) (kX12_endOf_1 22 rfl) rfl
theorem dX12_endOf_55 : decode cX12_endOf 55 = .ok (.iaload, 1) := dq_46 (kX12_endOf_1 23 rfl)
theorem dX12_endOf_56 : decode cX12_endOf 56 = .ok (.iaload, 1) := dq_46 (kX12_endOf_1 24 rfl)
theorem dX12_endOf_57 : decode cX12_endOf 57 = .ok (.iaload, 1) := dq_46 (kX12_endOf_1 25 rfl)
theorem dX12_endOf_58 : decode cX12_endOf 58 = .ok (.invokevirtual 389, 3) := dq_182 (kX12_endOf_1 26 rfl) (kX12_endOf_1 27 rfl) (kX12_endOf_1 28 rfl) rfl
theorem dX12_endOf_61 : decode cX12_endOf 61 = .ok (.imul, 1) := dq_104 (kX12_endOf_1 29 rfl)
theorem dX12_endOf_62 : decode cX12_endOf 62 = .ok (.iadd, 1) := dq_96 (kX12_endOf_1 30 rfl)
theorem dX12_endOf_63 : decode cX12_endOf 63 = .ok (.istore_n 3, 1) := dq_62 (kX12_endOf_1 31 rfl)
theorem dX12_endOf_64 : decode cX12_endOf 64 = .ok (.bipush 8, 2) := dq_16 (kX12_endOf_2 0 rfl) (kX12_endOf_2 1 rfl) (by decide)
theorem dX12_endOf_66 : decode cX12_endOf 66 = .ok (.iload_n 1, 1) := dq_27 (kX12_endOf_2 2 rfl)
theorem dX12_endOf_67 : decode cX12_endOf 67 = .ok (.imul, 1) := dq_104 (kX12_endOf_2 3 rfl)
theorem dX12_endOf_68 : decode cX12_endOf 68 = .ok (.aload_n 0, 1) := dq_42 (kX12_endOf_2 4 rfl)
theorem dX12_endOf_69 : decode cX12_endOf 69 = .ok (.getfield 340, 3) := dq_180 (kX12_endOf_2 5 rfl) (kX12_endOf_2 6 rfl) (kX12_endOf_2 7 rfl) rfl
theorem dX12_endOf_72 : decode cX12_endOf 72 = .ok (.iload 4, 2) := dq_21 (kX12_endOf_2 8 rfl) (kX12_endOf_2 9 rfl) rfl
theorem dX12_endOf_74 : decode cX12_endOf 74 = .ok (.iaload, 1) := dq_46 (kX12_endOf_2 10 rfl)
theorem dX12_endOf_75 : decode cX12_endOf 75 = .ok (.iadd, 1) := dq_96 (kX12_endOf_2 11 rfl)
theorem dX12_endOf_76 : decode cX12_endOf 76 = .ok (.istore 5, 2) := dq_54 (kX12_endOf_2 12 rfl) (kX12_endOf_2 13 rfl) rfl
theorem dX12_endOf_78 : decode cX12_endOf 78 = .ok (.iload_n 3, 1) := dq_29 (kX12_endOf_2 14 rfl)
theorem dX12_endOf_79 : decode cX12_endOf 79 = .ok (.aload_n 0, 1) := dq_42 (kX12_endOf_2 15 rfl)
theorem dX12_endOf_80 : decode cX12_endOf 80 = .ok (.getfield 337, 3) := dq_180 (kX12_endOf_2 16 rfl) (kX12_endOf_2 17 rfl) (kX12_endOf_2 18 rfl) rfl
theorem dX12_endOf_83 : decode cX12_endOf 83 = .ok (.iload 5, 2) := dq_21 (kX12_endOf_2 19 rfl) (kX12_endOf_2 20 rfl) rfl
theorem dX12_endOf_85 : decode cX12_endOf 85 = .ok (.iaload, 1) := dq_46 (kX12_endOf_2 21 rfl)
theorem dX12_endOf_86 : decode cX12_endOf 86 = .ok (.if_icmp .le 5, 3) := dq_164 (kX12_endOf_2 22 rfl) (kX12_endOf_2 23 rfl) (kX12_endOf_2 24 rfl) (by decide)
theorem dX12_endOf_89 : decode cX12_endOf 89 = .ok (.iconst (-1), 1) := dq_2 (kX12_endOf_2 25 rfl)
theorem dX12_endOf_90 : decode cX12_endOf 90 = .ok (.ireturn, 1) := dq_172 (kX12_endOf_2 26 rfl)
theorem dX12_endOf_91 : decode cX12_endOf 91 = .ok (.iload_n 3, 1) := dq_29 (kX12_endOf_2 27 rfl)
theorem dX12_endOf_92 : decode cX12_endOf 92 = .ok (.aload_n 0, 1) := dq_42 (kX12_endOf_2 28 rfl)
theorem dX12_endOf_93 : decode cX12_endOf 93 = .ok (.getfield 334, 3) := dq_180 (kX12_endOf_2 29 rfl) (kX12_endOf_2 30 rfl) (kX12_endOf_2 31 rfl) rfl
theorem dX12_endOf_96 : decode cX12_endOf 96 = .ok (.iload 5, 2) := dq_21 (kX12_endOf_3 0 rfl) (kX12_endOf_3 1 rfl) rfl
theorem dX12_endOf_98 : decode cX12_endOf 98 = .ok (.iaload, 1) := dq_46 (kX12_endOf_3 2 rfl)
theorem dX12_endOf_99 : decode cX12_endOf 99 = .ok (.if_icmp .ge 13, 3) := dq_162 (kX12_endOf_3 3 rfl) (kX12_endOf_3 4 rfl) (kX12_endOf_3 5 rfl) (by decide)
theorem dX12_endOf_102 : decode cX12_endOf 102 = .ok (.aload_n 0, 1) := dq_42 (kX12_endOf_3 6 rfl)
theorem dX12_endOf_103 : decode cX12_endOf 103 = .ok (.getfield 334, 3) := dq_180 (kX12_endOf_3 7 rfl) (kX12_endOf_3 8 rfl) (kX12_endOf_3 9 rfl) rfl
theorem dX12_endOf_106 : decode cX12_endOf 106 = .ok (.iload 5, 2) := dq_21 (kX12_endOf_3 10 rfl) (kX12_endOf_3 11 rfl) rfl
theorem dX12_endOf_108 : decode cX12_endOf 108 = .ok (.iaload, 1) := dq_46 (kX12_endOf_3 12 rfl)
theorem dX12_endOf_109 : decode cX12_endOf 109 = .ok (.goto 4, 3) := dq_167 (kX12_endOf_3 13 rfl) (kX12_endOf_3 14 rfl) (kX12_endOf_3 15 rfl) (by decide)
theorem dX12_endOf_112 : decode cX12_endOf 112 = .ok (.iload_n 3, 1) := dq_29 (kX12_endOf_3 16 rfl)
theorem dX12_endOf_113 : decode cX12_endOf 113 = .ok (.istore_n 3, 1) := dq_62 (kX12_endOf_3 17 rfl)
theorem dX12_endOf_114 : decode cX12_endOf 114 = .ok (.iinc 4 1, 3) := dq_132 (kX12_endOf_3 18 rfl) (kX12_endOf_3 19 rfl) (kX12_endOf_3 20 rfl) rfl (by decide)
theorem dX12_endOf_117 : decode cX12_endOf 117 = .ok (.goto (-112), 3) := dq_167 (kX12_endOf_3 21 rfl) (kX12_endOf_3 22 rfl) (kX12_endOf_3 23 rfl) (by decide)
theorem dX12_endOf_120 : decode cX12_endOf 120 = .ok (.iload_n 3, 1) := dq_29 (kX12_endOf_3 24 rfl)
theorem dX12_endOf_121 : decode cX12_endOf 121 = .ok (.ireturn, 1) := dq_172 (kX12_endOf_3 25 rfl)

def bX12_worstEnd_0 : List UInt8 := [2, 61, 3, 62, 29, 6, 162, 0, 38, 42, 29, 27, 182, 2, 227, 54, 4, 21, 4, 2, 160, 0, 5, 2, 172, 21, 4, 28, 164, 0, 8, 21]
theorem kX12_worstEnd_0 (j : Nat) {b : UInt8} (hj : bX12_worstEnd_0[j]? = some b) : AtB cX12_worstEnd (0 + j) b := at_of32 (by decide +kernel) j hj
def bX12_worstEnd_1 : List UInt8 := [4, 167, 0, 4, 28, 61, 132, 3, 1, 167, 255, 219, 28, 172]
theorem kX12_worstEnd_1 (j : Nat) {b : UInt8} (hj : bX12_worstEnd_1[j]? = some b) : AtB cX12_worstEnd (32 + j) b := at_of32 (by decide +kernel) j hj
theorem dX12_worstEnd_0 : decode cX12_worstEnd 0 = .ok (.iconst (-1), 1) := dq_2 (kX12_worstEnd_0 0 rfl)
theorem dX12_worstEnd_1 : decode cX12_worstEnd 1 = .ok (.istore_n 2, 1) := dq_61 (kX12_worstEnd_0 1 rfl)
theorem dX12_worstEnd_2 : decode cX12_worstEnd 2 = .ok (.iconst 0, 1) := dq_3 (kX12_worstEnd_0 2 rfl)
theorem dX12_worstEnd_3 : decode cX12_worstEnd 3 = .ok (.istore_n 3, 1) := dq_62 (kX12_worstEnd_0 3 rfl)
theorem dX12_worstEnd_4 : decode cX12_worstEnd 4 = .ok (.iload_n 3, 1) := dq_29 (kX12_worstEnd_0 4 rfl)
theorem dX12_worstEnd_5 : decode cX12_worstEnd 5 = .ok (.iconst 3, 1) := dq_6 (kX12_worstEnd_0 5 rfl)
theorem dX12_worstEnd_6 : decode cX12_worstEnd 6 = .ok (.if_icmp .ge 38, 3) := dq_162 (kX12_worstEnd_0 6 rfl) (kX12_worstEnd_0 7 rfl) (kX12_worstEnd_0 8 rfl) (by decide)
theorem dX12_worstEnd_9 : decode cX12_worstEnd 9 = .ok (.aload_n 0, 1) := dq_42 (kX12_worstEnd_0 9 rfl)
theorem dX12_worstEnd_10 : decode cX12_worstEnd 10 = .ok (.iload_n 3, 1) := dq_29 (kX12_worstEnd_0 10 rfl)
theorem dX12_worstEnd_11 : decode cX12_worstEnd 11 = .ok (.iload_n 1, 1) := dq_27 (kX12_worstEnd_0 11 rfl)
theorem dX12_worstEnd_12 : decode cX12_worstEnd 12 = .ok (.invokevirtual 739, 3) := dq_182 (kX12_worstEnd_0 12 rfl) (kX12_worstEnd_0 13 rfl) (kX12_worstEnd_0 14 rfl) rfl
theorem dX12_worstEnd_15 : decode cX12_worstEnd 15 = .ok (.istore 4, 2) := dq_54 (kX12_worstEnd_0 15 rfl) (kX12_worstEnd_0 16 rfl) rfl
theorem dX12_worstEnd_17 : decode cX12_worstEnd 17 = .ok (.iload 4, 2) := dq_21 (kX12_worstEnd_0 17 rfl) (kX12_worstEnd_0 18 rfl) rfl
theorem dX12_worstEnd_19 : decode cX12_worstEnd 19 = .ok (.iconst (-1), 1) := dq_2 (kX12_worstEnd_0 19 rfl)
theorem dX12_worstEnd_20 : decode cX12_worstEnd 20 = .ok (.if_icmp .ne 5, 3) := dq_160 (kX12_worstEnd_0 20 rfl) (kX12_worstEnd_0 21 rfl) (kX12_worstEnd_0 22 rfl) (by decide)
theorem dX12_worstEnd_23 : decode cX12_worstEnd 23 = .ok (.iconst (-1), 1) := dq_2 (kX12_worstEnd_0 23 rfl)
theorem dX12_worstEnd_24 : decode cX12_worstEnd 24 = .ok (.ireturn, 1) := dq_172 (kX12_worstEnd_0 24 rfl)
theorem dX12_worstEnd_25 : decode cX12_worstEnd 25 = .ok (.iload 4, 2) := dq_21 (kX12_worstEnd_0 25 rfl) (kX12_worstEnd_0 26 rfl) rfl
theorem dX12_worstEnd_27 : decode cX12_worstEnd 27 = .ok (.iload_n 2, 1) := dq_28 (kX12_worstEnd_0 27 rfl)
theorem dX12_worstEnd_28 : decode cX12_worstEnd 28 = .ok (.if_icmp .le 8, 3) := dq_164 (kX12_worstEnd_0 28 rfl) (kX12_worstEnd_0 29 rfl) (kX12_worstEnd_0 30 rfl) (by decide)
theorem dX12_worstEnd_31 : decode cX12_worstEnd 31 = .ok (.iload 4, 2) := dq_21 (kX12_worstEnd_0 31 rfl) (kX12_worstEnd_1 0 rfl) rfl
theorem dX12_worstEnd_33 : decode cX12_worstEnd 33 = .ok (.goto 4, 3) := dq_167 (kX12_worstEnd_1 1 rfl) (kX12_worstEnd_1 2 rfl) (kX12_worstEnd_1 3 rfl) (by decide)
theorem dX12_worstEnd_36 : decode cX12_worstEnd 36 = .ok (.iload_n 2, 1) := dq_28 (kX12_worstEnd_1 4 rfl)
theorem dX12_worstEnd_37 : decode cX12_worstEnd 37 = .ok (.istore_n 2, 1) := dq_61 (kX12_worstEnd_1 5 rfl)
theorem dX12_worstEnd_38 : decode cX12_worstEnd 38 = .ok (.iinc 3 1, 3) := dq_132 (kX12_worstEnd_1 6 rfl) (kX12_worstEnd_1 7 rfl) (kX12_worstEnd_1 8 rfl) rfl (by decide)
theorem dX12_worstEnd_41 : decode cX12_worstEnd 41 = .ok (.goto (-37), 3) := dq_167 (kX12_worstEnd_1 9 rfl) (kX12_worstEnd_1 10 rfl) (kX12_worstEnd_1 11 rfl) (by decide)
theorem dX12_worstEnd_44 : decode cX12_worstEnd 44 = .ok (.iload_n 2, 1) := dq_28 (kX12_worstEnd_1 12 rfl)
theorem dX12_worstEnd_45 : decode cX12_worstEnd 45 = .ok (.ireturn, 1) := dq_172 (kX12_worstEnd_1 13 rfl)

def bX12_nextOrder_0 : List UInt8 := [42, 180, 2, 224, 5, 100, 60, 27, 155, 0, 27, 42, 180, 1, 84, 27, 46, 42, 180, 1, 84, 27, 4, 96, 46, 164, 0, 10, 27, 4, 100, 60]
theorem kX12_nextOrder_0 (j : Nat) {b : UInt8} (hj : bX12_nextOrder_0[j]? = some b) : AtB cX12_nextOrder (0 + j) b := at_of32 (by decide +kernel) j hj
def bX12_nextOrder_1 : List UInt8 := [167, 255, 231, 27, 156, 0, 5, 3, 172, 42, 180, 2, 224, 4, 100, 61, 42, 180, 1, 84, 28, 46, 42, 180, 1, 84, 27, 46, 162, 0, 10, 28]
theorem kX12_nextOrder_1 (j : Nat) {b : UInt8} (hj : bX12_nextOrder_1[j]? = some b) : AtB cX12_nextOrder (32 + j) b := at_of32 (by decide +kernel) j hj
def bX12_nextOrder_2 : List UInt8 := [4, 100, 61, 167, 255, 237, 42, 27, 28, 182, 2, 230, 27, 4, 96, 62, 42, 180, 2, 224, 4, 100, 54, 4, 29, 21, 4, 162, 0, 23, 42, 29]
theorem kX12_nextOrder_2 (j : Nat) {b : UInt8} (hj : bX12_nextOrder_2[j]? = some b) : AtB cX12_nextOrder (64 + j) b := at_of32 (by decide +kernel) j hj
def bX12_nextOrder_3 : List UInt8 := [21, 4, 182, 2, 230, 29, 4, 96, 62, 21, 4, 4, 100, 54, 4, 167, 255, 233, 4, 172]
theorem kX12_nextOrder_3 (j : Nat) {b : UInt8} (hj : bX12_nextOrder_3[j]? = some b) : AtB cX12_nextOrder (96 + j) b := at_of32 (by decide +kernel) j hj
theorem dX12_nextOrder_0 : decode cX12_nextOrder 0 = .ok (.aload_n 0, 1) := dq_42 (kX12_nextOrder_0 0 rfl)
theorem dX12_nextOrder_1 : decode cX12_nextOrder 1 = .ok (.getfield 736, 3) := dq_180 (kX12_nextOrder_0 1 rfl) (kX12_nextOrder_0 2 rfl) (kX12_nextOrder_0 3 rfl) rfl
theorem dX12_nextOrder_4 : decode cX12_nextOrder 4 = .ok (.iconst 2, 1) := dq_5 (kX12_nextOrder_0 4 rfl)
theorem dX12_nextOrder_5 : decode cX12_nextOrder 5 = .ok (.isub, 1) := dq_100 (kX12_nextOrder_0 5 rfl)
theorem dX12_nextOrder_6 : decode cX12_nextOrder 6 = .ok (.istore_n 1, 1) := dq_60 (kX12_nextOrder_0 6 rfl)
theorem dX12_nextOrder_7 : decode cX12_nextOrder 7 = .ok (.iload_n 1, 1) := dq_27 (kX12_nextOrder_0 7 rfl)
theorem dX12_nextOrder_8 : decode cX12_nextOrder 8 = .ok (.ifCond .lt 27, 3) := dq_155 (kX12_nextOrder_0 8 rfl) (kX12_nextOrder_0 9 rfl) (kX12_nextOrder_0 10 rfl) (by decide)
theorem dX12_nextOrder_11 : decode cX12_nextOrder 11 = .ok (.aload_n 0, 1) := dq_42 (kX12_nextOrder_0 11 rfl)
theorem dX12_nextOrder_12 : decode cX12_nextOrder 12 = .ok (.getfield 340, 3) := dq_180 (kX12_nextOrder_0 12 rfl) (kX12_nextOrder_0 13 rfl) (kX12_nextOrder_0 14 rfl) rfl
theorem dX12_nextOrder_15 : decode cX12_nextOrder 15 = .ok (.iload_n 1, 1) := dq_27 (kX12_nextOrder_0 15 rfl)
theorem dX12_nextOrder_16 : decode cX12_nextOrder 16 = .ok (.iaload, 1) := dq_46 (kX12_nextOrder_0 16 rfl)
theorem dX12_nextOrder_17 : decode cX12_nextOrder 17 = .ok (.aload_n 0, 1) := dq_42 (kX12_nextOrder_0 17 rfl)
theorem dX12_nextOrder_18 : decode cX12_nextOrder 18 = .ok (.getfield 340, 3) := dq_180 (kX12_nextOrder_0 18 rfl) (kX12_nextOrder_0 19 rfl) (kX12_nextOrder_0 20 rfl) rfl
theorem dX12_nextOrder_21 : decode cX12_nextOrder 21 = .ok (.iload_n 1, 1) := dq_27 (kX12_nextOrder_0 21 rfl)
theorem dX12_nextOrder_22 : decode cX12_nextOrder 22 = .ok (.iconst 1, 1) := dq_4 (kX12_nextOrder_0 22 rfl)
theorem dX12_nextOrder_23 : decode cX12_nextOrder 23 = .ok (.iadd, 1) := dq_96 (kX12_nextOrder_0 23 rfl)
theorem dX12_nextOrder_24 : decode cX12_nextOrder 24 = .ok (.iaload, 1) := dq_46 (kX12_nextOrder_0 24 rfl)
theorem dX12_nextOrder_25 : decode cX12_nextOrder 25 = .ok (.if_icmp .le 10, 3) := dq_164 (kX12_nextOrder_0 25 rfl) (kX12_nextOrder_0 26 rfl) (kX12_nextOrder_0 27 rfl) (by decide)
theorem dX12_nextOrder_28 : decode cX12_nextOrder 28 = .ok (.iload_n 1, 1) := dq_27 (kX12_nextOrder_0 28 rfl)
theorem dX12_nextOrder_29 : decode cX12_nextOrder 29 = .ok (.iconst 1, 1) := dq_4 (kX12_nextOrder_0 29 rfl)
theorem dX12_nextOrder_30 : decode cX12_nextOrder 30 = .ok (.isub, 1) := dq_100 (kX12_nextOrder_0 30 rfl)
theorem dX12_nextOrder_31 : decode cX12_nextOrder 31 = .ok (.istore_n 1, 1) := dq_60 (kX12_nextOrder_0 31 rfl)
theorem dX12_nextOrder_32 : decode cX12_nextOrder 32 = .ok (.goto (-25), 3) := dq_167 (kX12_nextOrder_1 0 rfl) (kX12_nextOrder_1 1 rfl) (kX12_nextOrder_1 2 rfl) (by decide)
theorem dX12_nextOrder_35 : decode cX12_nextOrder 35 = .ok (.iload_n 1, 1) := dq_27 (kX12_nextOrder_1 3 rfl)
theorem dX12_nextOrder_36 : decode cX12_nextOrder 36 = .ok (.ifCond .ge 5, 3) := dq_156 (kX12_nextOrder_1 4 rfl) (kX12_nextOrder_1 5 rfl) (kX12_nextOrder_1 6 rfl) (by decide)
theorem dX12_nextOrder_39 : decode cX12_nextOrder 39 = .ok (.iconst 0, 1) := dq_3 (kX12_nextOrder_1 7 rfl)
theorem dX12_nextOrder_40 : decode cX12_nextOrder 40 = .ok (.ireturn, 1) := dq_172 (kX12_nextOrder_1 8 rfl)
theorem dX12_nextOrder_41 : decode cX12_nextOrder 41 = .ok (.aload_n 0, 1) := dq_42 (kX12_nextOrder_1 9 rfl)
theorem dX12_nextOrder_42 : decode cX12_nextOrder 42 = .ok (.getfield 736, 3) := dq_180 (kX12_nextOrder_1 10 rfl) (kX12_nextOrder_1 11 rfl) (kX12_nextOrder_1 12 rfl) rfl
theorem dX12_nextOrder_45 : decode cX12_nextOrder 45 = .ok (.iconst 1, 1) := dq_4 (kX12_nextOrder_1 13 rfl)
theorem dX12_nextOrder_46 : decode cX12_nextOrder 46 = .ok (.isub, 1) := dq_100 (kX12_nextOrder_1 14 rfl)
theorem dX12_nextOrder_47 : decode cX12_nextOrder 47 = .ok (.istore_n 2, 1) := dq_61 (kX12_nextOrder_1 15 rfl)
theorem dX12_nextOrder_48 : decode cX12_nextOrder 48 = .ok (.aload_n 0, 1) := dq_42 (kX12_nextOrder_1 16 rfl)
theorem dX12_nextOrder_49 : decode cX12_nextOrder 49 = .ok (.getfield 340, 3) := dq_180 (kX12_nextOrder_1 17 rfl) (kX12_nextOrder_1 18 rfl) (kX12_nextOrder_1 19 rfl) rfl
theorem dX12_nextOrder_52 : decode cX12_nextOrder 52 = .ok (.iload_n 2, 1) := dq_28 (kX12_nextOrder_1 20 rfl)
theorem dX12_nextOrder_53 : decode cX12_nextOrder 53 = .ok (.iaload, 1) := dq_46 (kX12_nextOrder_1 21 rfl)
theorem dX12_nextOrder_54 : decode cX12_nextOrder 54 = .ok (.aload_n 0, 1) := dq_42 (kX12_nextOrder_1 22 rfl)
theorem dX12_nextOrder_55 : decode cX12_nextOrder 55 = .ok (.getfield 340, 3) := dq_180 (kX12_nextOrder_1 23 rfl) (kX12_nextOrder_1 24 rfl) (kX12_nextOrder_1 25 rfl) rfl
theorem dX12_nextOrder_58 : decode cX12_nextOrder 58 = .ok (.iload_n 1, 1) := dq_27 (kX12_nextOrder_1 26 rfl)
theorem dX12_nextOrder_59 : decode cX12_nextOrder 59 = .ok (.iaload, 1) := dq_46 (kX12_nextOrder_1 27 rfl)
theorem dX12_nextOrder_60 : decode cX12_nextOrder 60 = .ok (.if_icmp .ge 10, 3) := dq_162 (kX12_nextOrder_1 28 rfl) (kX12_nextOrder_1 29 rfl) (kX12_nextOrder_1 30 rfl) (by decide)
theorem dX12_nextOrder_63 : decode cX12_nextOrder 63 = .ok (.iload_n 2, 1) := dq_28 (kX12_nextOrder_1 31 rfl)
theorem dX12_nextOrder_64 : decode cX12_nextOrder 64 = .ok (.iconst 1, 1) := dq_4 (kX12_nextOrder_2 0 rfl)
theorem dX12_nextOrder_65 : decode cX12_nextOrder 65 = .ok (.isub, 1) := dq_100 (kX12_nextOrder_2 1 rfl)
theorem dX12_nextOrder_66 : decode cX12_nextOrder 66 = .ok (.istore_n 2, 1) := dq_61 (kX12_nextOrder_2 2 rfl)
theorem dX12_nextOrder_67 : decode cX12_nextOrder 67 = .ok (.goto (-19), 3) := dq_167 (kX12_nextOrder_2 3 rfl) (kX12_nextOrder_2 4 rfl) (kX12_nextOrder_2 5 rfl) (by decide)
theorem dX12_nextOrder_70 : decode cX12_nextOrder 70 = .ok (.aload_n 0, 1) := dq_42 (kX12_nextOrder_2 6 rfl)
theorem dX12_nextOrder_71 : decode cX12_nextOrder 71 = .ok (.iload_n 1, 1) := dq_27 (kX12_nextOrder_2 7 rfl)
theorem dX12_nextOrder_72 : decode cX12_nextOrder 72 = .ok (.iload_n 2, 1) := dq_28 (kX12_nextOrder_2 8 rfl)
theorem dX12_nextOrder_73 : decode cX12_nextOrder 73 = .ok (.invokevirtual 742, 3) := dq_182 (kX12_nextOrder_2 9 rfl) (kX12_nextOrder_2 10 rfl) (kX12_nextOrder_2 11 rfl) rfl
theorem dX12_nextOrder_76 : decode cX12_nextOrder 76 = .ok (.iload_n 1, 1) := dq_27 (kX12_nextOrder_2 12 rfl)
theorem dX12_nextOrder_77 : decode cX12_nextOrder 77 = .ok (.iconst 1, 1) := dq_4 (kX12_nextOrder_2 13 rfl)
theorem dX12_nextOrder_78 : decode cX12_nextOrder 78 = .ok (.iadd, 1) := dq_96 (kX12_nextOrder_2 14 rfl)
theorem dX12_nextOrder_79 : decode cX12_nextOrder 79 = .ok (.istore_n 3, 1) := dq_62 (kX12_nextOrder_2 15 rfl)
theorem dX12_nextOrder_80 : decode cX12_nextOrder 80 = .ok (.aload_n 0, 1) := dq_42 (kX12_nextOrder_2 16 rfl)
theorem dX12_nextOrder_81 : decode cX12_nextOrder 81 = .ok (.getfield 736, 3) := dq_180 (kX12_nextOrder_2 17 rfl) (kX12_nextOrder_2 18 rfl) (kX12_nextOrder_2 19 rfl) rfl
theorem dX12_nextOrder_84 : decode cX12_nextOrder 84 = .ok (.iconst 1, 1) := dq_4 (kX12_nextOrder_2 20 rfl)
theorem dX12_nextOrder_85 : decode cX12_nextOrder 85 = .ok (.isub, 1) := dq_100 (kX12_nextOrder_2 21 rfl)
theorem dX12_nextOrder_86 : decode cX12_nextOrder 86 = .ok (.istore 4, 2) := dq_54 (kX12_nextOrder_2 22 rfl) (kX12_nextOrder_2 23 rfl) rfl
theorem dX12_nextOrder_88 : decode cX12_nextOrder 88 = .ok (.iload_n 3, 1) := dq_29 (kX12_nextOrder_2 24 rfl)
theorem dX12_nextOrder_89 : decode cX12_nextOrder 89 = .ok (.iload 4, 2) := dq_21 (kX12_nextOrder_2 25 rfl) (kX12_nextOrder_2 26 rfl) rfl
theorem dX12_nextOrder_91 : decode cX12_nextOrder 91 = .ok (.if_icmp .ge 23, 3) := dq_162 (kX12_nextOrder_2 27 rfl) (kX12_nextOrder_2 28 rfl) (kX12_nextOrder_2 29 rfl) (by decide)
theorem dX12_nextOrder_94 : decode cX12_nextOrder 94 = .ok (.aload_n 0, 1) := dq_42 (kX12_nextOrder_2 30 rfl)
theorem dX12_nextOrder_95 : decode cX12_nextOrder 95 = .ok (.iload_n 3, 1) := dq_29 (kX12_nextOrder_2 31 rfl)
theorem dX12_nextOrder_96 : decode cX12_nextOrder 96 = .ok (.iload 4, 2) := dq_21 (kX12_nextOrder_3 0 rfl) (kX12_nextOrder_3 1 rfl) rfl
theorem dX12_nextOrder_98 : decode cX12_nextOrder 98 = .ok (.invokevirtual 742, 3) := dq_182 (kX12_nextOrder_3 2 rfl) (kX12_nextOrder_3 3 rfl) (kX12_nextOrder_3 4 rfl) rfl
theorem dX12_nextOrder_101 : decode cX12_nextOrder 101 = .ok (.iload_n 3, 1) := dq_29 (kX12_nextOrder_3 5 rfl)
theorem dX12_nextOrder_102 : decode cX12_nextOrder 102 = .ok (.iconst 1, 1) := dq_4 (kX12_nextOrder_3 6 rfl)
theorem dX12_nextOrder_103 : decode cX12_nextOrder 103 = .ok (.iadd, 1) := dq_96 (kX12_nextOrder_3 7 rfl)
theorem dX12_nextOrder_104 : decode cX12_nextOrder 104 = .ok (.istore_n 3, 1) := dq_62 (kX12_nextOrder_3 8 rfl)
theorem dX12_nextOrder_105 : decode cX12_nextOrder 105 = .ok (.iload 4, 2) := dq_21 (kX12_nextOrder_3 9 rfl) (kX12_nextOrder_3 10 rfl) rfl
theorem dX12_nextOrder_107 : decode cX12_nextOrder 107 = .ok (.iconst 1, 1) := dq_4 (kX12_nextOrder_3 11 rfl)
theorem dX12_nextOrder_108 : decode cX12_nextOrder 108 = .ok (.isub, 1) := dq_100 (kX12_nextOrder_3 12 rfl)
theorem dX12_nextOrder_109 : decode cX12_nextOrder 109 = .ok (.istore 4, 2) := dq_54 (kX12_nextOrder_3 13 rfl) (kX12_nextOrder_3 14 rfl) rfl
theorem dX12_nextOrder_111 : decode cX12_nextOrder 111 = .ok (.goto (-23), 3) := dq_167 (kX12_nextOrder_3 15 rfl) (kX12_nextOrder_3 16 rfl) (kX12_nextOrder_3 17 rfl) (by decide)
theorem dX12_nextOrder_114 : decode cX12_nextOrder 114 = .ok (.iconst 1, 1) := dq_4 (kX12_nextOrder_3 18 rfl)
theorem dX12_nextOrder_115 : decode cX12_nextOrder 115 = .ok (.ireturn, 1) := dq_172 (kX12_nextOrder_3 19 rfl)
