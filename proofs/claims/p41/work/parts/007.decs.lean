def bX11_passWork_0 : List UInt8 := [42, 27, 182, 1, 53, 77, 44, 198, 0, 31, 42, 180, 0, 12, 180, 0, 145, 44, 180, 1, 196, 161, 0, 17, 42, 180, 0, 12, 180, 0, 145, 44]
theorem kX11_passWork_0 (j : Nat) {b : UInt8} (hj : bX11_passWork_0[j]? = some b) : AtB cX11_passWork (0 + j) b := at_of32 (by decide +kernel) j hj
def bX11_passWork_1 : List UInt8 := [180, 1, 199, 164, 0, 4, 177, 42, 44, 42, 180, 0, 12, 180, 0, 145, 3, 182, 1, 75, 153, 0, 14, 44, 89, 180, 1, 202, 4, 96, 181, 1]
theorem kX11_passWork_1 (j : Nat) {b : UInt8} (hj : bX11_passWork_1[j]? = some b) : AtB cX11_passWork (32 + j) b := at_of32 (by decide +kernel) j hj
def bX11_passWork_2 : List UInt8 := [202, 177, 44, 89, 180, 1, 205, 4, 96, 181, 1, 205, 42, 44, 180, 1, 97, 182, 0, 151, 78, 44, 180, 1, 119, 154, 0, 17, 45, 198, 0, 13]
theorem kX11_passWork_2 (j : Nat) {b : UInt8} (hj : bX11_passWork_2[j]? = some b) : AtB cX11_passWork (64 + j) b := at_of32 (by decide +kernel) j hj
def bX11_passWork_3 : List UInt8 := [45, 89, 180, 1, 208, 4, 96, 181, 1, 208, 42, 44, 182, 1, 211, 3, 54, 4, 21, 4, 42, 180, 0, 79, 180, 0, 199, 162, 0, 29, 42, 180]
theorem kX11_passWork_3 (j : Nat) {b : UInt8} (hj : bX11_passWork_3[j]? = some b) : AtB cX11_passWork (96 + j) b := at_of32 (by decide +kernel) j hj
def bX11_passWork_4 : List UInt8 := [0, 79, 21, 4, 4, 182, 0, 209, 27, 160, 0, 9, 42, 21, 4, 182, 1, 214, 132, 4, 1, 167, 255, 221, 177]
theorem kX11_passWork_4 (j : Nat) {b : UInt8} (hj : bX11_passWork_4[j]? = some b) : AtB cX11_passWork (128 + j) b := at_of32 (by decide +kernel) j hj
theorem dX11_passWork_0 : decode cX11_passWork 0 = .ok (.aload_n 0, 1) := dq_42 (kX11_passWork_0 0 rfl)
theorem dX11_passWork_1 : decode cX11_passWork 1 = .ok (.iload_n 1, 1) := dq_27 (kX11_passWork_0 1 rfl)
theorem dX11_passWork_2 : decode cX11_passWork 2 = .ok (.invokevirtual 309, 3) := dq_182 (kX11_passWork_0 2 rfl) (kX11_passWork_0 3 rfl) (kX11_passWork_0 4 rfl) rfl
theorem dX11_passWork_5 : decode cX11_passWork 5 = .ok (.astore_n 2, 1) := dq_77 (kX11_passWork_0 5 rfl)
theorem dX11_passWork_6 : decode cX11_passWork 6 = .ok (.aload_n 2, 1) := dq_44 (kX11_passWork_0 6 rfl)
theorem dX11_passWork_7 : decode cX11_passWork 7 = .ok (.ifnull 31, 3) := dq_198 (kX11_passWork_0 7 rfl) (kX11_passWork_0 8 rfl) (kX11_passWork_0 9 rfl) (by decide)
theorem dX11_passWork_10 : decode cX11_passWork 10 = .ok (.aload_n 0, 1) := dq_42 (kX11_passWork_0 10 rfl)
theorem dX11_passWork_11 : decode cX11_passWork 11 = .ok (.getfield 12, 3) := dq_180 (kX11_passWork_0 11 rfl) (kX11_passWork_0 12 rfl) (kX11_passWork_0 13 rfl) rfl
theorem dX11_passWork_14 : decode cX11_passWork 14 = .ok (.getfield 145, 3) := dq_180 (kX11_passWork_0 14 rfl) (kX11_passWork_0 15 rfl) (kX11_passWork_0 16 rfl) rfl
theorem dX11_passWork_17 : decode cX11_passWork 17 = .ok (.aload_n 2, 1) := dq_44 (kX11_passWork_0 17 rfl)
theorem dX11_passWork_18 : decode cX11_passWork 18 = .ok (.getfield 452, 3) := dq_180 (kX11_passWork_0 18 rfl) (kX11_passWork_0 19 rfl) (kX11_passWork_0 20 rfl) rfl
theorem dX11_passWork_21 : decode cX11_passWork 21 = .ok (.if_icmp .lt 17, 3) := dq_161 (kX11_passWork_0 21 rfl) (kX11_passWork_0 22 rfl) (kX11_passWork_0 23 rfl) (by decide)
theorem dX11_passWork_24 : decode cX11_passWork 24 = .ok (.aload_n 0, 1) := dq_42 (kX11_passWork_0 24 rfl)
theorem dX11_passWork_25 : decode cX11_passWork 25 = .ok (.getfield 12, 3) := dq_180 (kX11_passWork_0 25 rfl) (kX11_passWork_0 26 rfl) (kX11_passWork_0 27 rfl) rfl
theorem dX11_passWork_28 : decode cX11_passWork 28 = .ok (.getfield 145, 3) := dq_180 (kX11_passWork_0 28 rfl) (kX11_passWork_0 29 rfl) (kX11_passWork_0 30 rfl) rfl
theorem dX11_passWork_31 : decode cX11_passWork 31 = .ok (.aload_n 2, 1) := dq_44 (kX11_passWork_0 31 rfl)
theorem dX11_passWork_32 : decode cX11_passWork 32 = .ok (.getfield 455, 3) := dq_180 (kX11_passWork_1 0 rfl) (kX11_passWork_1 1 rfl) (kX11_passWork_1 2 rfl) rfl
theorem dX11_passWork_35 : decode cX11_passWork 35 = .ok (.if_icmp .le 4, 3) := dq_164 (kX11_passWork_1 3 rfl) (kX11_passWork_1 4 rfl) (kX11_passWork_1 5 rfl) (by decide)
theorem dX11_passWork_38 : decode cX11_passWork 38 = .ok (.return_, 1) := dq_177 (kX11_passWork_1 6 rfl)
theorem dX11_passWork_39 : decode cX11_passWork 39 = .ok (.aload_n 0, 1) := dq_42 (kX11_passWork_1 7 rfl)
theorem dX11_passWork_40 : decode cX11_passWork 40 = .ok (.aload_n 2, 1) := dq_44 (kX11_passWork_1 8 rfl)
theorem dX11_passWork_41 : decode cX11_passWork 41 = .ok (.aload_n 0, 1) := dq_42 (kX11_passWork_1 9 rfl)
theorem dX11_passWork_42 : decode cX11_passWork 42 = .ok (.getfield 12, 3) := dq_180 (kX11_passWork_1 10 rfl) (kX11_passWork_1 11 rfl) (kX11_passWork_1 12 rfl) rfl
theorem dX11_passWork_45 : decode cX11_passWork 45 = .ok (.getfield 145, 3) := dq_180 (kX11_passWork_1 13 rfl) (kX11_passWork_1 14 rfl) (kX11_passWork_1 15 rfl) rfl
theorem dX11_passWork_48 : decode cX11_passWork 48 = .ok (.iconst 0, 1) := dq_3 (kX11_passWork_1 16 rfl)
theorem dX11_passWork_49 : decode cX11_passWork 49 = .ok (.invokevirtual 331, 3) := dq_182 (kX11_passWork_1 17 rfl) (kX11_passWork_1 18 rfl) (kX11_passWork_1 19 rfl) rfl
theorem dX11_passWork_52 : decode cX11_passWork 52 = .ok (.ifCond .eq 14, 3) := dq_153 (kX11_passWork_1 20 rfl) (kX11_passWork_1 21 rfl) (kX11_passWork_1 22 rfl) (by decide)
theorem dX11_passWork_55 : decode cX11_passWork 55 = .ok (.aload_n 2, 1) := dq_44 (kX11_passWork_1 23 rfl)
theorem dX11_passWork_56 : decode cX11_passWork 56 = .ok (.dup, 1) := dq_89 (kX11_passWork_1 24 rfl)
theorem dX11_passWork_57 : decode cX11_passWork 57 = .ok (.getfield 458, 3) := dq_180 (kX11_passWork_1 25 rfl) (kX11_passWork_1 26 rfl) (kX11_passWork_1 27 rfl) rfl
theorem dX11_passWork_60 : decode cX11_passWork 60 = .ok (.iconst 1, 1) := dq_4 (kX11_passWork_1 28 rfl)
theorem dX11_passWork_61 : decode cX11_passWork 61 = .ok (.iadd, 1) := dq_96 (kX11_passWork_1 29 rfl)
theorem dX11_passWork_62 : decode cX11_passWork 62 = .ok (.putfield 458, 3) := dq_181 (kX11_passWork_1 30 rfl) (kX11_passWork_1 31 rfl) (kX11_passWork_2 0 rfl) rfl
theorem dX11_passWork_65 : decode cX11_passWork 65 = .ok (.return_, 1) := dq_177 (kX11_passWork_2 1 rfl)
theorem dX11_passWork_66 : decode cX11_passWork 66 = .ok (.aload_n 2, 1) := dq_44 (kX11_passWork_2 2 rfl)
theorem dX11_passWork_67 : decode cX11_passWork 67 = .ok (.dup, 1) := dq_89 (kX11_passWork_2 3 rfl)
theorem dX11_passWork_68 : decode cX11_passWork 68 = .ok (.getfield 461, 3) := dq_180 (kX11_passWork_2 4 rfl) (kX11_passWork_2 5 rfl) (kX11_passWork_2 6 rfl) rfl
theorem dX11_passWork_71 : decode cX11_passWork 71 = .ok (.iconst 1, 1) := dq_4 (kX11_passWork_2 7 rfl)
theorem dX11_passWork_72 : decode cX11_passWork 72 = .ok (.iadd, 1) := dq_96 (kX11_passWork_2 8 rfl)
theorem dX11_passWork_73 : decode cX11_passWork 73 = .ok (.putfield 461, 3) := dq_181 (kX11_passWork_2 9 rfl) (kX11_passWork_2 10 rfl) (kX11_passWork_2 11 rfl) rfl
theorem dX11_passWork_76 : decode cX11_passWork 76 = .ok (.aload_n 0, 1) := dq_42 (kX11_passWork_2 12 rfl)
theorem dX11_passWork_77 : decode cX11_passWork 77 = .ok (.aload_n 2, 1) := dq_44 (kX11_passWork_2 13 rfl)
theorem dX11_passWork_78 : decode cX11_passWork 78 = .ok (.getfield 353, 3) := dq_180 (kX11_passWork_2 14 rfl) (kX11_passWork_2 15 rfl) (kX11_passWork_2 16 rfl) rfl
theorem dX11_passWork_81 : decode cX11_passWork 81 = .ok (.invokevirtual 151, 3) := dq_182 (kX11_passWork_2 17 rfl) (kX11_passWork_2 18 rfl) (kX11_passWork_2 19 rfl) rfl
theorem dX11_passWork_84 : decode cX11_passWork 84 = .ok (.astore_n 3, 1) := dq_78 (kX11_passWork_2 20 rfl)
theorem dX11_passWork_85 : decode cX11_passWork 85 = .ok (.aload_n 2, 1) := dq_44 (kX11_passWork_2 21 rfl)
theorem dX11_passWork_86 : decode cX11_passWork 86 = .ok (.getfield 375, 3) := dq_180 (kX11_passWork_2 22 rfl) (kX11_passWork_2 23 rfl) (kX11_passWork_2 24 rfl) rfl
theorem dX11_passWork_89 : decode cX11_passWork 89 = .ok (.ifCond .ne 17, 3) := dq_154 (kX11_passWork_2 25 rfl) (kX11_passWork_2 26 rfl) (kX11_passWork_2 27 rfl) (by decide)
theorem dX11_passWork_92 : decode cX11_passWork 92 = .ok (.aload_n 3, 1) := dq_45 (kX11_passWork_2 28 rfl)
theorem dX11_passWork_93 : decode cX11_passWork 93 = .ok (.ifnull 13, 3) := dq_198 (kX11_passWork_2 29 rfl) (kX11_passWork_2 30 rfl) (kX11_passWork_2 31 rfl) (by decide)
theorem dX11_passWork_96 : decode cX11_passWork 96 = .ok (.aload_n 3, 1) := dq_45 (kX11_passWork_3 0 rfl)
theorem dX11_passWork_97 : decode cX11_passWork 97 = .ok (.dup, 1) := dq_89 (kX11_passWork_3 1 rfl)
theorem dX11_passWork_98 : decode cX11_passWork 98 = .ok (.getfield 464, 3) := dq_180 (kX11_passWork_3 2 rfl) (kX11_passWork_3 3 rfl) (kX11_passWork_3 4 rfl) rfl
theorem dX11_passWork_101 : decode cX11_passWork 101 = .ok (.iconst 1, 1) := dq_4 (kX11_passWork_3 5 rfl)
theorem dX11_passWork_102 : decode cX11_passWork 102 = .ok (.iadd, 1) := dq_96 (kX11_passWork_3 6 rfl)
theorem dX11_passWork_103 : decode cX11_passWork 103 = .ok (.putfield 464, 3) := dq_181 (kX11_passWork_3 7 rfl) (kX11_passWork_3 8 rfl) (kX11_passWork_3 9 rfl) rfl
theorem dX11_passWork_106 : decode cX11_passWork 106 = .ok (.aload_n 0, 1) := dq_42 (kX11_passWork_3 10 rfl)
theorem dX11_passWork_107 : decode cX11_passWork 107 = .ok (.aload_n 2, 1) := dq_44 (kX11_passWork_3 11 rfl)
theorem dX11_passWork_108 : decode cX11_passWork 108 = .ok (.invokevirtual 467, 3) := dq_182 (kX11_passWork_3 12 rfl) (kX11_passWork_3 13 rfl) (kX11_passWork_3 14 rfl) rfl
theorem dX11_passWork_111 : decode cX11_passWork 111 = .ok (.iconst 0, 1) := dq_3 (kX11_passWork_3 15 rfl)
theorem dX11_passWork_112 : decode cX11_passWork 112 = .ok (.istore 4, 2) := dq_54 (kX11_passWork_3 16 rfl) (kX11_passWork_3 17 rfl) rfl
theorem dX11_passWork_114 : decode cX11_passWork 114 = .ok (.iload 4, 2) := dq_21 (kX11_passWork_3 18 rfl) (kX11_passWork_3 19 rfl) rfl
theorem dX11_passWork_116 : decode cX11_passWork 116 = .ok (.aload_n 0, 1) := dq_42 (kX11_passWork_3 20 rfl)
theorem dX11_passWork_117 : decode cX11_passWork 117 = .ok (.getfield 79, 3) := dq_180 (kX11_passWork_3 21 rfl) (kX11_passWork_3 22 rfl) (kX11_passWork_3 23 rfl) rfl
theorem dX11_passWork_120 : decode cX11_passWork 120 = .ok (.getfield 199, 3) := dq_180 (kX11_passWork_3 24 rfl) (kX11_passWork_3 25 rfl) (kX11_passWork_3 26 rfl) rfl
theorem dX11_passWork_123 : decode cX11_passWork 123 = .ok (.if_icmp .ge 29, 3) := dq_162 (kX11_passWork_3 27 rfl) (kX11_passWork_3 28 rfl) (kX11_passWork_3 29 rfl) (by decide)
theorem dX11_passWork_126 : decode cX11_passWork 126 = .ok (.aload_n 0, 1) := dq_42 (kX11_passWork_3 30 rfl)
theorem dX11_passWork_127 : decode cX11_passWork 127 = .ok (.getfield 79, 3) := dq_180 (kX11_passWork_3 31 rfl) (kX11_passWork_4 0 rfl) (kX11_passWork_4 1 rfl) rfl
theorem dX11_passWork_130 : decode cX11_passWork 130 = .ok (.iload 4, 2) := dq_21 (kX11_passWork_4 2 rfl) (kX11_passWork_4 3 rfl) rfl
theorem dX11_passWork_132 : decode cX11_passWork 132 = .ok (.iconst 1, 1) := dq_4 (kX11_passWork_4 4 rfl)
theorem dX11_passWork_133 : decode cX11_passWork 133 = .ok (.invokevirtual 209, 3) := dq_182 (kX11_passWork_4 5 rfl) (kX11_passWork_4 6 rfl) (kX11_passWork_4 7 rfl) rfl
theorem dX11_passWork_136 : decode cX11_passWork 136 = .ok (.iload_n 1, 1) := dq_27 (kX11_passWork_4 8 rfl)
theorem dX11_passWork_137 : decode cX11_passWork 137 = .ok (.if_icmp .ne 9, 3) := dq_160 (kX11_passWork_4 9 rfl) (kX11_passWork_4 10 rfl) (kX11_passWork_4 11 rfl) (by decide)
theorem dX11_passWork_140 : decode cX11_passWork 140 = .ok (.aload_n 0, 1) := dq_42 (kX11_passWork_4 12 rfl)
theorem dX11_passWork_141 : decode cX11_passWork 141 = .ok (.iload 4, 2) := dq_21 (kX11_passWork_4 13 rfl) (kX11_passWork_4 14 rfl) rfl
theorem dX11_passWork_143 : decode cX11_passWork 143 = .ok (.invokevirtual 470, 3) := dq_182 (kX11_passWork_4 15 rfl) (kX11_passWork_4 16 rfl) (kX11_passWork_4 17 rfl) rfl
theorem dX11_passWork_146 : decode cX11_passWork 146 = .ok (.iinc 4 1, 3) := dq_132 (kX11_passWork_4 18 rfl) (kX11_passWork_4 19 rfl) (kX11_passWork_4 20 rfl) rfl (by decide)
theorem dX11_passWork_149 : decode cX11_passWork 149 = .ok (.goto (-35), 3) := dq_167 (kX11_passWork_4 21 rfl) (kX11_passWork_4 22 rfl) (kX11_passWork_4 23 rfl) (by decide)
theorem dX11_passWork_152 : decode cX11_passWork 152 = .ok (.return_, 1) := dq_177 (kX11_passWork_4 24 rfl)

def bX11_disturbNests_0 : List UInt8 := [42, 180, 0, 12, 180, 0, 145, 17, 1, 104, 108, 61, 3, 62, 29, 42, 180, 0, 46, 162, 0, 72, 42, 29, 8, 182, 0, 169, 58, 4, 25, 4]
theorem kX11_disturbNests_0 (j : Nat) {b : UInt8} (hj : bX11_disturbNests_0[j]? = some b) : AtB cX11_disturbNests (0 + j) b := at_of32 (by decide +kernel) j hj
def bX11_disturbNests_1 : List UInt8 := [199, 0, 6, 167, 0, 50, 42, 180, 0, 12, 43, 180, 1, 122, 25, 4, 180, 1, 88, 182, 1, 132, 54, 5, 21, 5, 155, 0, 27, 21, 5, 6]
theorem kX11_disturbNests_1 (j : Nat) {b : UInt8} (hj : bX11_disturbNests_1[j]? = some b) : AtB cX11_disturbNests (32 + j) b := at_of32 (by decide +kernel) j hj
def bX11_disturbNests_2 : List UInt8 := [163, 0, 21, 25, 4, 180, 1, 217, 28, 43, 180, 1, 50, 21, 5, 4, 96, 108, 184, 1, 220, 132, 3, 1, 167, 255, 182, 177]
theorem kX11_disturbNests_2 (j : Nat) {b : UInt8} (hj : bX11_disturbNests_2[j]? = some b) : AtB cX11_disturbNests (64 + j) b := at_of32 (by decide +kernel) j hj
theorem dX11_disturbNests_0 : decode cX11_disturbNests 0 = .ok (.aload_n 0, 1) := dq_42 (kX11_disturbNests_0 0 rfl)
theorem dX11_disturbNests_1 : decode cX11_disturbNests 1 = .ok (.getfield 12, 3) := dq_180 (kX11_disturbNests_0 1 rfl) (kX11_disturbNests_0 2 rfl) (kX11_disturbNests_0 3 rfl) rfl
theorem dX11_disturbNests_4 : decode cX11_disturbNests 4 = .ok (.getfield 145, 3) := dq_180 (kX11_disturbNests_0 4 rfl) (kX11_disturbNests_0 5 rfl) (kX11_disturbNests_0 6 rfl) rfl
theorem dX11_disturbNests_7 : decode cX11_disturbNests 7 = .ok (.sipush 360, 3) := dq_17 (kX11_disturbNests_0 7 rfl) (kX11_disturbNests_0 8 rfl) (kX11_disturbNests_0 9 rfl) (by decide)
theorem dX11_disturbNests_10 : decode cX11_disturbNests 10 = .ok (.idiv, 1) := dq_108 (kX11_disturbNests_0 10 rfl)
theorem dX11_disturbNests_11 : decode cX11_disturbNests 11 = .ok (.istore_n 2, 1) := dq_61 (kX11_disturbNests_0 11 rfl)
theorem dX11_disturbNests_12 : decode cX11_disturbNests 12 = .ok (.iconst 0, 1) := dq_3 (kX11_disturbNests_0 12 rfl)
theorem dX11_disturbNests_13 : decode cX11_disturbNests 13 = .ok (.istore_n 3, 1) := dq_62 (kX11_disturbNests_0 13 rfl)
theorem dX11_disturbNests_14 : decode cX11_disturbNests 14 = .ok (.iload_n 3, 1) := dq_29 (kX11_disturbNests_0 14 rfl)
theorem dX11_disturbNests_15 : decode cX11_disturbNests 15 = .ok (.aload_n 0, 1) := dq_42 (kX11_disturbNests_0 15 rfl)
theorem dX11_disturbNests_16 : decode cX11_disturbNests 16 = .ok (.getfield 46, 3) := dq_180 (kX11_disturbNests_0 16 rfl) (kX11_disturbNests_0 17 rfl) (kX11_disturbNests_0 18 rfl) rfl
theorem dX11_disturbNests_19 : decode cX11_disturbNests 19 = .ok (.if_icmp .ge 72, 3) := dq_162 (kX11_disturbNests_0 19 rfl) (kX11_disturbNests_0 20 rfl) (kX11_disturbNests_0 21 rfl) (by decide)
theorem dX11_disturbNests_22 : decode cX11_disturbNests 22 = .ok (.aload_n 0, 1) := dq_42 (kX11_disturbNests_0 22 rfl)
theorem dX11_disturbNests_23 : decode cX11_disturbNests 23 = .ok (.iload_n 3, 1) := dq_29 (kX11_disturbNests_0 23 rfl)
theorem dX11_disturbNests_24 : decode cX11_disturbNests 24 = .ok (.iconst 5, 1) := dq_8 (kX11_disturbNests_0 24 rfl)
theorem dX11_disturbNests_25 : decode cX11_disturbNests 25 = .ok (.invokevirtual 169, 3) := dq_182 (kX11_disturbNests_0 25 rfl) (kX11_disturbNests_0 26 rfl) (kX11_disturbNests_0 27 rfl) rfl
theorem dX11_disturbNests_28 : decode cX11_disturbNests 28 = .ok (.astore 4, 2) := dq_58 (kX11_disturbNests_0 28 rfl) (kX11_disturbNests_0 29 rfl) rfl
theorem dX11_disturbNests_30 : decode cX11_disturbNests 30 = .ok (.aload 4, 2) := dq_25 (kX11_disturbNests_0 30 rfl) (kX11_disturbNests_0 31 rfl) rfl
theorem dX11_disturbNests_32 : decode cX11_disturbNests 32 = .ok (.ifnonnull 6, 3) := dq_199 (kX11_disturbNests_1 0 rfl) (kX11_disturbNests_1 1 rfl) (kX11_disturbNests_1 2 rfl) (by decide)
theorem dX11_disturbNests_35 : decode cX11_disturbNests 35 = .ok (.goto 50, 3) := dq_167 (kX11_disturbNests_1 3 rfl) (kX11_disturbNests_1 4 rfl) (kX11_disturbNests_1 5 rfl) (by decide)
theorem dX11_disturbNests_38 : decode cX11_disturbNests 38 = .ok (.aload_n 0, 1) := dq_42 (kX11_disturbNests_1 6 rfl)
theorem dX11_disturbNests_39 : decode cX11_disturbNests 39 = .ok (.getfield 12, 3) := dq_180 (kX11_disturbNests_1 7 rfl) (kX11_disturbNests_1 8 rfl) (kX11_disturbNests_1 9 rfl) rfl
theorem dX11_disturbNests_42 : decode cX11_disturbNests 42 = .ok (.aload_n 1, 1) := dq_43 (kX11_disturbNests_1 10 rfl)
theorem dX11_disturbNests_43 : decode cX11_disturbNests 43 = .ok (.getfield 378, 3) := dq_180 (kX11_disturbNests_1 11 rfl) (kX11_disturbNests_1 12 rfl) (kX11_disturbNests_1 13 rfl) rfl
theorem dX11_disturbNests_46 : decode cX11_disturbNests 46 = .ok (.aload 4, 2) := dq_25 (kX11_disturbNests_1 14 rfl) (kX11_disturbNests_1 15 rfl) rfl
theorem dX11_disturbNests_48 : decode cX11_disturbNests 48 = .ok (.getfield 344, 3) := dq_180 (kX11_disturbNests_1 16 rfl) (kX11_disturbNests_1 17 rfl) (kX11_disturbNests_1 18 rfl) rfl
theorem dX11_disturbNests_51 : decode cX11_disturbNests 51 = .ok (.invokevirtual 388, 3) := dq_182 (kX11_disturbNests_1 19 rfl) (kX11_disturbNests_1 20 rfl) (kX11_disturbNests_1 21 rfl) rfl
theorem dX11_disturbNests_54 : decode cX11_disturbNests 54 = .ok (.istore 5, 2) := dq_54 (kX11_disturbNests_1 22 rfl) (kX11_disturbNests_1 23 rfl) rfl
theorem dX11_disturbNests_56 : decode cX11_disturbNests 56 = .ok (.iload 5, 2) := dq_21 (kX11_disturbNests_1 24 rfl) (kX11_disturbNests_1 25 rfl) rfl
theorem dX11_disturbNests_58 : decode cX11_disturbNests 58 = .ok (.ifCond .lt 27, 3) := dq_155 (kX11_disturbNests_1 26 rfl) (kX11_disturbNests_1 27 rfl) (kX11_disturbNests_1 28 rfl) (by decide)
theorem dX11_disturbNests_61 : decode cX11_disturbNests 61 = .ok (.iload 5, 2) := dq_21 (kX11_disturbNests_1 29 rfl) (kX11_disturbNests_1 30 rfl) rfl
theorem dX11_disturbNests_63 : decode cX11_disturbNests 63 = .ok (.iconst 3, 1) := dq_6 (kX11_disturbNests_1 31 rfl)
theorem dX11_disturbNests_64 : decode cX11_disturbNests 64 = .ok (.if_icmp .gt 21, 3) := dq_163 (kX11_disturbNests_2 0 rfl) (kX11_disturbNests_2 1 rfl) (kX11_disturbNests_2 2 rfl) (by decide)
theorem dX11_disturbNests_67 : decode cX11_disturbNests 67 = .ok (.aload 4, 2) := dq_25 (kX11_disturbNests_2 3 rfl) (kX11_disturbNests_2 4 rfl) rfl
theorem dX11_disturbNests_69 : decode cX11_disturbNests 69 = .ok (.getfield 473, 3) := dq_180 (kX11_disturbNests_2 5 rfl) (kX11_disturbNests_2 6 rfl) (kX11_disturbNests_2 7 rfl) rfl
theorem dX11_disturbNests_72 : decode cX11_disturbNests 72 = .ok (.iload_n 2, 1) := dq_28 (kX11_disturbNests_2 8 rfl)
theorem dX11_disturbNests_73 : decode cX11_disturbNests 73 = .ok (.aload_n 1, 1) := dq_43 (kX11_disturbNests_2 9 rfl)
theorem dX11_disturbNests_74 : decode cX11_disturbNests 74 = .ok (.getfield 306, 3) := dq_180 (kX11_disturbNests_2 10 rfl) (kX11_disturbNests_2 11 rfl) (kX11_disturbNests_2 12 rfl) rfl
theorem dX11_disturbNests_77 : decode cX11_disturbNests 77 = .ok (.iload 5, 2) := dq_21 (kX11_disturbNests_2 13 rfl) (kX11_disturbNests_2 14 rfl) rfl
theorem dX11_disturbNests_79 : decode cX11_disturbNests 79 = .ok (.iconst 1, 1) := dq_4 (kX11_disturbNests_2 15 rfl)
theorem dX11_disturbNests_80 : decode cX11_disturbNests 80 = .ok (.iadd, 1) := dq_96 (kX11_disturbNests_2 16 rfl)
theorem dX11_disturbNests_81 : decode cX11_disturbNests 81 = .ok (.idiv, 1) := dq_108 (kX11_disturbNests_2 17 rfl)
theorem dX11_disturbNests_82 : decode cX11_disturbNests 82 = .ok (.invokestatic 476, 3) := dq_184 (kX11_disturbNests_2 18 rfl) (kX11_disturbNests_2 19 rfl) (kX11_disturbNests_2 20 rfl) rfl
theorem dX11_disturbNests_85 : decode cX11_disturbNests 85 = .ok (.iinc 3 1, 3) := dq_132 (kX11_disturbNests_2 21 rfl) (kX11_disturbNests_2 22 rfl) (kX11_disturbNests_2 23 rfl) rfl (by decide)
theorem dX11_disturbNests_88 : decode cX11_disturbNests 88 = .ok (.goto (-74), 3) := dq_167 (kX11_disturbNests_2 24 rfl) (kX11_disturbNests_2 25 rfl) (kX11_disturbNests_2 26 rfl) (by decide)
theorem dX11_disturbNests_91 : decode cX11_disturbNests 91 = .ok (.return_, 1) := dq_177 (kX11_disturbNests_2 27 rfl)

def bX11_goDown_0 : List UInt8 := [42, 42, 180, 0, 79, 27, 3, 182, 0, 209, 7, 182, 0, 169, 77, 44, 199, 0, 4, 177, 42, 180, 0, 79, 27, 5, 182, 0, 209, 62, 29, 17]
theorem kX11_goDown_0 (j : Nat) {b : UInt8} (hj : bX11_goDown_0[j]? = some b) : AtB cX11_goDown (0 + j) b := at_of32 (by decide +kernel) j hj
def bX11_goDown_1 : List UInt8 := [1, 244, 108, 16, 9, 184, 1, 223, 54, 4, 44, 182, 1, 226, 42, 180, 0, 94, 16, 10, 184, 0, 253, 100, 54, 5, 29, 42, 180, 0, 94, 21]
theorem kX11_goDown_1 (j : Nat) {b : UInt8} (hj : bX11_goDown_1[j]? = some b) : AtB cX11_goDown (32 + j) b := at_of32 (by decide +kernel) j hj
def bX11_goDown_2 : List UInt8 := [4, 184, 0, 253, 96, 21, 5, 184, 1, 223, 54, 6, 42, 180, 0, 79, 27, 5, 29, 21, 6, 184, 1, 40, 182, 1, 229, 177]
theorem kX11_goDown_2 (j : Nat) {b : UInt8} (hj : bX11_goDown_2[j]? = some b) : AtB cX11_goDown (64 + j) b := at_of32 (by decide +kernel) j hj
theorem dX11_goDown_0 : decode cX11_goDown 0 = .ok (.aload_n 0, 1) := dq_42 (kX11_goDown_0 0 rfl)
theorem dX11_goDown_1 : decode cX11_goDown 1 = .ok (.aload_n 0, 1) := dq_42 (kX11_goDown_0 1 rfl)
theorem dX11_goDown_2 : decode cX11_goDown 2 = .ok (.getfield 79, 3) := dq_180 (kX11_goDown_0 2 rfl) (kX11_goDown_0 3 rfl) (kX11_goDown_0 4 rfl) rfl
theorem dX11_goDown_5 : decode cX11_goDown 5 = .ok (.iload_n 1, 1) := dq_27 (kX11_goDown_0 5 rfl)
theorem dX11_goDown_6 : decode cX11_goDown 6 = .ok (.iconst 0, 1) := dq_3 (kX11_goDown_0 6 rfl)
theorem dX11_goDown_7 : decode cX11_goDown 7 = .ok (.invokevirtual 209, 3) := dq_182 (kX11_goDown_0 7 rfl) (kX11_goDown_0 8 rfl) (kX11_goDown_0 9 rfl) rfl
theorem dX11_goDown_10 : decode cX11_goDown 10 = .ok (.iconst 4, 1) := dq_7 (kX11_goDown_0 10 rfl)
theorem dX11_goDown_11 : decode cX11_goDown 11 = .ok (.invokevirtual 169, 3) := dq_182 (kX11_goDown_0 11 rfl) (kX11_goDown_0 12 rfl) (kX11_goDown_0 13 rfl) rfl
theorem dX11_goDown_14 : decode cX11_goDown 14 = .ok (.astore_n 2, 1) := dq_77 (kX11_goDown_0 14 rfl)
theorem dX11_goDown_15 : decode cX11_goDown 15 = .ok (.aload_n 2, 1) := dq_44 (kX11_goDown_0 15 rfl)
theorem dX11_goDown_16 : decode cX11_goDown 16 = .ok (.ifnonnull 4, 3) := dq_199 (kX11_goDown_0 16 rfl) (kX11_goDown_0 17 rfl) (kX11_goDown_0 18 rfl) (by decide)
theorem dX11_goDown_19 : decode cX11_goDown 19 = .ok (.return_, 1) := dq_177 (kX11_goDown_0 19 rfl)
theorem dX11_goDown_20 : decode cX11_goDown 20 = .ok (.aload_n 0, 1) := dq_42 (kX11_goDown_0 20 rfl)
theorem dX11_goDown_21 : decode cX11_goDown 21 = .ok (.getfield 79, 3) := dq_180 (kX11_goDown_0 21 rfl) (kX11_goDown_0 22 rfl) (kX11_goDown_0 23 rfl) rfl
theorem dX11_goDown_24 : decode cX11_goDown 24 = .ok (.iload_n 1, 1) := dq_27 (kX11_goDown_0 24 rfl)
theorem dX11_goDown_25 : decode cX11_goDown 25 = .ok (.iconst 2, 1) := dq_5 (kX11_goDown_0 25 rfl)
theorem dX11_goDown_26 : decode cX11_goDown 26 = .ok (.invokevirtual 209, 3) := dq_182 (kX11_goDown_0 26 rfl) (kX11_goDown_0 27 rfl) (kX11_goDown_0 28 rfl) rfl
theorem dX11_goDown_29 : decode cX11_goDown 29 = .ok (.istore_n 3, 1) := dq_62 (kX11_goDown_0 29 rfl)
theorem dX11_goDown_30 : decode cX11_goDown 30 = .ok (.iload_n 3, 1) := dq_29 (kX11_goDown_0 30 rfl)
theorem dX11_goDown_31 : decode cX11_goDown 31 = .ok (.sipush 500, 3) := dq_17 (kX11_goDown_0 31 rfl) (kX11_goDown_1 0 rfl) (kX11_goDown_1 1 rfl) (by decide)
theorem dX11_goDown_34 : decode cX11_goDown 34 = .ok (.idiv, 1) := dq_108 (kX11_goDown_1 2 rfl)
theorem dX11_goDown_35 : decode cX11_goDown 35 = .ok (.bipush 9, 2) := dq_16 (kX11_goDown_1 3 rfl) (kX11_goDown_1 4 rfl) (by decide)
theorem dX11_goDown_37 : decode cX11_goDown 37 = .ok (.invokestatic 479, 3) := dq_184 (kX11_goDown_1 5 rfl) (kX11_goDown_1 6 rfl) (kX11_goDown_1 7 rfl) rfl
theorem dX11_goDown_40 : decode cX11_goDown 40 = .ok (.istore 4, 2) := dq_54 (kX11_goDown_1 8 rfl) (kX11_goDown_1 9 rfl) rfl
theorem dX11_goDown_42 : decode cX11_goDown 42 = .ok (.aload_n 2, 1) := dq_44 (kX11_goDown_1 10 rfl)
theorem dX11_goDown_43 : decode cX11_goDown 43 = .ok (.invokevirtual 482, 3) := dq_182 (kX11_goDown_1 11 rfl) (kX11_goDown_1 12 rfl) (kX11_goDown_1 13 rfl) rfl
theorem dX11_goDown_46 : decode cX11_goDown 46 = .ok (.aload_n 0, 1) := dq_42 (kX11_goDown_1 14 rfl)
theorem dX11_goDown_47 : decode cX11_goDown 47 = .ok (.getfield 94, 3) := dq_180 (kX11_goDown_1 15 rfl) (kX11_goDown_1 16 rfl) (kX11_goDown_1 17 rfl) rfl
theorem dX11_goDown_50 : decode cX11_goDown 50 = .ok (.bipush 10, 2) := dq_16 (kX11_goDown_1 18 rfl) (kX11_goDown_1 19 rfl) (by decide)
theorem dX11_goDown_52 : decode cX11_goDown 52 = .ok (.invokestatic 253, 3) := dq_184 (kX11_goDown_1 20 rfl) (kX11_goDown_1 21 rfl) (kX11_goDown_1 22 rfl) rfl
theorem dX11_goDown_55 : decode cX11_goDown 55 = .ok (.isub, 1) := dq_100 (kX11_goDown_1 23 rfl)
theorem dX11_goDown_56 : decode cX11_goDown 56 = .ok (.istore 5, 2) := dq_54 (kX11_goDown_1 24 rfl) (kX11_goDown_1 25 rfl) rfl
theorem dX11_goDown_58 : decode cX11_goDown 58 = .ok (.iload_n 3, 1) := dq_29 (kX11_goDown_1 26 rfl)
theorem dX11_goDown_59 : decode cX11_goDown 59 = .ok (.aload_n 0, 1) := dq_42 (kX11_goDown_1 27 rfl)
theorem dX11_goDown_60 : decode cX11_goDown 60 = .ok (.getfield 94, 3) := dq_180 (kX11_goDown_1 28 rfl) (kX11_goDown_1 29 rfl) (kX11_goDown_1 30 rfl) rfl
theorem dX11_goDown_63 : decode cX11_goDown 63 = .ok (.iload 4, 2) := dq_21 (kX11_goDown_1 31 rfl) (kX11_goDown_2 0 rfl) rfl
theorem dX11_goDown_65 : decode cX11_goDown 65 = .ok (.invokestatic 253, 3) := dq_184 (kX11_goDown_2 1 rfl) (kX11_goDown_2 2 rfl) (kX11_goDown_2 3 rfl) rfl
theorem dX11_goDown_68 : decode cX11_goDown 68 = .ok (.iadd, 1) := dq_96 (kX11_goDown_2 4 rfl)
theorem dX11_goDown_69 : decode cX11_goDown 69 = .ok (.iload 5, 2) := dq_21 (kX11_goDown_2 5 rfl) (kX11_goDown_2 6 rfl) rfl
theorem dX11_goDown_71 : decode cX11_goDown 71 = .ok (.invokestatic 479, 3) := dq_184 (kX11_goDown_2 7 rfl) (kX11_goDown_2 8 rfl) (kX11_goDown_2 9 rfl) rfl
theorem dX11_goDown_74 : decode cX11_goDown 74 = .ok (.istore 6, 2) := dq_54 (kX11_goDown_2 10 rfl) (kX11_goDown_2 11 rfl) rfl
theorem dX11_goDown_76 : decode cX11_goDown 76 = .ok (.aload_n 0, 1) := dq_42 (kX11_goDown_2 12 rfl)
theorem dX11_goDown_77 : decode cX11_goDown 77 = .ok (.getfield 79, 3) := dq_180 (kX11_goDown_2 13 rfl) (kX11_goDown_2 14 rfl) (kX11_goDown_2 15 rfl) rfl
theorem dX11_goDown_80 : decode cX11_goDown 80 = .ok (.iload_n 1, 1) := dq_27 (kX11_goDown_2 16 rfl)
theorem dX11_goDown_81 : decode cX11_goDown 81 = .ok (.iconst 2, 1) := dq_5 (kX11_goDown_2 17 rfl)
theorem dX11_goDown_82 : decode cX11_goDown 82 = .ok (.iload_n 3, 1) := dq_29 (kX11_goDown_2 18 rfl)
theorem dX11_goDown_83 : decode cX11_goDown 83 = .ok (.iload 6, 2) := dq_21 (kX11_goDown_2 19 rfl) (kX11_goDown_2 20 rfl) rfl
theorem dX11_goDown_85 : decode cX11_goDown 85 = .ok (.invokestatic 296, 3) := dq_184 (kX11_goDown_2 21 rfl) (kX11_goDown_2 22 rfl) (kX11_goDown_2 23 rfl) rfl
theorem dX11_goDown_88 : decode cX11_goDown 88 = .ok (.invokevirtual 485, 3) := dq_182 (kX11_goDown_2 24 rfl) (kX11_goDown_2 25 rfl) (kX11_goDown_2 26 rfl) rfl
theorem dX11_goDown_91 : decode cX11_goDown 91 = .ok (.return_, 1) := dq_177 (kX11_goDown_2 27 rfl)

def bX11_admitParties_0 : List UInt8 := [3, 60, 27, 42, 180, 0, 36, 162, 0, 82, 42, 27, 182, 0, 151, 77, 44, 198, 0, 66, 44, 180, 1, 85, 2, 159, 0, 6, 167, 0, 55, 42]
theorem kX11_admitParties_0 (j : Nat) {b : UInt8} (hj : bX11_admitParties_0[j]? = some b) : AtB cX11_admitParties (0 + j) b := at_of32 (by decide +kernel) j hj
def bX11_admitParties_1 : List UInt8 := [180, 0, 19, 27, 44, 42, 180, 0, 12, 180, 0, 145, 182, 1, 23, 42, 180, 0, 19, 16, 113, 3, 3, 182, 1, 36, 62, 29, 2, 159, 0, 22]
theorem kX11_admitParties_1 (j : Nat) {b : UInt8} (hj : bX11_admitParties_1[j]? = some b) : AtB cX11_admitParties (32 + j) b := at_of32 (by decide +kernel) j hj
def bX11_admitParties_2 : List UInt8 := [44, 180, 1, 208, 29, 161, 0, 14, 44, 42, 180, 0, 12, 180, 0, 145, 181, 1, 85, 132, 1, 1, 167, 255, 172, 177]
theorem kX11_admitParties_2 (j : Nat) {b : UInt8} (hj : bX11_admitParties_2[j]? = some b) : AtB cX11_admitParties (64 + j) b := at_of32 (by decide +kernel) j hj
theorem dX11_admitParties_0 : decode cX11_admitParties 0 = .ok (.iconst 0, 1) := dq_3 (kX11_admitParties_0 0 rfl)
theorem dX11_admitParties_1 : decode cX11_admitParties 1 = .ok (.istore_n 1, 1) := dq_60 (kX11_admitParties_0 1 rfl)
theorem dX11_admitParties_2 : decode cX11_admitParties 2 = .ok (.iload_n 1, 1) := dq_27 (kX11_admitParties_0 2 rfl)
theorem dX11_admitParties_3 : decode cX11_admitParties 3 = .ok (.aload_n 0, 1) := dq_42 (kX11_admitParties_0 3 rfl)
theorem dX11_admitParties_4 : decode cX11_admitParties 4 = .ok (.getfield 36, 3) := dq_180 (kX11_admitParties_0 4 rfl) (kX11_admitParties_0 5 rfl) (kX11_admitParties_0 6 rfl) rfl
theorem dX11_admitParties_7 : decode cX11_admitParties 7 = .ok (.if_icmp .ge 82, 3) := dq_162 (kX11_admitParties_0 7 rfl) (kX11_admitParties_0 8 rfl) (kX11_admitParties_0 9 rfl) (by decide)
theorem dX11_admitParties_10 : decode cX11_admitParties 10 = .ok (.aload_n 0, 1) := dq_42 (kX11_admitParties_0 10 rfl)
theorem dX11_admitParties_11 : decode cX11_admitParties 11 = .ok (.iload_n 1, 1) := dq_27 (kX11_admitParties_0 11 rfl)
theorem dX11_admitParties_12 : decode cX11_admitParties 12 = .ok (.invokevirtual 151, 3) := dq_182 (kX11_admitParties_0 12 rfl) (kX11_admitParties_0 13 rfl) (kX11_admitParties_0 14 rfl) rfl
theorem dX11_admitParties_15 : decode cX11_admitParties 15 = .ok (.astore_n 2, 1) := dq_77 (kX11_admitParties_0 15 rfl)
theorem dX11_admitParties_16 : decode cX11_admitParties 16 = .ok (.aload_n 2, 1) := dq_44 (kX11_admitParties_0 16 rfl)
theorem dX11_admitParties_17 : decode cX11_admitParties 17 = .ok (.ifnull 66, 3) := dq_198 (kX11_admitParties_0 17 rfl) (kX11_admitParties_0 18 rfl) (kX11_admitParties_0 19 rfl) (by decide)
theorem dX11_admitParties_20 : decode cX11_admitParties 20 = .ok (.aload_n 2, 1) := dq_44 (kX11_admitParties_0 20 rfl)
theorem dX11_admitParties_21 : decode cX11_admitParties 21 = .ok (.getfield 341, 3) := dq_180 (kX11_admitParties_0 21 rfl) (kX11_admitParties_0 22 rfl) (kX11_admitParties_0 23 rfl) rfl
theorem dX11_admitParties_24 : decode cX11_admitParties 24 = .ok (.iconst (-1), 1) := dq_2 (kX11_admitParties_0 24 rfl)
theorem dX11_admitParties_25 : decode cX11_admitParties 25 = .ok (.if_icmp .eq 6, 3) := dq_159 (kX11_admitParties_0 25 rfl) (kX11_admitParties_0 26 rfl) (kX11_admitParties_0 27 rfl) (by decide)
theorem dX11_admitParties_28 : decode cX11_admitParties 28 = .ok (.goto 55, 3) := dq_167 (kX11_admitParties_0 28 rfl) (kX11_admitParties_0 29 rfl) (kX11_admitParties_0 30 rfl) (by decide)
theorem dX11_admitParties_31 : decode cX11_admitParties 31 = .ok (.aload_n 0, 1) := dq_42 (kX11_admitParties_0 31 rfl)
theorem dX11_admitParties_32 : decode cX11_admitParties 32 = .ok (.getfield 19, 3) := dq_180 (kX11_admitParties_1 0 rfl) (kX11_admitParties_1 1 rfl) (kX11_admitParties_1 2 rfl) rfl
theorem dX11_admitParties_35 : decode cX11_admitParties 35 = .ok (.iload_n 1, 1) := dq_27 (kX11_admitParties_1 3 rfl)
theorem dX11_admitParties_36 : decode cX11_admitParties 36 = .ok (.aload_n 2, 1) := dq_44 (kX11_admitParties_1 4 rfl)
theorem dX11_admitParties_37 : decode cX11_admitParties 37 = .ok (.aload_n 0, 1) := dq_42 (kX11_admitParties_1 5 rfl)
theorem dX11_admitParties_38 : decode cX11_admitParties 38 = .ok (.getfield 12, 3) := dq_180 (kX11_admitParties_1 6 rfl) (kX11_admitParties_1 7 rfl) (kX11_admitParties_1 8 rfl) rfl
theorem dX11_admitParties_41 : decode cX11_admitParties 41 = .ok (.getfield 145, 3) := dq_180 (kX11_admitParties_1 9 rfl) (kX11_admitParties_1 10 rfl) (kX11_admitParties_1 11 rfl) rfl
theorem dX11_admitParties_44 : decode cX11_admitParties 44 = .ok (.invokevirtual 279, 3) := dq_182 (kX11_admitParties_1 12 rfl) (kX11_admitParties_1 13 rfl) (kX11_admitParties_1 14 rfl) rfl
theorem dX11_admitParties_47 : decode cX11_admitParties 47 = .ok (.aload_n 0, 1) := dq_42 (kX11_admitParties_1 15 rfl)
theorem dX11_admitParties_48 : decode cX11_admitParties 48 = .ok (.getfield 19, 3) := dq_180 (kX11_admitParties_1 16 rfl) (kX11_admitParties_1 17 rfl) (kX11_admitParties_1 18 rfl) rfl
theorem dX11_admitParties_51 : decode cX11_admitParties 51 = .ok (.bipush 113, 2) := dq_16 (kX11_admitParties_1 19 rfl) (kX11_admitParties_1 20 rfl) (by decide)
theorem dX11_admitParties_53 : decode cX11_admitParties 53 = .ok (.iconst 0, 1) := dq_3 (kX11_admitParties_1 21 rfl)
theorem dX11_admitParties_54 : decode cX11_admitParties 54 = .ok (.iconst 0, 1) := dq_3 (kX11_admitParties_1 22 rfl)
theorem dX11_admitParties_55 : decode cX11_admitParties 55 = .ok (.invokevirtual 292, 3) := dq_182 (kX11_admitParties_1 23 rfl) (kX11_admitParties_1 24 rfl) (kX11_admitParties_1 25 rfl) rfl
theorem dX11_admitParties_58 : decode cX11_admitParties 58 = .ok (.istore_n 3, 1) := dq_62 (kX11_admitParties_1 26 rfl)
theorem dX11_admitParties_59 : decode cX11_admitParties 59 = .ok (.iload_n 3, 1) := dq_29 (kX11_admitParties_1 27 rfl)
theorem dX11_admitParties_60 : decode cX11_admitParties 60 = .ok (.iconst (-1), 1) := dq_2 (kX11_admitParties_1 28 rfl)
theorem dX11_admitParties_61 : decode cX11_admitParties 61 = .ok (.if_icmp .eq 22, 3) := dq_159 (kX11_admitParties_1 29 rfl) (kX11_admitParties_1 30 rfl) (kX11_admitParties_1 31 rfl) (by decide)
theorem dX11_admitParties_64 : decode cX11_admitParties 64 = .ok (.aload_n 2, 1) := dq_44 (kX11_admitParties_2 0 rfl)
theorem dX11_admitParties_65 : decode cX11_admitParties 65 = .ok (.getfield 464, 3) := dq_180 (kX11_admitParties_2 1 rfl) (kX11_admitParties_2 2 rfl) (kX11_admitParties_2 3 rfl) rfl
theorem dX11_admitParties_68 : decode cX11_admitParties 68 = .ok (.iload_n 3, 1) := dq_29 (kX11_admitParties_2 4 rfl)
theorem dX11_admitParties_69 : decode cX11_admitParties 69 = .ok (.if_icmp .lt 14, 3) := dq_161 (kX11_admitParties_2 5 rfl) (kX11_admitParties_2 6 rfl) (kX11_admitParties_2 7 rfl) (by decide)
theorem dX11_admitParties_72 : decode cX11_admitParties 72 = .ok (.aload_n 2, 1) := dq_44 (kX11_admitParties_2 8 rfl)
theorem dX11_admitParties_73 : decode cX11_admitParties 73 = .ok (.aload_n 0, 1) := dq_42 (kX11_admitParties_2 9 rfl)
theorem dX11_admitParties_74 : decode cX11_admitParties 74 = .ok (.getfield 12, 3) := dq_180 (kX11_admitParties_2 10 rfl) (kX11_admitParties_2 11 rfl) (kX11_admitParties_2 12 rfl) rfl
theorem dX11_admitParties_77 : decode cX11_admitParties 77 = .ok (.getfield 145, 3) := dq_180 (kX11_admitParties_2 13 rfl) (kX11_admitParties_2 14 rfl) (kX11_admitParties_2 15 rfl) rfl
theorem dX11_admitParties_80 : decode cX11_admitParties 80 = .ok (.putfield 341, 3) := dq_181 (kX11_admitParties_2 16 rfl) (kX11_admitParties_2 17 rfl) (kX11_admitParties_2 18 rfl) rfl
theorem dX11_admitParties_83 : decode cX11_admitParties 83 = .ok (.iinc 1 1, 3) := dq_132 (kX11_admitParties_2 19 rfl) (kX11_admitParties_2 20 rfl) (kX11_admitParties_2 21 rfl) rfl (by decide)
theorem dX11_admitParties_86 : decode cX11_admitParties 86 = .ok (.goto (-84), 3) := dq_167 (kX11_admitParties_2 22 rfl) (kX11_admitParties_2 23 rfl) (kX11_admitParties_2 24 rfl) (by decide)
theorem dX11_admitParties_89 : decode cX11_admitParties 89 = .ok (.return_, 1) := dq_177 (kX11_admitParties_2 25 rfl)

def bX11_passStation_0 : List UInt8 := [42, 27, 182, 0, 195, 77, 44, 199, 0, 4, 177, 42, 180, 0, 12, 42, 180, 0, 12, 180, 0, 145, 182, 1, 125, 62, 42, 44, 44, 180, 0, 183]
theorem kX11_passStation_0 (j : Nat) {b : UInt8} (hj : bX11_passStation_0[j]? = some b) : AtB cX11_passStation (0 + j) b := at_of32 (by decide +kernel) j hj
def bX11_passStation_1 : List UInt8 := [16, 9, 96, 16, 10, 108, 29, 153, 0, 7, 5, 167, 0, 4, 4, 104, 182, 1, 231, 44, 180, 0, 183, 16, 49, 96, 16, 50, 108, 54, 4, 44]
theorem kX11_passStation_1 (j : Nat) {b : UInt8} (hj : bX11_passStation_1[j]? = some b) : AtB cX11_passStation (32 + j) b := at_of32 (by decide +kernel) j hj
def bX11_passStation_2 : List UInt8 := [180, 1, 235, 29, 153, 0, 7, 6, 167, 0, 4, 3, 21, 4, 184, 1, 220, 42, 7, 21, 4, 182, 0, 192, 42, 180, 0, 12, 44, 180, 1, 88]
theorem kX11_passStation_2 (j : Nat) {b : UInt8} (hj : bX11_passStation_2[j]? = some b) : AtB cX11_passStation (64 + j) b := at_of32 (by decide +kernel) j hj
def bX11_passStation_3 : List UInt8 := [42, 180, 0, 12, 180, 0, 145, 44, 180, 0, 189, 100, 182, 1, 238, 153, 0, 9, 42, 27, 44, 182, 1, 241, 177]
theorem kX11_passStation_3 (j : Nat) {b : UInt8} (hj : bX11_passStation_3[j]? = some b) : AtB cX11_passStation (96 + j) b := at_of32 (by decide +kernel) j hj
theorem dX11_passStation_0 : decode cX11_passStation 0 = .ok (.aload_n 0, 1) := dq_42 (kX11_passStation_0 0 rfl)
theorem dX11_passStation_1 : decode cX11_passStation 1 = .ok (.iload_n 1, 1) := dq_27 (kX11_passStation_0 1 rfl)
theorem dX11_passStation_2 : decode cX11_passStation 2 = .ok (.invokevirtual 195, 3) := dq_182 (kX11_passStation_0 2 rfl) (kX11_passStation_0 3 rfl) (kX11_passStation_0 4 rfl) rfl
theorem dX11_passStation_5 : decode cX11_passStation 5 = .ok (.astore_n 2, 1) := dq_77 (kX11_passStation_0 5 rfl)
theorem dX11_passStation_6 : decode cX11_passStation 6 = .ok (.aload_n 2, 1) := dq_44 (kX11_passStation_0 6 rfl)
theorem dX11_passStation_7 : decode cX11_passStation 7 = .ok (.ifnonnull 4, 3) := dq_199 (kX11_passStation_0 7 rfl) (kX11_passStation_0 8 rfl) (kX11_passStation_0 9 rfl) (by decide)
theorem dX11_passStation_10 : decode cX11_passStation 10 = .ok (.return_, 1) := dq_177 (kX11_passStation_0 10 rfl)
theorem dX11_passStation_11 : decode cX11_passStation 11 = .ok (.aload_n 0, 1) := dq_42 (kX11_passStation_0 11 rfl)
theorem dX11_passStation_12 : decode cX11_passStation 12 = .ok (.getfield 12, 3) := dq_180 (kX11_passStation_0 12 rfl) (kX11_passStation_0 13 rfl) (kX11_passStation_0 14 rfl) rfl
theorem dX11_passStation_15 : decode cX11_passStation 15 = .ok (.aload_n 0, 1) := dq_42 (kX11_passStation_0 15 rfl)
theorem dX11_passStation_16 : decode cX11_passStation 16 = .ok (.getfield 12, 3) := dq_180 (kX11_passStation_0 16 rfl) (kX11_passStation_0 17 rfl) (kX11_passStation_0 18 rfl) rfl
theorem dX11_passStation_19 : decode cX11_passStation 19 = .ok (.getfield 145, 3) := dq_180 (kX11_passStation_0 19 rfl) (kX11_passStation_0 20 rfl) (kX11_passStation_0 21 rfl) rfl
theorem dX11_passStation_22 : decode cX11_passStation 22 = .ok (.invokevirtual 381, 3) := dq_182 (kX11_passStation_0 22 rfl) (kX11_passStation_0 23 rfl) (kX11_passStation_0 24 rfl) rfl
theorem dX11_passStation_25 : decode cX11_passStation 25 = .ok (.istore_n 3, 1) := dq_62 (kX11_passStation_0 25 rfl)
theorem dX11_passStation_26 : decode cX11_passStation 26 = .ok (.aload_n 0, 1) := dq_42 (kX11_passStation_0 26 rfl)
theorem dX11_passStation_27 : decode cX11_passStation 27 = .ok (.aload_n 2, 1) := dq_44 (kX11_passStation_0 27 rfl)
theorem dX11_passStation_28 : decode cX11_passStation 28 = .ok (.aload_n 2, 1) := dq_44 (kX11_passStation_0 28 rfl)
theorem dX11_passStation_29 : decode cX11_passStation 29 = .ok (.getfield 183, 3) := dq_180 (kX11_passStation_0 29 rfl) (kX11_passStation_0 30 rfl) (kX11_passStation_0 31 rfl) rfl
theorem dX11_passStation_32 : decode cX11_passStation 32 = .ok (.bipush 9, 2) := dq_16 (kX11_passStation_1 0 rfl) (kX11_passStation_1 1 rfl) (by decide)
theorem dX11_passStation_34 : decode cX11_passStation 34 = .ok (.iadd, 1) := dq_96 (kX11_passStation_1 2 rfl)
theorem dX11_passStation_35 : decode cX11_passStation 35 = .ok (.bipush 10, 2) := dq_16 (kX11_passStation_1 3 rfl) (kX11_passStation_1 4 rfl) (by decide)
theorem dX11_passStation_37 : decode cX11_passStation 37 = .ok (.idiv, 1) := dq_108 (kX11_passStation_1 5 rfl)
theorem dX11_passStation_38 : decode cX11_passStation 38 = .ok (.iload_n 3, 1) := dq_29 (kX11_passStation_1 6 rfl)
theorem dX11_passStation_39 : decode cX11_passStation 39 = .ok (.ifCond .eq 7, 3) := dq_153 (kX11_passStation_1 7 rfl) (kX11_passStation_1 8 rfl) (kX11_passStation_1 9 rfl) (by decide)
theorem dX11_passStation_42 : decode cX11_passStation 42 = .ok (.iconst 2, 1) := dq_5 (kX11_passStation_1 10 rfl)
theorem dX11_passStation_43 : decode cX11_passStation 43 = .ok (.goto 4, 3) := dq_167 (kX11_passStation_1 11 rfl) (kX11_passStation_1 12 rfl) (kX11_passStation_1 13 rfl) (by decide)
theorem dX11_passStation_46 : decode cX11_passStation 46 = .ok (.iconst 1, 1) := dq_4 (kX11_passStation_1 14 rfl)
theorem dX11_passStation_47 : decode cX11_passStation 47 = .ok (.imul, 1) := dq_104 (kX11_passStation_1 15 rfl)
theorem dX11_passStation_48 : decode cX11_passStation 48 = .ok (.invokevirtual 487, 3) := dq_182 (kX11_passStation_1 16 rfl) (kX11_passStation_1 17 rfl) (kX11_passStation_1 18 rfl) rfl
theorem dX11_passStation_51 : decode cX11_passStation 51 = .ok (.aload_n 2, 1) := dq_44 (kX11_passStation_1 19 rfl)
theorem dX11_passStation_52 : decode cX11_passStation 52 = .ok (.getfield 183, 3) := dq_180 (kX11_passStation_1 20 rfl) (kX11_passStation_1 21 rfl) (kX11_passStation_1 22 rfl) rfl
theorem dX11_passStation_55 : decode cX11_passStation 55 = .ok (.bipush 49, 2) := dq_16 (kX11_passStation_1 23 rfl) (kX11_passStation_1 24 rfl) (by decide)
theorem dX11_passStation_57 : decode cX11_passStation 57 = .ok (.iadd, 1) := dq_96 (kX11_passStation_1 25 rfl)
theorem dX11_passStation_58 : decode cX11_passStation 58 = .ok (.bipush 50, 2) := dq_16 (kX11_passStation_1 26 rfl) (kX11_passStation_1 27 rfl) (by decide)
theorem dX11_passStation_60 : decode cX11_passStation 60 = .ok (.idiv, 1) := dq_108 (kX11_passStation_1 28 rfl)
theorem dX11_passStation_61 : decode cX11_passStation 61 = .ok (.istore 4, 2) := dq_54 (kX11_passStation_1 29 rfl) (kX11_passStation_1 30 rfl) rfl
theorem dX11_passStation_63 : decode cX11_passStation 63 = .ok (.aload_n 2, 1) := dq_44 (kX11_passStation_1 31 rfl)
theorem dX11_passStation_64 : decode cX11_passStation 64 = .ok (.getfield 491, 3) := dq_180 (kX11_passStation_2 0 rfl) (kX11_passStation_2 1 rfl) (kX11_passStation_2 2 rfl) rfl
theorem dX11_passStation_67 : decode cX11_passStation 67 = .ok (.iload_n 3, 1) := dq_29 (kX11_passStation_2 3 rfl)
theorem dX11_passStation_68 : decode cX11_passStation 68 = .ok (.ifCond .eq 7, 3) := dq_153 (kX11_passStation_2 4 rfl) (kX11_passStation_2 5 rfl) (kX11_passStation_2 6 rfl) (by decide)
theorem dX11_passStation_71 : decode cX11_passStation 71 = .ok (.iconst 3, 1) := dq_6 (kX11_passStation_2 7 rfl)
theorem dX11_passStation_72 : decode cX11_passStation 72 = .ok (.goto 4, 3) := dq_167 (kX11_passStation_2 8 rfl) (kX11_passStation_2 9 rfl) (kX11_passStation_2 10 rfl) (by decide)
theorem dX11_passStation_75 : decode cX11_passStation 75 = .ok (.iconst 0, 1) := dq_3 (kX11_passStation_2 11 rfl)
theorem dX11_passStation_76 : decode cX11_passStation 76 = .ok (.iload 4, 2) := dq_21 (kX11_passStation_2 12 rfl) (kX11_passStation_2 13 rfl) rfl
theorem dX11_passStation_78 : decode cX11_passStation 78 = .ok (.invokestatic 476, 3) := dq_184 (kX11_passStation_2 14 rfl) (kX11_passStation_2 15 rfl) (kX11_passStation_2 16 rfl) rfl
theorem dX11_passStation_81 : decode cX11_passStation 81 = .ok (.aload_n 0, 1) := dq_42 (kX11_passStation_2 17 rfl)
theorem dX11_passStation_82 : decode cX11_passStation 82 = .ok (.iconst 4, 1) := dq_7 (kX11_passStation_2 18 rfl)
theorem dX11_passStation_83 : decode cX11_passStation 83 = .ok (.iload 4, 2) := dq_21 (kX11_passStation_2 19 rfl) (kX11_passStation_2 20 rfl) rfl
theorem dX11_passStation_85 : decode cX11_passStation 85 = .ok (.invokevirtual 192, 3) := dq_182 (kX11_passStation_2 21 rfl) (kX11_passStation_2 22 rfl) (kX11_passStation_2 23 rfl) rfl
theorem dX11_passStation_88 : decode cX11_passStation 88 = .ok (.aload_n 0, 1) := dq_42 (kX11_passStation_2 24 rfl)
theorem dX11_passStation_89 : decode cX11_passStation 89 = .ok (.getfield 12, 3) := dq_180 (kX11_passStation_2 25 rfl) (kX11_passStation_2 26 rfl) (kX11_passStation_2 27 rfl) rfl
theorem dX11_passStation_92 : decode cX11_passStation 92 = .ok (.aload_n 2, 1) := dq_44 (kX11_passStation_2 28 rfl)
theorem dX11_passStation_93 : decode cX11_passStation 93 = .ok (.getfield 344, 3) := dq_180 (kX11_passStation_2 29 rfl) (kX11_passStation_2 30 rfl) (kX11_passStation_2 31 rfl) rfl
theorem dX11_passStation_96 : decode cX11_passStation 96 = .ok (.aload_n 0, 1) := dq_42 (kX11_passStation_3 0 rfl)
theorem dX11_passStation_97 : decode cX11_passStation 97 = .ok (.getfield 12, 3) := dq_180 (kX11_passStation_3 1 rfl) (kX11_passStation_3 2 rfl) (kX11_passStation_3 3 rfl) rfl
theorem dX11_passStation_100 : decode cX11_passStation 100 = .ok (.getfield 145, 3) := dq_180 (kX11_passStation_3 4 rfl) (kX11_passStation_3 5 rfl) (kX11_passStation_3 6 rfl) rfl
theorem dX11_passStation_103 : decode cX11_passStation 103 = .ok (.aload_n 2, 1) := dq_44 (kX11_passStation_3 7 rfl)
theorem dX11_passStation_104 : decode cX11_passStation 104 = .ok (.getfield 189, 3) := dq_180 (kX11_passStation_3 8 rfl) (kX11_passStation_3 9 rfl) (kX11_passStation_3 10 rfl) rfl
theorem dX11_passStation_107 : decode cX11_passStation 107 = .ok (.isub, 1) := dq_100 (kX11_passStation_3 11 rfl)
theorem dX11_passStation_108 : decode cX11_passStation 108 = .ok (.invokevirtual 494, 3) := dq_182 (kX11_passStation_3 12 rfl) (kX11_passStation_3 13 rfl) (kX11_passStation_3 14 rfl) rfl
theorem dX11_passStation_111 : decode cX11_passStation 111 = .ok (.ifCond .eq 9, 3) := dq_153 (kX11_passStation_3 15 rfl) (kX11_passStation_3 16 rfl) (kX11_passStation_3 17 rfl) (by decide)
theorem dX11_passStation_114 : decode cX11_passStation 114 = .ok (.aload_n 0, 1) := dq_42 (kX11_passStation_3 18 rfl)
theorem dX11_passStation_115 : decode cX11_passStation 115 = .ok (.iload_n 1, 1) := dq_27 (kX11_passStation_3 19 rfl)
theorem dX11_passStation_116 : decode cX11_passStation 116 = .ok (.aload_n 2, 1) := dq_44 (kX11_passStation_3 20 rfl)
theorem dX11_passStation_117 : decode cX11_passStation 117 = .ok (.invokevirtual 497, 3) := dq_182 (kX11_passStation_3 21 rfl) (kX11_passStation_3 22 rfl) (kX11_passStation_3 23 rfl) rfl
theorem dX11_passStation_120 : decode cX11_passStation 120 = .ok (.return_, 1) := dq_177 (kX11_passStation_3 24 rfl)

def bX11_burn_0 : List UInt8 := [28, 43, 180, 0, 186, 184, 1, 223, 62, 43, 89, 180, 0, 186, 29, 100, 181, 0, 186, 42, 4, 29, 182, 0, 192, 43, 29, 28, 162, 0, 12, 43]
theorem kX11_burn_0 (j : Nat) {b : UInt8} (hj : bX11_burn_0[j]? = some b) : AtB cX11_burn (0 + j) b := at_of32 (by decide +kernel) j hj
def bX11_burn_1 : List UInt8 := [180, 1, 245, 4, 96, 167, 0, 4, 3, 181, 1, 245, 43, 180, 1, 245, 16, 10, 160, 0, 8, 42, 43, 182, 1, 248, 177]
theorem kX11_burn_1 (j : Nat) {b : UInt8} (hj : bX11_burn_1[j]? = some b) : AtB cX11_burn (32 + j) b := at_of32 (by decide +kernel) j hj
theorem dX11_burn_0 : decode cX11_burn 0 = .ok (.iload_n 2, 1) := dq_28 (kX11_burn_0 0 rfl)
theorem dX11_burn_1 : decode cX11_burn 1 = .ok (.aload_n 1, 1) := dq_43 (kX11_burn_0 1 rfl)
theorem dX11_burn_2 : decode cX11_burn 2 = .ok (.getfield 186, 3) := dq_180 (kX11_burn_0 2 rfl) (kX11_burn_0 3 rfl) (kX11_burn_0 4 rfl) rfl
theorem dX11_burn_5 : decode cX11_burn 5 = .ok (.invokestatic 479, 3) := dq_184 (kX11_burn_0 5 rfl) (kX11_burn_0 6 rfl) (kX11_burn_0 7 rfl) rfl
theorem dX11_burn_8 : decode cX11_burn 8 = .ok (.istore_n 3, 1) := dq_62 (kX11_burn_0 8 rfl)
theorem dX11_burn_9 : decode cX11_burn 9 = .ok (.aload_n 1, 1) := dq_43 (kX11_burn_0 9 rfl)
theorem dX11_burn_10 : decode cX11_burn 10 = .ok (.dup, 1) := dq_89 (kX11_burn_0 10 rfl)
theorem dX11_burn_11 : decode cX11_burn 11 = .ok (.getfield 186, 3) := dq_180 (kX11_burn_0 11 rfl) (kX11_burn_0 12 rfl) (kX11_burn_0 13 rfl) rfl
theorem dX11_burn_14 : decode cX11_burn 14 = .ok (.iload_n 3, 1) := dq_29 (kX11_burn_0 14 rfl)
theorem dX11_burn_15 : decode cX11_burn 15 = .ok (.isub, 1) := dq_100 (kX11_burn_0 15 rfl)
theorem dX11_burn_16 : decode cX11_burn 16 = .ok (.putfield 186, 3) := dq_181 (kX11_burn_0 16 rfl) (kX11_burn_0 17 rfl) (kX11_burn_0 18 rfl) rfl
theorem dX11_burn_19 : decode cX11_burn 19 = .ok (.aload_n 0, 1) := dq_42 (kX11_burn_0 19 rfl)
theorem dX11_burn_20 : decode cX11_burn 20 = .ok (.iconst 1, 1) := dq_4 (kX11_burn_0 20 rfl)
theorem dX11_burn_21 : decode cX11_burn 21 = .ok (.iload_n 3, 1) := dq_29 (kX11_burn_0 21 rfl)
theorem dX11_burn_22 : decode cX11_burn 22 = .ok (.invokevirtual 192, 3) := dq_182 (kX11_burn_0 22 rfl) (kX11_burn_0 23 rfl) (kX11_burn_0 24 rfl) rfl
theorem dX11_burn_25 : decode cX11_burn 25 = .ok (.aload_n 1, 1) := dq_43 (kX11_burn_0 25 rfl)
theorem dX11_burn_26 : decode cX11_burn 26 = .ok (.iload_n 3, 1) := dq_29 (kX11_burn_0 26 rfl)
theorem dX11_burn_27 : decode cX11_burn 27 = .ok (.iload_n 2, 1) := dq_28 (kX11_burn_0 27 rfl)
theorem dX11_burn_28 : decode cX11_burn 28 = .ok (.if_icmp .ge 12, 3) := dq_162 (kX11_burn_0 28 rfl) (kX11_burn_0 29 rfl) (kX11_burn_0 30 rfl) (by decide)
theorem dX11_burn_31 : decode cX11_burn 31 = .ok (.aload_n 1, 1) := dq_43 (kX11_burn_0 31 rfl)
theorem dX11_burn_32 : decode cX11_burn 32 = .ok (.getfield 501, 3) := dq_180 (kX11_burn_1 0 rfl) (kX11_burn_1 1 rfl) (kX11_burn_1 2 rfl) rfl
theorem dX11_burn_35 : decode cX11_burn 35 = .ok (.iconst 1, 1) := dq_4 (kX11_burn_1 3 rfl)
theorem dX11_burn_36 : decode cX11_burn 36 = .ok (.iadd, 1) := dq_96 (kX11_burn_1 4 rfl)
theorem dX11_burn_37 : decode cX11_burn 37 = .ok (.goto 4, 3) := dq_167 (kX11_burn_1 5 rfl) (kX11_burn_1 6 rfl) (kX11_burn_1 7 rfl) (by decide)
theorem dX11_burn_40 : decode cX11_burn 40 = .ok (.iconst 0, 1) := dq_3 (kX11_burn_1 8 rfl)
theorem dX11_burn_41 : decode cX11_burn 41 = .ok (.putfield 501, 3) := dq_181 (kX11_burn_1 9 rfl) (kX11_burn_1 10 rfl) (kX11_burn_1 11 rfl) rfl
theorem dX11_burn_44 : decode cX11_burn 44 = .ok (.aload_n 1, 1) := dq_43 (kX11_burn_1 12 rfl)
theorem dX11_burn_45 : decode cX11_burn 45 = .ok (.getfield 501, 3) := dq_180 (kX11_burn_1 13 rfl) (kX11_burn_1 14 rfl) (kX11_burn_1 15 rfl) rfl
theorem dX11_burn_48 : decode cX11_burn 48 = .ok (.bipush 10, 2) := dq_16 (kX11_burn_1 16 rfl) (kX11_burn_1 17 rfl) (by decide)
theorem dX11_burn_50 : decode cX11_burn 50 = .ok (.if_icmp .ne 8, 3) := dq_160 (kX11_burn_1 18 rfl) (kX11_burn_1 19 rfl) (kX11_burn_1 20 rfl) (by decide)
theorem dX11_burn_53 : decode cX11_burn 53 = .ok (.aload_n 0, 1) := dq_42 (kX11_burn_1 21 rfl)
theorem dX11_burn_54 : decode cX11_burn 54 = .ok (.aload_n 1, 1) := dq_43 (kX11_burn_1 22 rfl)
theorem dX11_burn_55 : decode cX11_burn 55 = .ok (.invokevirtual 504, 3) := dq_182 (kX11_burn_1 23 rfl) (kX11_burn_1 24 rfl) (kX11_burn_1 25 rfl) rfl
theorem dX11_burn_58 : decode cX11_burn 58 = .ok (.return_, 1) := dq_177 (kX11_burn_1 26 rfl)

def bX11_sendPeopleHome_0 : List UInt8 := [42, 16, 7, 43, 180, 0, 183, 182, 0, 192, 43, 3, 181, 0, 183, 177]
theorem kX11_sendPeopleHome_0 (j : Nat) {b : UInt8} (hj : bX11_sendPeopleHome_0[j]? = some b) : AtB cX11_sendPeopleHome (0 + j) b := at_of32 (by decide +kernel) j hj
theorem dX11_sendPeopleHome_0 : decode cX11_sendPeopleHome 0 = .ok (.aload_n 0, 1) := dq_42 (kX11_sendPeopleHome_0 0 rfl)
theorem dX11_sendPeopleHome_1 : decode cX11_sendPeopleHome 1 = .ok (.bipush 7, 2) := dq_16 (kX11_sendPeopleHome_0 1 rfl) (kX11_sendPeopleHome_0 2 rfl) (by decide)
theorem dX11_sendPeopleHome_3 : decode cX11_sendPeopleHome 3 = .ok (.aload_n 1, 1) := dq_43 (kX11_sendPeopleHome_0 3 rfl)
theorem dX11_sendPeopleHome_4 : decode cX11_sendPeopleHome 4 = .ok (.getfield 183, 3) := dq_180 (kX11_sendPeopleHome_0 4 rfl) (kX11_sendPeopleHome_0 5 rfl) (kX11_sendPeopleHome_0 6 rfl) rfl
theorem dX11_sendPeopleHome_7 : decode cX11_sendPeopleHome 7 = .ok (.invokevirtual 192, 3) := dq_182 (kX11_sendPeopleHome_0 7 rfl) (kX11_sendPeopleHome_0 8 rfl) (kX11_sendPeopleHome_0 9 rfl) rfl
theorem dX11_sendPeopleHome_10 : decode cX11_sendPeopleHome 10 = .ok (.aload_n 1, 1) := dq_43 (kX11_sendPeopleHome_0 10 rfl)
theorem dX11_sendPeopleHome_11 : decode cX11_sendPeopleHome 11 = .ok (.iconst 0, 1) := dq_3 (kX11_sendPeopleHome_0 11 rfl)
theorem dX11_sendPeopleHome_12 : decode cX11_sendPeopleHome 12 = .ok (.putfield 183, 3) := dq_181 (kX11_sendPeopleHome_0 12 rfl) (kX11_sendPeopleHome_0 13 rfl) (kX11_sendPeopleHome_0 14 rfl) rfl
theorem dX11_sendPeopleHome_15 : decode cX11_sendPeopleHome 15 = .ok (.return_, 1) := dq_177 (kX11_sendPeopleHome_0 15 rfl)

def bX11_carry_0 : List UInt8 := [42, 180, 0, 12, 180, 0, 129, 44, 180, 1, 88, 184, 0, 253, 62, 42, 180, 0, 12, 44, 180, 1, 88, 29, 182, 1, 252, 54, 4, 42, 180, 0]
theorem kX11_carry_0 (j : Nat) {b : UInt8} (hj : bX11_carry_0[j]? = some b) : AtB cX11_carry (0 + j) b := at_of32 (by decide +kernel) j hj
def bX11_carry_1 : List UInt8 := [12, 21, 4, 182, 0, 179, 154, 0, 7, 4, 167, 0, 4, 3, 54, 5, 3, 54, 6, 21, 6, 42, 180, 0, 46, 162, 0, 59, 42, 21, 6, 5]
theorem kX11_carry_1 (j : Nat) {b : UInt8} (hj : bX11_carry_1[j]? = some b) : AtB cX11_carry (32 + j) b := at_of32 (by decide +kernel) j hj
def bX11_carry_2 : List UInt8 := [182, 0, 169, 58, 7, 25, 7, 198, 0, 39, 25, 7, 180, 0, 176, 27, 160, 0, 30, 25, 7, 180, 1, 255, 154, 0, 22, 42, 25, 7, 21, 4]
theorem kX11_carry_2 (j : Nat) {b : UInt8} (hj : bX11_carry_2[j]? = some b) : AtB cX11_carry (64 + j) b := at_of32 (by decide +kernel) j hj
def bX11_carry_3 : List UInt8 := [2, 160, 0, 7, 2, 167, 0, 4, 29, 21, 5, 182, 2, 3, 132, 6, 1, 167, 255, 194, 21, 4, 2, 159, 0, 20, 44, 21, 4, 181, 1, 88]
theorem kX11_carry_3 (j : Nat) {b : UInt8} (hj : bX11_carry_3[j]? = some b) : AtB cX11_carry (96 + j) b := at_of32 (by decide +kernel) j hj
def bX11_carry_4 : List UInt8 := [44, 42, 180, 0, 12, 180, 0, 145, 181, 0, 189, 21, 5, 153, 0, 8, 42, 44, 182, 2, 7, 177]
theorem kX11_carry_4 (j : Nat) {b : UInt8} (hj : bX11_carry_4[j]? = some b) : AtB cX11_carry (128 + j) b := at_of32 (by decide +kernel) j hj
theorem dX11_carry_0 : decode cX11_carry 0 = .ok (.aload_n 0, 1) := dq_42 (kX11_carry_0 0 rfl)
theorem dX11_carry_1 : decode cX11_carry 1 = .ok (.getfield 12, 3) := dq_180 (kX11_carry_0 1 rfl) (kX11_carry_0 2 rfl) (kX11_carry_0 3 rfl) rfl
theorem dX11_carry_4 : decode cX11_carry 4 = .ok (.getfield 129, 3) := dq_180 (kX11_carry_0 4 rfl) (kX11_carry_0 5 rfl) (kX11_carry_0 6 rfl) rfl
theorem dX11_carry_7 : decode cX11_carry 7 = .ok (.aload_n 2, 1) := dq_44 (kX11_carry_0 7 rfl)
theorem dX11_carry_8 : decode cX11_carry 8 = .ok (.getfield 344, 3) := dq_180 (kX11_carry_0 8 rfl) (kX11_carry_0 9 rfl) (kX11_carry_0 10 rfl) rfl
theorem dX11_carry_11 : decode cX11_carry 11 = .ok (.invokestatic 253, 3) := dq_184 (kX11_carry_0 11 rfl) (kX11_carry_0 12 rfl) (kX11_carry_0 13 rfl) rfl
theorem dX11_carry_14 : decode cX11_carry 14 = .ok (.istore_n 3, 1) := dq_62 (kX11_carry_0 14 rfl)
theorem dX11_carry_15 : decode cX11_carry 15 = .ok (.aload_n 0, 1) := dq_42 (kX11_carry_0 15 rfl)
theorem dX11_carry_16 : decode cX11_carry 16 = .ok (.getfield 12, 3) := dq_180 (kX11_carry_0 16 rfl) (kX11_carry_0 17 rfl) (kX11_carry_0 18 rfl) rfl
theorem dX11_carry_19 : decode cX11_carry 19 = .ok (.aload_n 2, 1) := dq_44 (kX11_carry_0 19 rfl)
theorem dX11_carry_20 : decode cX11_carry 20 = .ok (.getfield 344, 3) := dq_180 (kX11_carry_0 20 rfl) (kX11_carry_0 21 rfl) (kX11_carry_0 22 rfl) rfl
theorem dX11_carry_23 : decode cX11_carry 23 = .ok (.iload_n 3, 1) := dq_29 (kX11_carry_0 23 rfl)
theorem dX11_carry_24 : decode cX11_carry 24 = .ok (.invokevirtual 508, 3) := dq_182 (kX11_carry_0 24 rfl) (kX11_carry_0 25 rfl) (kX11_carry_0 26 rfl) rfl
theorem dX11_carry_27 : decode cX11_carry 27 = .ok (.istore 4, 2) := dq_54 (kX11_carry_0 27 rfl) (kX11_carry_0 28 rfl) rfl
theorem dX11_carry_29 : decode cX11_carry 29 = .ok (.aload_n 0, 1) := dq_42 (kX11_carry_0 29 rfl)
theorem dX11_carry_30 : decode cX11_carry 30 = .ok (.getfield 12, 3) := dq_180 (kX11_carry_0 30 rfl) (kX11_carry_0 31 rfl) (kX11_carry_1 0 rfl) rfl
theorem dX11_carry_33 : decode cX11_carry 33 = .ok (.iload 4, 2) := dq_21 (kX11_carry_1 1 rfl) (kX11_carry_1 2 rfl) rfl
theorem dX11_carry_35 : decode cX11_carry 35 = .ok (.invokevirtual 179, 3) := dq_182 (kX11_carry_1 3 rfl) (kX11_carry_1 4 rfl) (kX11_carry_1 5 rfl) rfl
theorem dX11_carry_38 : decode cX11_carry 38 = .ok (.ifCond .ne 7, 3) := dq_154 (kX11_carry_1 6 rfl) (kX11_carry_1 7 rfl) (kX11_carry_1 8 rfl) (by decide)
theorem dX11_carry_41 : decode cX11_carry 41 = .ok (.iconst 1, 1) := dq_4 (kX11_carry_1 9 rfl)
theorem dX11_carry_42 : decode cX11_carry 42 = .ok (.goto 4, 3) := dq_167 (kX11_carry_1 10 rfl) (kX11_carry_1 11 rfl) (kX11_carry_1 12 rfl) (by decide)
theorem dX11_carry_45 : decode cX11_carry 45 = .ok (.iconst 0, 1) := dq_3 (kX11_carry_1 13 rfl)
theorem dX11_carry_46 : decode cX11_carry 46 = .ok (.istore 5, 2) := dq_54 (kX11_carry_1 14 rfl) (kX11_carry_1 15 rfl) rfl
theorem dX11_carry_48 : decode cX11_carry 48 = .ok (.iconst 0, 1) := dq_3 (kX11_carry_1 16 rfl)
theorem dX11_carry_49 : decode cX11_carry 49 = .ok (.istore 6, 2) := dq_54 (kX11_carry_1 17 rfl) (kX11_carry_1 18 rfl) rfl
theorem dX11_carry_51 : decode cX11_carry 51 = .ok (.iload 6, 2) := dq_21 (kX11_carry_1 19 rfl) (kX11_carry_1 20 rfl) rfl
theorem dX11_carry_53 : decode cX11_carry 53 = .ok (.aload_n 0, 1) := dq_42 (kX11_carry_1 21 rfl)
theorem dX11_carry_54 : decode cX11_carry 54 = .ok (.getfield 46, 3) := dq_180 (kX11_carry_1 22 rfl) (kX11_carry_1 23 rfl) (kX11_carry_1 24 rfl) rfl
theorem dX11_carry_57 : decode cX11_carry 57 = .ok (.if_icmp .ge 59, 3) := dq_162 (kX11_carry_1 25 rfl) (kX11_carry_1 26 rfl) (kX11_carry_1 27 rfl) (by decide)
theorem dX11_carry_60 : decode cX11_carry 60 = .ok (.aload_n 0, 1) := dq_42 (kX11_carry_1 28 rfl)
theorem dX11_carry_61 : decode cX11_carry 61 = .ok (.iload 6, 2) := dq_21 (kX11_carry_1 29 rfl) (kX11_carry_1 30 rfl) rfl
theorem dX11_carry_63 : decode cX11_carry 63 = .ok (.iconst 2, 1) := dq_5 (kX11_carry_1 31 rfl)
theorem dX11_carry_64 : decode cX11_carry 64 = .ok (.invokevirtual 169, 3) := dq_182 (kX11_carry_2 0 rfl) (kX11_carry_2 1 rfl) (kX11_carry_2 2 rfl) rfl
theorem dX11_carry_67 : decode cX11_carry 67 = .ok (.astore 7, 2) := dq_58 (kX11_carry_2 3 rfl) (kX11_carry_2 4 rfl) rfl
theorem dX11_carry_69 : decode cX11_carry 69 = .ok (.aload 7, 2) := dq_25 (kX11_carry_2 5 rfl) (kX11_carry_2 6 rfl) rfl
theorem dX11_carry_71 : decode cX11_carry 71 = .ok (.ifnull 39, 3) := dq_198 (kX11_carry_2 7 rfl) (kX11_carry_2 8 rfl) (kX11_carry_2 9 rfl) (by decide)
theorem dX11_carry_74 : decode cX11_carry 74 = .ok (.aload 7, 2) := dq_25 (kX11_carry_2 10 rfl) (kX11_carry_2 11 rfl) rfl
theorem dX11_carry_76 : decode cX11_carry 76 = .ok (.getfield 176, 3) := dq_180 (kX11_carry_2 12 rfl) (kX11_carry_2 13 rfl) (kX11_carry_2 14 rfl) rfl
theorem dX11_carry_79 : decode cX11_carry 79 = .ok (.iload_n 1, 1) := dq_27 (kX11_carry_2 15 rfl)
theorem dX11_carry_80 : decode cX11_carry 80 = .ok (.if_icmp .ne 30, 3) := dq_160 (kX11_carry_2 16 rfl) (kX11_carry_2 17 rfl) (kX11_carry_2 18 rfl) (by decide)
theorem dX11_carry_83 : decode cX11_carry 83 = .ok (.aload 7, 2) := dq_25 (kX11_carry_2 19 rfl) (kX11_carry_2 20 rfl) rfl
theorem dX11_carry_85 : decode cX11_carry 85 = .ok (.getfield 511, 3) := dq_180 (kX11_carry_2 21 rfl) (kX11_carry_2 22 rfl) (kX11_carry_2 23 rfl) rfl
theorem dX11_carry_88 : decode cX11_carry 88 = .ok (.ifCond .ne 22, 3) := dq_154 (kX11_carry_2 24 rfl) (kX11_carry_2 25 rfl) (kX11_carry_2 26 rfl) (by decide)
theorem dX11_carry_91 : decode cX11_carry 91 = .ok (.aload_n 0, 1) := dq_42 (kX11_carry_2 27 rfl)
theorem dX11_carry_92 : decode cX11_carry 92 = .ok (.aload 7, 2) := dq_25 (kX11_carry_2 28 rfl) (kX11_carry_2 29 rfl) rfl
theorem dX11_carry_94 : decode cX11_carry 94 = .ok (.iload 4, 2) := dq_21 (kX11_carry_2 30 rfl) (kX11_carry_2 31 rfl) rfl
theorem dX11_carry_96 : decode cX11_carry 96 = .ok (.iconst (-1), 1) := dq_2 (kX11_carry_3 0 rfl)
theorem dX11_carry_97 : decode cX11_carry 97 = .ok (.if_icmp .ne 7, 3) := dq_160 (kX11_carry_3 1 rfl) (kX11_carry_3 2 rfl) (kX11_carry_3 3 rfl) (by decide)
theorem dX11_carry_100 : decode cX11_carry 100 = .ok (.iconst (-1), 1) := dq_2 (kX11_carry_3 4 rfl)
theorem dX11_carry_101 : decode cX11_carry 101 = .ok (.goto 4, 3) := dq_167 (kX11_carry_3 5 rfl) (kX11_carry_3 6 rfl) (kX11_carry_3 7 rfl) (by decide)
theorem dX11_carry_104 : decode cX11_carry 104 = .ok (.iload_n 3, 1) := dq_29 (kX11_carry_3 8 rfl)
theorem dX11_carry_105 : decode cX11_carry 105 = .ok (.iload 5, 2) := dq_21 (kX11_carry_3 9 rfl) (kX11_carry_3 10 rfl) rfl
theorem dX11_carry_107 : decode cX11_carry 107 = .ok (.invokevirtual 515, 3) := dq_182 (kX11_carry_3 11 rfl) (kX11_carry_3 12 rfl) (kX11_carry_3 13 rfl) rfl
theorem dX11_carry_110 : decode cX11_carry 110 = .ok (.iinc 6 1, 3) := dq_132 (kX11_carry_3 14 rfl) (kX11_carry_3 15 rfl) (kX11_carry_3 16 rfl) rfl (by decide)
theorem dX11_carry_113 : decode cX11_carry 113 = .ok (.goto (-62), 3) := dq_167 (kX11_carry_3 17 rfl) (kX11_carry_3 18 rfl) (kX11_carry_3 19 rfl) (by decide)
theorem dX11_carry_116 : decode cX11_carry 116 = .ok (.iload 4, 2) := dq_21 (kX11_carry_3 20 rfl) (kX11_carry_3 21 rfl) rfl
theorem dX11_carry_118 : decode cX11_carry 118 = .ok (.iconst (-1), 1) := dq_2 (kX11_carry_3 22 rfl)
theorem dX11_carry_119 : decode cX11_carry 119 = .ok (.if_icmp .eq 20, 3) := dq_159 (kX11_carry_3 23 rfl) (kX11_carry_3 24 rfl) (kX11_carry_3 25 rfl) (by decide)
theorem dX11_carry_122 : decode cX11_carry 122 = .ok (.aload_n 2, 1) := dq_44 (kX11_carry_3 26 rfl)
theorem dX11_carry_123 : decode cX11_carry 123 = .ok (.iload 4, 2) := dq_21 (kX11_carry_3 27 rfl) (kX11_carry_3 28 rfl) rfl
theorem dX11_carry_125 : decode cX11_carry 125 = .ok (.putfield 344, 3) := dq_181 (kX11_carry_3 29 rfl) (kX11_carry_3 30 rfl) (kX11_carry_3 31 rfl) rfl
theorem dX11_carry_128 : decode cX11_carry 128 = .ok (.aload_n 2, 1) := dq_44 (kX11_carry_4 0 rfl)
theorem dX11_carry_129 : decode cX11_carry 129 = .ok (.aload_n 0, 1) := dq_42 (kX11_carry_4 1 rfl)
theorem dX11_carry_130 : decode cX11_carry 130 = .ok (.getfield 12, 3) := dq_180 (kX11_carry_4 2 rfl) (kX11_carry_4 3 rfl) (kX11_carry_4 4 rfl) rfl
theorem dX11_carry_133 : decode cX11_carry 133 = .ok (.getfield 145, 3) := dq_180 (kX11_carry_4 5 rfl) (kX11_carry_4 6 rfl) (kX11_carry_4 7 rfl) rfl
theorem dX11_carry_136 : decode cX11_carry 136 = .ok (.putfield 189, 3) := dq_181 (kX11_carry_4 8 rfl) (kX11_carry_4 9 rfl) (kX11_carry_4 10 rfl) rfl
theorem dX11_carry_139 : decode cX11_carry 139 = .ok (.iload 5, 2) := dq_21 (kX11_carry_4 11 rfl) (kX11_carry_4 12 rfl) rfl
theorem dX11_carry_141 : decode cX11_carry 141 = .ok (.ifCond .eq 8, 3) := dq_153 (kX11_carry_4 13 rfl) (kX11_carry_4 14 rfl) (kX11_carry_4 15 rfl) (by decide)
theorem dX11_carry_144 : decode cX11_carry 144 = .ok (.aload_n 0, 1) := dq_42 (kX11_carry_4 16 rfl)
theorem dX11_carry_145 : decode cX11_carry 145 = .ok (.aload_n 2, 1) := dq_44 (kX11_carry_4 17 rfl)
theorem dX11_carry_146 : decode cX11_carry 146 = .ok (.invokevirtual 519, 3) := dq_182 (kX11_carry_4 18 rfl) (kX11_carry_4 19 rfl) (kX11_carry_4 20 rfl) rfl
theorem dX11_carry_149 : decode cX11_carry 149 = .ok (.return_, 1) := dq_177 (kX11_carry_4 21 rfl)

def bX11_carryField_0 : List UInt8 := [42, 180, 0, 12, 43, 180, 1, 88, 28, 182, 1, 252, 54, 4, 29, 154, 0, 15, 42, 180, 0, 12, 21, 4, 182, 0, 179, 154, 0, 8, 43, 4]
theorem kX11_carryField_0 (j : Nat) {b : UInt8} (hj : bX11_carryField_0[j]? = some b) : AtB cX11_carryField (0 + j) b := at_of32 (by decide +kernel) j hj
def bX11_carryField_1 : List UInt8 := [181, 1, 255, 21, 4, 2, 159, 0, 9, 43, 21, 4, 181, 1, 88, 177]
theorem kX11_carryField_1 (j : Nat) {b : UInt8} (hj : bX11_carryField_1[j]? = some b) : AtB cX11_carryField (32 + j) b := at_of32 (by decide +kernel) j hj
theorem dX11_carryField_0 : decode cX11_carryField 0 = .ok (.aload_n 0, 1) := dq_42 (kX11_carryField_0 0 rfl)
theorem dX11_carryField_1 : decode cX11_carryField 1 = .ok (.getfield 12, 3) := dq_180 (kX11_carryField_0 1 rfl) (kX11_carryField_0 2 rfl) (kX11_carryField_0 3 rfl) rfl
theorem dX11_carryField_4 : decode cX11_carryField 4 = .ok (.aload_n 1, 1) := dq_43 (kX11_carryField_0 4 rfl)
theorem dX11_carryField_5 : decode cX11_carryField 5 = .ok (.getfield 344, 3) := dq_180 (kX11_carryField_0 5 rfl) (kX11_carryField_0 6 rfl) (kX11_carryField_0 7 rfl) rfl
theorem dX11_carryField_8 : decode cX11_carryField 8 = .ok (.iload_n 2, 1) := dq_28 (kX11_carryField_0 8 rfl)
theorem dX11_carryField_9 : decode cX11_carryField 9 = .ok (.invokevirtual 508, 3) := dq_182 (kX11_carryField_0 9 rfl) (kX11_carryField_0 10 rfl) (kX11_carryField_0 11 rfl) rfl
theorem dX11_carryField_12 : decode cX11_carryField 12 = .ok (.istore 4, 2) := dq_54 (kX11_carryField_0 12 rfl) (kX11_carryField_0 13 rfl) rfl
theorem dX11_carryField_14 : decode cX11_carryField 14 = .ok (.iload_n 3, 1) := dq_29 (kX11_carryField_0 14 rfl)
theorem dX11_carryField_15 : decode cX11_carryField 15 = .ok (.ifCond .ne 15, 3) := dq_154 (kX11_carryField_0 15 rfl) (kX11_carryField_0 16 rfl) (kX11_carryField_0 17 rfl) (by decide)
theorem dX11_carryField_18 : decode cX11_carryField 18 = .ok (.aload_n 0, 1) := dq_42 (kX11_carryField_0 18 rfl)
theorem dX11_carryField_19 : decode cX11_carryField 19 = .ok (.getfield 12, 3) := dq_180 (kX11_carryField_0 19 rfl) (kX11_carryField_0 20 rfl) (kX11_carryField_0 21 rfl) rfl
theorem dX11_carryField_22 : decode cX11_carryField 22 = .ok (.iload 4, 2) := dq_21 (kX11_carryField_0 22 rfl) (kX11_carryField_0 23 rfl) rfl
theorem dX11_carryField_24 : decode cX11_carryField 24 = .ok (.invokevirtual 179, 3) := dq_182 (kX11_carryField_0 24 rfl) (kX11_carryField_0 25 rfl) (kX11_carryField_0 26 rfl) rfl
theorem dX11_carryField_27 : decode cX11_carryField 27 = .ok (.ifCond .ne 8, 3) := dq_154 (kX11_carryField_0 27 rfl) (kX11_carryField_0 28 rfl) (kX11_carryField_0 29 rfl) (by decide)
theorem dX11_carryField_30 : decode cX11_carryField 30 = .ok (.aload_n 1, 1) := dq_43 (kX11_carryField_0 30 rfl)
theorem dX11_carryField_31 : decode cX11_carryField 31 = .ok (.iconst 1, 1) := dq_4 (kX11_carryField_0 31 rfl)
theorem dX11_carryField_32 : decode cX11_carryField 32 = .ok (.putfield 511, 3) := dq_181 (kX11_carryField_1 0 rfl) (kX11_carryField_1 1 rfl) (kX11_carryField_1 2 rfl) rfl
theorem dX11_carryField_35 : decode cX11_carryField 35 = .ok (.iload 4, 2) := dq_21 (kX11_carryField_1 3 rfl) (kX11_carryField_1 4 rfl) rfl
theorem dX11_carryField_37 : decode cX11_carryField 37 = .ok (.iconst (-1), 1) := dq_2 (kX11_carryField_1 5 rfl)
theorem dX11_carryField_38 : decode cX11_carryField 38 = .ok (.if_icmp .eq 9, 3) := dq_159 (kX11_carryField_1 6 rfl) (kX11_carryField_1 7 rfl) (kX11_carryField_1 8 rfl) (by decide)
theorem dX11_carryField_41 : decode cX11_carryField 41 = .ok (.aload_n 1, 1) := dq_43 (kX11_carryField_1 9 rfl)
theorem dX11_carryField_42 : decode cX11_carryField 42 = .ok (.iload 4, 2) := dq_21 (kX11_carryField_1 10 rfl) (kX11_carryField_1 11 rfl) rfl
theorem dX11_carryField_44 : decode cX11_carryField 44 = .ok (.putfield 344, 3) := dq_181 (kX11_carryField_1 12 rfl) (kX11_carryField_1 13 rfl) (kX11_carryField_1 14 rfl) rfl
theorem dX11_carryField_47 : decode cX11_carryField 47 = .ok (.return_, 1) := dq_177 (kX11_carryField_1 15 rfl)

def bX11_loseStation_0 : List UInt8 := [43, 4, 181, 1, 255, 42, 5, 43, 180, 0, 186, 182, 0, 192, 42, 5, 43, 180, 1, 165, 182, 0, 192, 43, 3, 181, 0, 186, 43, 3, 181, 1]
theorem kX11_loseStation_0 (j : Nat) {b : UInt8} (hj : bX11_loseStation_0[j]? = some b) : AtB cX11_loseStation (0 + j) b := at_of32 (by decide +kernel) j hj
def bX11_loseStation_1 : List UInt8 := [165, 3, 61, 28, 7, 162, 0, 31, 42, 8, 43, 180, 1, 235, 28, 184, 0, 253, 182, 0, 192, 43, 180, 1, 235, 28, 3, 184, 0, 108, 132, 2]
theorem kX11_loseStation_1 (j : Nat) {b : UInt8} (hj : bX11_loseStation_1[j]? = some b) : AtB cX11_loseStation (32 + j) b := at_of32 (by decide +kernel) j hj
def bX11_loseStation_2 : List UInt8 := [1, 167, 255, 226, 42, 43, 182, 1, 248, 177]
theorem kX11_loseStation_2 (j : Nat) {b : UInt8} (hj : bX11_loseStation_2[j]? = some b) : AtB cX11_loseStation (64 + j) b := at_of32 (by decide +kernel) j hj
theorem dX11_loseStation_0 : decode cX11_loseStation 0 = .ok (.aload_n 1, 1) := dq_43 (kX11_loseStation_0 0 rfl)
theorem dX11_loseStation_1 : decode cX11_loseStation 1 = .ok (.iconst 1, 1) := dq_4 (kX11_loseStation_0 1 rfl)
theorem dX11_loseStation_2 : decode cX11_loseStation 2 = .ok (.putfield 511, 3) := dq_181 (kX11_loseStation_0 2 rfl) (kX11_loseStation_0 3 rfl) (kX11_loseStation_0 4 rfl) rfl
theorem dX11_loseStation_5 : decode cX11_loseStation 5 = .ok (.aload_n 0, 1) := dq_42 (kX11_loseStation_0 5 rfl)
theorem dX11_loseStation_6 : decode cX11_loseStation 6 = .ok (.iconst 2, 1) := dq_5 (kX11_loseStation_0 6 rfl)
theorem dX11_loseStation_7 : decode cX11_loseStation 7 = .ok (.aload_n 1, 1) := dq_43 (kX11_loseStation_0 7 rfl)
theorem dX11_loseStation_8 : decode cX11_loseStation 8 = .ok (.getfield 186, 3) := dq_180 (kX11_loseStation_0 8 rfl) (kX11_loseStation_0 9 rfl) (kX11_loseStation_0 10 rfl) rfl
theorem dX11_loseStation_11 : decode cX11_loseStation 11 = .ok (.invokevirtual 192, 3) := dq_182 (kX11_loseStation_0 11 rfl) (kX11_loseStation_0 12 rfl) (kX11_loseStation_0 13 rfl) rfl
theorem dX11_loseStation_14 : decode cX11_loseStation 14 = .ok (.aload_n 0, 1) := dq_42 (kX11_loseStation_0 14 rfl)
theorem dX11_loseStation_15 : decode cX11_loseStation 15 = .ok (.iconst 2, 1) := dq_5 (kX11_loseStation_0 15 rfl)
theorem dX11_loseStation_16 : decode cX11_loseStation 16 = .ok (.aload_n 1, 1) := dq_43 (kX11_loseStation_0 16 rfl)
theorem dX11_loseStation_17 : decode cX11_loseStation 17 = .ok (.getfield 421, 3) := dq_180 (kX11_loseStation_0 17 rfl) (kX11_loseStation_0 18 rfl) (kX11_loseStation_0 19 rfl) rfl
theorem dX11_loseStation_20 : decode cX11_loseStation 20 = .ok (.invokevirtual 192, 3) := dq_182 (kX11_loseStation_0 20 rfl) (kX11_loseStation_0 21 rfl) (kX11_loseStation_0 22 rfl) rfl
theorem dX11_loseStation_23 : decode cX11_loseStation 23 = .ok (.aload_n 1, 1) := dq_43 (kX11_loseStation_0 23 rfl)
theorem dX11_loseStation_24 : decode cX11_loseStation 24 = .ok (.iconst 0, 1) := dq_3 (kX11_loseStation_0 24 rfl)
theorem dX11_loseStation_25 : decode cX11_loseStation 25 = .ok (.putfield 186, 3) := dq_181 (kX11_loseStation_0 25 rfl) (kX11_loseStation_0 26 rfl) (kX11_loseStation_0 27 rfl) rfl
theorem dX11_loseStation_28 : decode cX11_loseStation 28 = .ok (.aload_n 1, 1) := dq_43 (kX11_loseStation_0 28 rfl)
theorem dX11_loseStation_29 : decode cX11_loseStation 29 = .ok (.iconst 0, 1) := dq_3 (kX11_loseStation_0 29 rfl)
theorem dX11_loseStation_30 : decode cX11_loseStation 30 = .ok (.putfield 421, 3) := dq_181 (kX11_loseStation_0 30 rfl) (kX11_loseStation_0 31 rfl) (kX11_loseStation_1 0 rfl) rfl
theorem dX11_loseStation_33 : decode cX11_loseStation 33 = .ok (.iconst 0, 1) := dq_3 (kX11_loseStation_1 1 rfl)
theorem dX11_loseStation_34 : decode cX11_loseStation 34 = .ok (.istore_n 2, 1) := dq_61 (kX11_loseStation_1 2 rfl)
theorem dX11_loseStation_35 : decode cX11_loseStation 35 = .ok (.iload_n 2, 1) := dq_28 (kX11_loseStation_1 3 rfl)
theorem dX11_loseStation_36 : decode cX11_loseStation 36 = .ok (.iconst 4, 1) := dq_7 (kX11_loseStation_1 4 rfl)
theorem dX11_loseStation_37 : decode cX11_loseStation 37 = .ok (.if_icmp .ge 31, 3) := dq_162 (kX11_loseStation_1 5 rfl) (kX11_loseStation_1 6 rfl) (kX11_loseStation_1 7 rfl) (by decide)
theorem dX11_loseStation_40 : decode cX11_loseStation 40 = .ok (.aload_n 0, 1) := dq_42 (kX11_loseStation_1 8 rfl)
theorem dX11_loseStation_41 : decode cX11_loseStation 41 = .ok (.iconst 5, 1) := dq_8 (kX11_loseStation_1 9 rfl)
theorem dX11_loseStation_42 : decode cX11_loseStation 42 = .ok (.aload_n 1, 1) := dq_43 (kX11_loseStation_1 10 rfl)
theorem dX11_loseStation_43 : decode cX11_loseStation 43 = .ok (.getfield 491, 3) := dq_180 (kX11_loseStation_1 11 rfl) (kX11_loseStation_1 12 rfl) (kX11_loseStation_1 13 rfl) rfl
theorem dX11_loseStation_46 : decode cX11_loseStation 46 = .ok (.iload_n 2, 1) := dq_28 (kX11_loseStation_1 14 rfl)
theorem dX11_loseStation_47 : decode cX11_loseStation 47 = .ok (.invokestatic 253, 3) := dq_184 (kX11_loseStation_1 15 rfl) (kX11_loseStation_1 16 rfl) (kX11_loseStation_1 17 rfl) rfl
theorem dX11_loseStation_50 : decode cX11_loseStation 50 = .ok (.invokevirtual 192, 3) := dq_182 (kX11_loseStation_1 18 rfl) (kX11_loseStation_1 19 rfl) (kX11_loseStation_1 20 rfl) rfl
theorem dX11_loseStation_53 : decode cX11_loseStation 53 = .ok (.aload_n 1, 1) := dq_43 (kX11_loseStation_1 21 rfl)
theorem dX11_loseStation_54 : decode cX11_loseStation 54 = .ok (.getfield 491, 3) := dq_180 (kX11_loseStation_1 22 rfl) (kX11_loseStation_1 23 rfl) (kX11_loseStation_1 24 rfl) rfl
theorem dX11_loseStation_57 : decode cX11_loseStation 57 = .ok (.iload_n 2, 1) := dq_28 (kX11_loseStation_1 25 rfl)
theorem dX11_loseStation_58 : decode cX11_loseStation 58 = .ok (.iconst 0, 1) := dq_3 (kX11_loseStation_1 26 rfl)
theorem dX11_loseStation_59 : decode cX11_loseStation 59 = .ok (.invokestatic 108, 3) := dq_184 (kX11_loseStation_1 27 rfl) (kX11_loseStation_1 28 rfl) (kX11_loseStation_1 29 rfl) rfl
theorem dX11_loseStation_62 : decode cX11_loseStation 62 = .ok (.iinc 2 1, 3) := dq_132 (kX11_loseStation_1 30 rfl) (kX11_loseStation_1 31 rfl) (kX11_loseStation_2 0 rfl) rfl (by decide)
theorem dX11_loseStation_65 : decode cX11_loseStation 65 = .ok (.goto (-30), 3) := dq_167 (kX11_loseStation_2 1 rfl) (kX11_loseStation_2 2 rfl) (kX11_loseStation_2 3 rfl) (by decide)
theorem dX11_loseStation_68 : decode cX11_loseStation 68 = .ok (.aload_n 0, 1) := dq_42 (kX11_loseStation_2 4 rfl)
theorem dX11_loseStation_69 : decode cX11_loseStation 69 = .ok (.aload_n 1, 1) := dq_43 (kX11_loseStation_2 5 rfl)
theorem dX11_loseStation_70 : decode cX11_loseStation 70 = .ok (.invokevirtual 504, 3) := dq_182 (kX11_loseStation_2 6 rfl) (kX11_loseStation_2 7 rfl) (kX11_loseStation_2 8 rfl) rfl
theorem dX11_loseStation_73 : decode cX11_loseStation 73 = .ok (.return_, 1) := dq_177 (kX11_loseStation_2 9 rfl)

def bX11_passShip_0 : List UInt8 := [43, 199, 0, 4, 177, 43, 180, 1, 154, 5, 159, 0, 25, 43, 180, 1, 154, 4, 160, 0, 25, 43, 180, 2, 10, 42, 180, 0, 12, 180, 0, 145]
theorem kX11_passShip_0 (j : Nat) {b : UInt8} (hj : bX11_passShip_0[j]? = some b) : AtB cX11_passShip (0 + j) b := at_of32 (by decide +kernel) j hj
def bX11_passShip_1 : List UInt8 := [160, 0, 11, 42, 43, 182, 2, 13, 167, 0, 30, 43, 180, 1, 154, 6, 160, 0, 22, 43, 180, 2, 10, 42, 180, 0, 12, 180, 0, 145, 160, 0]
theorem kX11_passShip_1 (j : Nat) {b : UInt8} (hj : bX11_passShip_1[j]? = some b) : AtB cX11_passShip (32 + j) b := at_of32 (by decide +kernel) j hj
def bX11_passShip_2 : List UInt8 := [8, 42, 43, 182, 2, 16, 177]
theorem kX11_passShip_2 (j : Nat) {b : UInt8} (hj : bX11_passShip_2[j]? = some b) : AtB cX11_passShip (64 + j) b := at_of32 (by decide +kernel) j hj
theorem dX11_passShip_0 : decode cX11_passShip 0 = .ok (.aload_n 1, 1) := dq_43 (kX11_passShip_0 0 rfl)
theorem dX11_passShip_1 : decode cX11_passShip 1 = .ok (.ifnonnull 4, 3) := dq_199 (kX11_passShip_0 1 rfl) (kX11_passShip_0 2 rfl) (kX11_passShip_0 3 rfl) (by decide)
theorem dX11_passShip_4 : decode cX11_passShip 4 = .ok (.return_, 1) := dq_177 (kX11_passShip_0 4 rfl)
theorem dX11_passShip_5 : decode cX11_passShip 5 = .ok (.aload_n 1, 1) := dq_43 (kX11_passShip_0 5 rfl)
theorem dX11_passShip_6 : decode cX11_passShip 6 = .ok (.getfield 410, 3) := dq_180 (kX11_passShip_0 6 rfl) (kX11_passShip_0 7 rfl) (kX11_passShip_0 8 rfl) rfl
theorem dX11_passShip_9 : decode cX11_passShip 9 = .ok (.iconst 2, 1) := dq_5 (kX11_passShip_0 9 rfl)
theorem dX11_passShip_10 : decode cX11_passShip 10 = .ok (.if_icmp .eq 25, 3) := dq_159 (kX11_passShip_0 10 rfl) (kX11_passShip_0 11 rfl) (kX11_passShip_0 12 rfl) (by decide)
theorem dX11_passShip_13 : decode cX11_passShip 13 = .ok (.aload_n 1, 1) := dq_43 (kX11_passShip_0 13 rfl)
theorem dX11_passShip_14 : decode cX11_passShip 14 = .ok (.getfield 410, 3) := dq_180 (kX11_passShip_0 14 rfl) (kX11_passShip_0 15 rfl) (kX11_passShip_0 16 rfl) rfl
theorem dX11_passShip_17 : decode cX11_passShip 17 = .ok (.iconst 1, 1) := dq_4 (kX11_passShip_0 17 rfl)
theorem dX11_passShip_18 : decode cX11_passShip 18 = .ok (.if_icmp .ne 25, 3) := dq_160 (kX11_passShip_0 18 rfl) (kX11_passShip_0 19 rfl) (kX11_passShip_0 20 rfl) (by decide)
theorem dX11_passShip_21 : decode cX11_passShip 21 = .ok (.aload_n 1, 1) := dq_43 (kX11_passShip_0 21 rfl)
theorem dX11_passShip_22 : decode cX11_passShip 22 = .ok (.getfield 522, 3) := dq_180 (kX11_passShip_0 22 rfl) (kX11_passShip_0 23 rfl) (kX11_passShip_0 24 rfl) rfl
theorem dX11_passShip_25 : decode cX11_passShip 25 = .ok (.aload_n 0, 1) := dq_42 (kX11_passShip_0 25 rfl)
theorem dX11_passShip_26 : decode cX11_passShip 26 = .ok (.getfield 12, 3) := dq_180 (kX11_passShip_0 26 rfl) (kX11_passShip_0 27 rfl) (kX11_passShip_0 28 rfl) rfl
theorem dX11_passShip_29 : decode cX11_passShip 29 = .ok (.getfield 145, 3) := dq_180 (kX11_passShip_0 29 rfl) (kX11_passShip_0 30 rfl) (kX11_passShip_0 31 rfl) rfl
theorem dX11_passShip_32 : decode cX11_passShip 32 = .ok (.if_icmp .ne 11, 3) := dq_160 (kX11_passShip_1 0 rfl) (kX11_passShip_1 1 rfl) (kX11_passShip_1 2 rfl) (by decide)
theorem dX11_passShip_35 : decode cX11_passShip 35 = .ok (.aload_n 0, 1) := dq_42 (kX11_passShip_1 3 rfl)
theorem dX11_passShip_36 : decode cX11_passShip 36 = .ok (.aload_n 1, 1) := dq_43 (kX11_passShip_1 4 rfl)
theorem dX11_passShip_37 : decode cX11_passShip 37 = .ok (.invokevirtual 525, 3) := dq_182 (kX11_passShip_1 5 rfl) (kX11_passShip_1 6 rfl) (kX11_passShip_1 7 rfl) rfl
theorem dX11_passShip_40 : decode cX11_passShip 40 = .ok (.goto 30, 3) := dq_167 (kX11_passShip_1 8 rfl) (kX11_passShip_1 9 rfl) (kX11_passShip_1 10 rfl) (by decide)
theorem dX11_passShip_43 : decode cX11_passShip 43 = .ok (.aload_n 1, 1) := dq_43 (kX11_passShip_1 11 rfl)
theorem dX11_passShip_44 : decode cX11_passShip 44 = .ok (.getfield 410, 3) := dq_180 (kX11_passShip_1 12 rfl) (kX11_passShip_1 13 rfl) (kX11_passShip_1 14 rfl) rfl
theorem dX11_passShip_47 : decode cX11_passShip 47 = .ok (.iconst 3, 1) := dq_6 (kX11_passShip_1 15 rfl)
theorem dX11_passShip_48 : decode cX11_passShip 48 = .ok (.if_icmp .ne 22, 3) := dq_160 (kX11_passShip_1 16 rfl) (kX11_passShip_1 17 rfl) (kX11_passShip_1 18 rfl) (by decide)
theorem dX11_passShip_51 : decode cX11_passShip 51 = .ok (.aload_n 1, 1) := dq_43 (kX11_passShip_1 19 rfl)
theorem dX11_passShip_52 : decode cX11_passShip 52 = .ok (.getfield 522, 3) := dq_180 (kX11_passShip_1 20 rfl) (kX11_passShip_1 21 rfl) (kX11_passShip_1 22 rfl) rfl
theorem dX11_passShip_55 : decode cX11_passShip 55 = .ok (.aload_n 0, 1) := dq_42 (kX11_passShip_1 23 rfl)
theorem dX11_passShip_56 : decode cX11_passShip 56 = .ok (.getfield 12, 3) := dq_180 (kX11_passShip_1 24 rfl) (kX11_passShip_1 25 rfl) (kX11_passShip_1 26 rfl) rfl
theorem dX11_passShip_59 : decode cX11_passShip 59 = .ok (.getfield 145, 3) := dq_180 (kX11_passShip_1 27 rfl) (kX11_passShip_1 28 rfl) (kX11_passShip_1 29 rfl) rfl
theorem dX11_passShip_62 : decode cX11_passShip 62 = .ok (.if_icmp .ne 8, 3) := dq_160 (kX11_passShip_1 30 rfl) (kX11_passShip_1 31 rfl) (kX11_passShip_2 0 rfl) (by decide)
theorem dX11_passShip_65 : decode cX11_passShip 65 = .ok (.aload_n 0, 1) := dq_42 (kX11_passShip_2 1 rfl)
theorem dX11_passShip_66 : decode cX11_passShip 66 = .ok (.aload_n 1, 1) := dq_43 (kX11_passShip_2 2 rfl)
theorem dX11_passShip_67 : decode cX11_passShip 67 = .ok (.invokevirtual 528, 3) := dq_182 (kX11_passShip_2 3 rfl) (kX11_passShip_2 4 rfl) (kX11_passShip_2 5 rfl) rfl
theorem dX11_passShip_70 : decode cX11_passShip 70 = .ok (.return_, 1) := dq_177 (kX11_passShip_2 6 rfl)

def bX11_meetIce_0 : List UInt8 := [42, 180, 0, 12, 43, 180, 2, 19, 42, 180, 0, 12, 180, 0, 145, 182, 2, 22, 43, 180, 2, 25, 163, 0, 20, 42, 43, 182, 2, 28, 43, 42]
theorem kX11_meetIce_0 (j : Nat) {b : UInt8} (hj : bX11_meetIce_0[j]? = some b) : AtB cX11_meetIce (0 + j) b := at_of32 (by decide +kernel) j hj
def bX11_meetIce_1 : List UInt8 := [180, 0, 12, 180, 0, 145, 182, 2, 31, 177, 43, 5, 181, 1, 154, 43, 89, 180, 2, 34, 4, 96, 181, 2, 34, 43, 180, 2, 34, 16, 60, 161]
theorem kX11_meetIce_1 (j : Nat) {b : UInt8} (hj : bX11_meetIce_1[j]? = some b) : AtB cX11_meetIce (32 + j) b := at_of32 (by decide +kernel) j hj
def bX11_meetIce_2 : List UInt8 := [0, 14, 43, 42, 180, 0, 12, 180, 0, 145, 182, 2, 31, 177]
theorem kX11_meetIce_2 (j : Nat) {b : UInt8} (hj : bX11_meetIce_2[j]? = some b) : AtB cX11_meetIce (64 + j) b := at_of32 (by decide +kernel) j hj
theorem dX11_meetIce_0 : decode cX11_meetIce 0 = .ok (.aload_n 0, 1) := dq_42 (kX11_meetIce_0 0 rfl)
theorem dX11_meetIce_1 : decode cX11_meetIce 1 = .ok (.getfield 12, 3) := dq_180 (kX11_meetIce_0 1 rfl) (kX11_meetIce_0 2 rfl) (kX11_meetIce_0 3 rfl) rfl
theorem dX11_meetIce_4 : decode cX11_meetIce 4 = .ok (.aload_n 1, 1) := dq_43 (kX11_meetIce_0 4 rfl)
theorem dX11_meetIce_5 : decode cX11_meetIce 5 = .ok (.getfield 531, 3) := dq_180 (kX11_meetIce_0 5 rfl) (kX11_meetIce_0 6 rfl) (kX11_meetIce_0 7 rfl) rfl
theorem dX11_meetIce_8 : decode cX11_meetIce 8 = .ok (.aload_n 0, 1) := dq_42 (kX11_meetIce_0 8 rfl)
theorem dX11_meetIce_9 : decode cX11_meetIce 9 = .ok (.getfield 12, 3) := dq_180 (kX11_meetIce_0 9 rfl) (kX11_meetIce_0 10 rfl) (kX11_meetIce_0 11 rfl) rfl
theorem dX11_meetIce_12 : decode cX11_meetIce 12 = .ok (.getfield 145, 3) := dq_180 (kX11_meetIce_0 12 rfl) (kX11_meetIce_0 13 rfl) (kX11_meetIce_0 14 rfl) rfl
theorem dX11_meetIce_15 : decode cX11_meetIce 15 = .ok (.invokevirtual 534, 3) := dq_182 (kX11_meetIce_0 15 rfl) (kX11_meetIce_0 16 rfl) (kX11_meetIce_0 17 rfl) rfl
theorem dX11_meetIce_18 : decode cX11_meetIce 18 = .ok (.aload_n 1, 1) := dq_43 (kX11_meetIce_0 18 rfl)
theorem dX11_meetIce_19 : decode cX11_meetIce 19 = .ok (.getfield 537, 3) := dq_180 (kX11_meetIce_0 19 rfl) (kX11_meetIce_0 20 rfl) (kX11_meetIce_0 21 rfl) rfl
theorem dX11_meetIce_22 : decode cX11_meetIce 22 = .ok (.if_icmp .gt 20, 3) := dq_163 (kX11_meetIce_0 22 rfl) (kX11_meetIce_0 23 rfl) (kX11_meetIce_0 24 rfl) (by decide)
theorem dX11_meetIce_25 : decode cX11_meetIce 25 = .ok (.aload_n 0, 1) := dq_42 (kX11_meetIce_0 25 rfl)
theorem dX11_meetIce_26 : decode cX11_meetIce 26 = .ok (.aload_n 1, 1) := dq_43 (kX11_meetIce_0 26 rfl)
theorem dX11_meetIce_27 : decode cX11_meetIce 27 = .ok (.invokevirtual 540, 3) := dq_182 (kX11_meetIce_0 27 rfl) (kX11_meetIce_0 28 rfl) (kX11_meetIce_0 29 rfl) rfl
theorem dX11_meetIce_30 : decode cX11_meetIce 30 = .ok (.aload_n 1, 1) := dq_43 (kX11_meetIce_0 30 rfl)
theorem dX11_meetIce_31 : decode cX11_meetIce 31 = .ok (.aload_n 0, 1) := dq_42 (kX11_meetIce_0 31 rfl)
theorem dX11_meetIce_32 : decode cX11_meetIce 32 = .ok (.getfield 12, 3) := dq_180 (kX11_meetIce_1 0 rfl) (kX11_meetIce_1 1 rfl) (kX11_meetIce_1 2 rfl) rfl
theorem dX11_meetIce_35 : decode cX11_meetIce 35 = .ok (.getfield 145, 3) := dq_180 (kX11_meetIce_1 3 rfl) (kX11_meetIce_1 4 rfl) (kX11_meetIce_1 5 rfl) rfl
theorem dX11_meetIce_38 : decode cX11_meetIce 38 = .ok (.invokevirtual 543, 3) := dq_182 (kX11_meetIce_1 6 rfl) (kX11_meetIce_1 7 rfl) (kX11_meetIce_1 8 rfl) rfl
theorem dX11_meetIce_41 : decode cX11_meetIce 41 = .ok (.return_, 1) := dq_177 (kX11_meetIce_1 9 rfl)
theorem dX11_meetIce_42 : decode cX11_meetIce 42 = .ok (.aload_n 1, 1) := dq_43 (kX11_meetIce_1 10 rfl)
theorem dX11_meetIce_43 : decode cX11_meetIce 43 = .ok (.iconst 2, 1) := dq_5 (kX11_meetIce_1 11 rfl)
theorem dX11_meetIce_44 : decode cX11_meetIce 44 = .ok (.putfield 410, 3) := dq_181 (kX11_meetIce_1 12 rfl) (kX11_meetIce_1 13 rfl) (kX11_meetIce_1 14 rfl) rfl
theorem dX11_meetIce_47 : decode cX11_meetIce 47 = .ok (.aload_n 1, 1) := dq_43 (kX11_meetIce_1 15 rfl)
theorem dX11_meetIce_48 : decode cX11_meetIce 48 = .ok (.dup, 1) := dq_89 (kX11_meetIce_1 16 rfl)
theorem dX11_meetIce_49 : decode cX11_meetIce 49 = .ok (.getfield 546, 3) := dq_180 (kX11_meetIce_1 17 rfl) (kX11_meetIce_1 18 rfl) (kX11_meetIce_1 19 rfl) rfl
theorem dX11_meetIce_52 : decode cX11_meetIce 52 = .ok (.iconst 1, 1) := dq_4 (kX11_meetIce_1 20 rfl)
theorem dX11_meetIce_53 : decode cX11_meetIce 53 = .ok (.iadd, 1) := dq_96 (kX11_meetIce_1 21 rfl)
theorem dX11_meetIce_54 : decode cX11_meetIce 54 = .ok (.putfield 546, 3) := dq_181 (kX11_meetIce_1 22 rfl) (kX11_meetIce_1 23 rfl) (kX11_meetIce_1 24 rfl) rfl
theorem dX11_meetIce_57 : decode cX11_meetIce 57 = .ok (.aload_n 1, 1) := dq_43 (kX11_meetIce_1 25 rfl)
theorem dX11_meetIce_58 : decode cX11_meetIce 58 = .ok (.getfield 546, 3) := dq_180 (kX11_meetIce_1 26 rfl) (kX11_meetIce_1 27 rfl) (kX11_meetIce_1 28 rfl) rfl
theorem dX11_meetIce_61 : decode cX11_meetIce 61 = .ok (.bipush 60, 2) := dq_16 (kX11_meetIce_1 29 rfl) (kX11_meetIce_1 30 rfl) (by decide)
theorem dX11_meetIce_63 : decode cX11_meetIce 63 = .ok (.if_icmp .lt 14, 3) := dq_161 (kX11_meetIce_1 31 rfl) (kX11_meetIce_2 0 rfl) (kX11_meetIce_2 1 rfl) (by decide)
theorem dX11_meetIce_66 : decode cX11_meetIce 66 = .ok (.aload_n 1, 1) := dq_43 (kX11_meetIce_2 2 rfl)
theorem dX11_meetIce_67 : decode cX11_meetIce 67 = .ok (.aload_n 0, 1) := dq_42 (kX11_meetIce_2 3 rfl)
theorem dX11_meetIce_68 : decode cX11_meetIce 68 = .ok (.getfield 12, 3) := dq_180 (kX11_meetIce_2 4 rfl) (kX11_meetIce_2 5 rfl) (kX11_meetIce_2 6 rfl) rfl
theorem dX11_meetIce_71 : decode cX11_meetIce 71 = .ok (.getfield 145, 3) := dq_180 (kX11_meetIce_2 7 rfl) (kX11_meetIce_2 8 rfl) (kX11_meetIce_2 9 rfl) rfl
theorem dX11_meetIce_74 : decode cX11_meetIce 74 = .ok (.invokevirtual 543, 3) := dq_182 (kX11_meetIce_2 10 rfl) (kX11_meetIce_2 11 rfl) (kX11_meetIce_2 12 rfl) rfl
theorem dX11_meetIce_77 : decode cX11_meetIce 77 = .ok (.return_, 1) := dq_177 (kX11_meetIce_2 13 rfl)

def bX11_unload_0 : List UInt8 := [42, 43, 180, 2, 37, 182, 0, 195, 77, 44, 198, 0, 17, 42, 180, 0, 12, 44, 180, 1, 88, 182, 1, 157, 154, 0, 4, 177, 44, 89, 180, 0]
theorem kX11_unload_0 (j : Nat) {b : UInt8} (hj : bX11_unload_0[j]? = some b) : AtB cX11_unload (0 + j) b := at_of32 (by decide +kernel) j hj
def bX11_unload_1 : List UInt8 := [186, 43, 180, 2, 40, 96, 181, 0, 186, 43, 3, 181, 2, 40, 6, 62, 29, 155, 0, 53, 43, 180, 1, 151, 43, 180, 2, 41, 100, 44, 180, 1]
theorem kX11_unload_1 (j : Nat) {b : UInt8} (hj : bX11_unload_1[j]? = some b) : AtB cX11_unload (32 + j) b := at_of32 (by decide +kernel) j hj
def bX11_unload_2 : List UInt8 := [235, 29, 184, 0, 253, 184, 1, 223, 54, 4, 44, 180, 1, 235, 29, 21, 4, 116, 184, 1, 220, 43, 89, 180, 2, 41, 21, 4, 96, 181, 2, 41]
theorem kX11_unload_2 (j : Nat) {b : UInt8} (hj : bX11_unload_2[j]? = some b) : AtB cX11_unload (64 + j) b := at_of32 (by decide +kernel) j hj
def bX11_unload_3 : List UInt8 := [132, 3, 255, 167, 255, 205, 177]
theorem kX11_unload_3 (j : Nat) {b : UInt8} (hj : bX11_unload_3[j]? = some b) : AtB cX11_unload (96 + j) b := at_of32 (by decide +kernel) j hj
theorem dX11_unload_0 : decode cX11_unload 0 = .ok (.aload_n 0, 1) := dq_42 (kX11_unload_0 0 rfl)
theorem dX11_unload_1 : decode cX11_unload 1 = .ok (.aload_n 1, 1) := dq_43 (kX11_unload_0 1 rfl)
theorem dX11_unload_2 : decode cX11_unload 2 = .ok (.getfield 549, 3) := dq_180 (kX11_unload_0 2 rfl) (kX11_unload_0 3 rfl) (kX11_unload_0 4 rfl) rfl
theorem dX11_unload_5 : decode cX11_unload 5 = .ok (.invokevirtual 195, 3) := dq_182 (kX11_unload_0 5 rfl) (kX11_unload_0 6 rfl) (kX11_unload_0 7 rfl) rfl
theorem dX11_unload_8 : decode cX11_unload 8 = .ok (.astore_n 2, 1) := dq_77 (kX11_unload_0 8 rfl)
theorem dX11_unload_9 : decode cX11_unload 9 = .ok (.aload_n 2, 1) := dq_44 (kX11_unload_0 9 rfl)
theorem dX11_unload_10 : decode cX11_unload 10 = .ok (.ifnull 17, 3) := dq_198 (kX11_unload_0 10 rfl) (kX11_unload_0 11 rfl) (kX11_unload_0 12 rfl) (by decide)
theorem dX11_unload_13 : decode cX11_unload 13 = .ok (.aload_n 0, 1) := dq_42 (kX11_unload_0 13 rfl)
theorem dX11_unload_14 : decode cX11_unload 14 = .ok (.getfield 12, 3) := dq_180 (kX11_unload_0 14 rfl) (kX11_unload_0 15 rfl) (kX11_unload_0 16 rfl) rfl
theorem dX11_unload_17 : decode cX11_unload 17 = .ok (.aload_n 2, 1) := dq_44 (kX11_unload_0 17 rfl)
theorem dX11_unload_18 : decode cX11_unload 18 = .ok (.getfield 344, 3) := dq_180 (kX11_unload_0 18 rfl) (kX11_unload_0 19 rfl) (kX11_unload_0 20 rfl) rfl
theorem dX11_unload_21 : decode cX11_unload 21 = .ok (.invokevirtual 413, 3) := dq_182 (kX11_unload_0 21 rfl) (kX11_unload_0 22 rfl) (kX11_unload_0 23 rfl) rfl
theorem dX11_unload_24 : decode cX11_unload 24 = .ok (.ifCond .ne 4, 3) := dq_154 (kX11_unload_0 24 rfl) (kX11_unload_0 25 rfl) (kX11_unload_0 26 rfl) (by decide)
theorem dX11_unload_27 : decode cX11_unload 27 = .ok (.return_, 1) := dq_177 (kX11_unload_0 27 rfl)
theorem dX11_unload_28 : decode cX11_unload 28 = .ok (.aload_n 2, 1) := dq_44 (kX11_unload_0 28 rfl)
theorem dX11_unload_29 : decode cX11_unload 29 = .ok (.dup, 1) := dq_89 (kX11_unload_0 29 rfl)
theorem dX11_unload_30 : decode cX11_unload 30 = .ok (.getfield 186, 3) := dq_180 (kX11_unload_0 30 rfl) (kX11_unload_0 31 rfl) (kX11_unload_1 0 rfl) rfl
theorem dX11_unload_33 : decode cX11_unload 33 = .ok (.aload_n 1, 1) := dq_43 (kX11_unload_1 1 rfl)
theorem dX11_unload_34 : decode cX11_unload 34 = .ok (.getfield 552, 3) := dq_180 (kX11_unload_1 2 rfl) (kX11_unload_1 3 rfl) (kX11_unload_1 4 rfl) rfl
theorem dX11_unload_37 : decode cX11_unload 37 = .ok (.iadd, 1) := dq_96 (kX11_unload_1 5 rfl)
theorem dX11_unload_38 : decode cX11_unload 38 = .ok (.putfield 186, 3) := dq_181 (kX11_unload_1 6 rfl) (kX11_unload_1 7 rfl) (kX11_unload_1 8 rfl) rfl
theorem dX11_unload_41 : decode cX11_unload 41 = .ok (.aload_n 1, 1) := dq_43 (kX11_unload_1 9 rfl)
theorem dX11_unload_42 : decode cX11_unload 42 = .ok (.iconst 0, 1) := dq_3 (kX11_unload_1 10 rfl)
theorem dX11_unload_43 : decode cX11_unload 43 = .ok (.putfield 552, 3) := dq_181 (kX11_unload_1 11 rfl) (kX11_unload_1 12 rfl) (kX11_unload_1 13 rfl) rfl
theorem dX11_unload_46 : decode cX11_unload 46 = .ok (.iconst 3, 1) := dq_6 (kX11_unload_1 14 rfl)
theorem dX11_unload_47 : decode cX11_unload 47 = .ok (.istore_n 3, 1) := dq_62 (kX11_unload_1 15 rfl)
theorem dX11_unload_48 : decode cX11_unload 48 = .ok (.iload_n 3, 1) := dq_29 (kX11_unload_1 16 rfl)
theorem dX11_unload_49 : decode cX11_unload 49 = .ok (.ifCond .lt 53, 3) := dq_155 (kX11_unload_1 17 rfl) (kX11_unload_1 18 rfl) (kX11_unload_1 19 rfl) (by decide)
theorem dX11_unload_52 : decode cX11_unload 52 = .ok (.aload_n 1, 1) := dq_43 (kX11_unload_1 20 rfl)
theorem dX11_unload_53 : decode cX11_unload 53 = .ok (.getfield 407, 3) := dq_180 (kX11_unload_1 21 rfl) (kX11_unload_1 22 rfl) (kX11_unload_1 23 rfl) rfl
theorem dX11_unload_56 : decode cX11_unload 56 = .ok (.aload_n 1, 1) := dq_43 (kX11_unload_1 24 rfl)
theorem dX11_unload_57 : decode cX11_unload 57 = .ok (.getfield 553, 3) := dq_180 (kX11_unload_1 25 rfl) (kX11_unload_1 26 rfl) (kX11_unload_1 27 rfl) rfl
theorem dX11_unload_60 : decode cX11_unload 60 = .ok (.isub, 1) := dq_100 (kX11_unload_1 28 rfl)
theorem dX11_unload_61 : decode cX11_unload 61 = .ok (.aload_n 2, 1) := dq_44 (kX11_unload_1 29 rfl)
theorem dX11_unload_62 : decode cX11_unload 62 = .ok (.getfield 491, 3) := dq_180 (kX11_unload_1 30 rfl) (kX11_unload_1 31 rfl) (kX11_unload_2 0 rfl) rfl
theorem dX11_unload_65 : decode cX11_unload 65 = .ok (.iload_n 3, 1) := dq_29 (kX11_unload_2 1 rfl)
theorem dX11_unload_66 : decode cX11_unload 66 = .ok (.invokestatic 253, 3) := dq_184 (kX11_unload_2 2 rfl) (kX11_unload_2 3 rfl) (kX11_unload_2 4 rfl) rfl
theorem dX11_unload_69 : decode cX11_unload 69 = .ok (.invokestatic 479, 3) := dq_184 (kX11_unload_2 5 rfl) (kX11_unload_2 6 rfl) (kX11_unload_2 7 rfl) rfl
theorem dX11_unload_72 : decode cX11_unload 72 = .ok (.istore 4, 2) := dq_54 (kX11_unload_2 8 rfl) (kX11_unload_2 9 rfl) rfl
theorem dX11_unload_74 : decode cX11_unload 74 = .ok (.aload_n 2, 1) := dq_44 (kX11_unload_2 10 rfl)
theorem dX11_unload_75 : decode cX11_unload 75 = .ok (.getfield 491, 3) := dq_180 (kX11_unload_2 11 rfl) (kX11_unload_2 12 rfl) (kX11_unload_2 13 rfl) rfl
theorem dX11_unload_78 : decode cX11_unload 78 = .ok (.iload_n 3, 1) := dq_29 (kX11_unload_2 14 rfl)
theorem dX11_unload_79 : decode cX11_unload 79 = .ok (.iload 4, 2) := dq_21 (kX11_unload_2 15 rfl) (kX11_unload_2 16 rfl) rfl
theorem dX11_unload_81 : decode cX11_unload 81 = .ok (.ineg, 1) := dq_116 (kX11_unload_2 17 rfl)
theorem dX11_unload_82 : decode cX11_unload 82 = .ok (.invokestatic 476, 3) := dq_184 (kX11_unload_2 18 rfl) (kX11_unload_2 19 rfl) (kX11_unload_2 20 rfl) rfl
theorem dX11_unload_85 : decode cX11_unload 85 = .ok (.aload_n 1, 1) := dq_43 (kX11_unload_2 21 rfl)
theorem dX11_unload_86 : decode cX11_unload 86 = .ok (.dup, 1) := dq_89 (kX11_unload_2 22 rfl)
theorem dX11_unload_87 : decode cX11_unload 87 = .ok (.getfield 553, 3) := dq_180 (kX11_unload_2 23 rfl) (kX11_unload_2 24 rfl) (kX11_unload_2 25 rfl) rfl
theorem dX11_unload_90 : decode cX11_unload 90 = .ok (.iload 4, 2) := dq_21 (kX11_unload_2 26 rfl) (kX11_unload_2 27 rfl) rfl
theorem dX11_unload_92 : decode cX11_unload 92 = .ok (.iadd, 1) := dq_96 (kX11_unload_2 28 rfl)
theorem dX11_unload_93 : decode cX11_unload 93 = .ok (.putfield 553, 3) := dq_181 (kX11_unload_2 29 rfl) (kX11_unload_2 30 rfl) (kX11_unload_2 31 rfl) rfl
theorem dX11_unload_96 : decode cX11_unload 96 = .ok (.iinc 3 (-1), 3) := dq_132 (kX11_unload_3 0 rfl) (kX11_unload_3 1 rfl) (kX11_unload_3 2 rfl) rfl (by decide)
theorem dX11_unload_99 : decode cX11_unload 99 = .ok (.goto (-51), 3) := dq_167 (kX11_unload_3 3 rfl) (kX11_unload_3 4 rfl) (kX11_unload_3 5 rfl) (by decide)
theorem dX11_unload_102 : decode cX11_unload 102 = .ok (.return_, 1) := dq_177 (kX11_unload_3 6 rfl)

def bX11_comeHome_0 : List UInt8 := [42, 6, 43, 180, 2, 40, 182, 0, 192, 42, 16, 6, 43, 180, 2, 41, 182, 0, 192, 43, 3, 181, 2, 40, 43, 3, 181, 2, 41, 43, 3, 181]
theorem kX11_comeHome_0 (j : Nat) {b : UInt8} (hj : bX11_comeHome_0[j]? = some b) : AtB cX11_comeHome (0 + j) b := at_of32 (by decide +kernel) j hj
def bX11_comeHome_1 : List UInt8 := [1, 154, 177]
theorem kX11_comeHome_1 (j : Nat) {b : UInt8} (hj : bX11_comeHome_1[j]? = some b) : AtB cX11_comeHome (32 + j) b := at_of32 (by decide +kernel) j hj
theorem dX11_comeHome_0 : decode cX11_comeHome 0 = .ok (.aload_n 0, 1) := dq_42 (kX11_comeHome_0 0 rfl)
theorem dX11_comeHome_1 : decode cX11_comeHome 1 = .ok (.iconst 3, 1) := dq_6 (kX11_comeHome_0 1 rfl)
theorem dX11_comeHome_2 : decode cX11_comeHome 2 = .ok (.aload_n 1, 1) := dq_43 (kX11_comeHome_0 2 rfl)
theorem dX11_comeHome_3 : decode cX11_comeHome 3 = .ok (.getfield 552, 3) := dq_180 (kX11_comeHome_0 3 rfl) (kX11_comeHome_0 4 rfl) (kX11_comeHome_0 5 rfl) rfl
theorem dX11_comeHome_6 : decode cX11_comeHome 6 = .ok (.invokevirtual 192, 3) := dq_182 (kX11_comeHome_0 6 rfl) (kX11_comeHome_0 7 rfl) (kX11_comeHome_0 8 rfl) rfl
theorem dX11_comeHome_9 : decode cX11_comeHome 9 = .ok (.aload_n 0, 1) := dq_42 (kX11_comeHome_0 9 rfl)
theorem dX11_comeHome_10 : decode cX11_comeHome 10 = .ok (.bipush 6, 2) := dq_16 (kX11_comeHome_0 10 rfl) (kX11_comeHome_0 11 rfl) (by decide)
theorem dX11_comeHome_12 : decode cX11_comeHome 12 = .ok (.aload_n 1, 1) := dq_43 (kX11_comeHome_0 12 rfl)
theorem dX11_comeHome_13 : decode cX11_comeHome 13 = .ok (.getfield 553, 3) := dq_180 (kX11_comeHome_0 13 rfl) (kX11_comeHome_0 14 rfl) (kX11_comeHome_0 15 rfl) rfl
theorem dX11_comeHome_16 : decode cX11_comeHome 16 = .ok (.invokevirtual 192, 3) := dq_182 (kX11_comeHome_0 16 rfl) (kX11_comeHome_0 17 rfl) (kX11_comeHome_0 18 rfl) rfl
theorem dX11_comeHome_19 : decode cX11_comeHome 19 = .ok (.aload_n 1, 1) := dq_43 (kX11_comeHome_0 19 rfl)
theorem dX11_comeHome_20 : decode cX11_comeHome 20 = .ok (.iconst 0, 1) := dq_3 (kX11_comeHome_0 20 rfl)
theorem dX11_comeHome_21 : decode cX11_comeHome 21 = .ok (.putfield 552, 3) := dq_181 (kX11_comeHome_0 21 rfl) (kX11_comeHome_0 22 rfl) (kX11_comeHome_0 23 rfl) rfl
theorem dX11_comeHome_24 : decode cX11_comeHome 24 = .ok (.aload_n 1, 1) := dq_43 (kX11_comeHome_0 24 rfl)
theorem dX11_comeHome_25 : decode cX11_comeHome 25 = .ok (.iconst 0, 1) := dq_3 (kX11_comeHome_0 25 rfl)
theorem dX11_comeHome_26 : decode cX11_comeHome 26 = .ok (.putfield 553, 3) := dq_181 (kX11_comeHome_0 26 rfl) (kX11_comeHome_0 27 rfl) (kX11_comeHome_0 28 rfl) rfl
theorem dX11_comeHome_29 : decode cX11_comeHome 29 = .ok (.aload_n 1, 1) := dq_43 (kX11_comeHome_0 29 rfl)
theorem dX11_comeHome_30 : decode cX11_comeHome 30 = .ok (.iconst 0, 1) := dq_3 (kX11_comeHome_0 30 rfl)
theorem dX11_comeHome_31 : decode cX11_comeHome 31 = .ok (.putfield 410, 3) := dq_181 (kX11_comeHome_0 31 rfl) (kX11_comeHome_1 0 rfl) (kX11_comeHome_1 1 rfl) rfl
theorem dX11_comeHome_34 : decode cX11_comeHome 34 = .ok (.return_, 1) := dq_177 (kX11_comeHome_1 2 rfl)

def bX11_passSledge_0 : List UInt8 := [42, 180, 0, 72, 27, 7, 182, 0, 209, 153, 0, 22, 42, 180, 0, 72, 27, 5, 182, 0, 209, 42, 180, 0, 12, 180, 0, 145, 159, 0, 4, 177]
theorem kX11_passSledge_0 (j : Nat) {b : UInt8} (hj : bX11_passSledge_0[j]? = some b) : AtB cX11_passSledge (0 + j) b := at_of32 (by decide +kernel) j hj
def bX11_passSledge_1 : List UInt8 := [42, 180, 0, 72, 27, 7, 3, 182, 1, 229, 42, 180, 0, 72, 27, 6, 182, 0, 209, 61, 42, 42, 180, 0, 72, 27, 3, 182, 0, 209, 182, 0]
theorem kX11_passSledge_1 (j : Nat) {b : UInt8} (hj : bX11_passSledge_1[j]? = some b) : AtB cX11_passSledge (32 + j) b := at_of32 (by decide +kernel) j hj
def bX11_passSledge_2 : List UInt8 := [195, 78, 45, 198, 0, 32, 45, 180, 1, 88, 42, 180, 0, 72, 27, 4, 182, 0, 209, 160, 0, 16, 45, 89, 180, 0, 186, 28, 96, 181, 0, 186]
theorem kX11_passSledge_2 (j : Nat) {b : UInt8} (hj : bX11_passSledge_2[j]? = some b) : AtB cX11_passSledge (64 + j) b := at_of32 (by decide +kernel) j hj
def bX11_passSledge_3 : List UInt8 := [167, 0, 9, 42, 5, 28, 182, 0, 192, 177]
theorem kX11_passSledge_3 (j : Nat) {b : UInt8} (hj : bX11_passSledge_3[j]? = some b) : AtB cX11_passSledge (96 + j) b := at_of32 (by decide +kernel) j hj
theorem dX11_passSledge_0 : decode cX11_passSledge 0 = .ok (.aload_n 0, 1) := dq_42 (kX11_passSledge_0 0 rfl)
theorem dX11_passSledge_1 : decode cX11_passSledge 1 = .ok (.getfield 72, 3) := dq_180 (kX11_passSledge_0 1 rfl) (kX11_passSledge_0 2 rfl) (kX11_passSledge_0 3 rfl) rfl
theorem dX11_passSledge_4 : decode cX11_passSledge 4 = .ok (.iload_n 1, 1) := dq_27 (kX11_passSledge_0 4 rfl)
theorem dX11_passSledge_5 : decode cX11_passSledge 5 = .ok (.iconst 4, 1) := dq_7 (kX11_passSledge_0 5 rfl)
theorem dX11_passSledge_6 : decode cX11_passSledge 6 = .ok (.invokevirtual 209, 3) := dq_182 (kX11_passSledge_0 6 rfl) (kX11_passSledge_0 7 rfl) (kX11_passSledge_0 8 rfl) rfl
theorem dX11_passSledge_9 : decode cX11_passSledge 9 = .ok (.ifCond .eq 22, 3) := dq_153 (kX11_passSledge_0 9 rfl) (kX11_passSledge_0 10 rfl) (kX11_passSledge_0 11 rfl) (by decide)
theorem dX11_passSledge_12 : decode cX11_passSledge 12 = .ok (.aload_n 0, 1) := dq_42 (kX11_passSledge_0 12 rfl)
theorem dX11_passSledge_13 : decode cX11_passSledge 13 = .ok (.getfield 72, 3) := dq_180 (kX11_passSledge_0 13 rfl) (kX11_passSledge_0 14 rfl) (kX11_passSledge_0 15 rfl) rfl
theorem dX11_passSledge_16 : decode cX11_passSledge 16 = .ok (.iload_n 1, 1) := dq_27 (kX11_passSledge_0 16 rfl)
theorem dX11_passSledge_17 : decode cX11_passSledge 17 = .ok (.iconst 2, 1) := dq_5 (kX11_passSledge_0 17 rfl)
theorem dX11_passSledge_18 : decode cX11_passSledge 18 = .ok (.invokevirtual 209, 3) := dq_182 (kX11_passSledge_0 18 rfl) (kX11_passSledge_0 19 rfl) (kX11_passSledge_0 20 rfl) rfl
theorem dX11_passSledge_21 : decode cX11_passSledge 21 = .ok (.aload_n 0, 1) := dq_42 (kX11_passSledge_0 21 rfl)
theorem dX11_passSledge_22 : decode cX11_passSledge 22 = .ok (.getfield 12, 3) := dq_180 (kX11_passSledge_0 22 rfl) (kX11_passSledge_0 23 rfl) (kX11_passSledge_0 24 rfl) rfl
theorem dX11_passSledge_25 : decode cX11_passSledge 25 = .ok (.getfield 145, 3) := dq_180 (kX11_passSledge_0 25 rfl) (kX11_passSledge_0 26 rfl) (kX11_passSledge_0 27 rfl) rfl
theorem dX11_passSledge_28 : decode cX11_passSledge 28 = .ok (.if_icmp .eq 4, 3) := dq_159 (kX11_passSledge_0 28 rfl) (kX11_passSledge_0 29 rfl) (kX11_passSledge_0 30 rfl) (by decide)
theorem dX11_passSledge_31 : decode cX11_passSledge 31 = .ok (.return_, 1) := dq_177 (kX11_passSledge_0 31 rfl)
theorem dX11_passSledge_32 : decode cX11_passSledge 32 = .ok (.aload_n 0, 1) := dq_42 (kX11_passSledge_1 0 rfl)
theorem dX11_passSledge_33 : decode cX11_passSledge 33 = .ok (.getfield 72, 3) := dq_180 (kX11_passSledge_1 1 rfl) (kX11_passSledge_1 2 rfl) (kX11_passSledge_1 3 rfl) rfl
theorem dX11_passSledge_36 : decode cX11_passSledge 36 = .ok (.iload_n 1, 1) := dq_27 (kX11_passSledge_1 4 rfl)
theorem dX11_passSledge_37 : decode cX11_passSledge 37 = .ok (.iconst 4, 1) := dq_7 (kX11_passSledge_1 5 rfl)
theorem dX11_passSledge_38 : decode cX11_passSledge 38 = .ok (.iconst 0, 1) := dq_3 (kX11_passSledge_1 6 rfl)
theorem dX11_passSledge_39 : decode cX11_passSledge 39 = .ok (.invokevirtual 485, 3) := dq_182 (kX11_passSledge_1 7 rfl) (kX11_passSledge_1 8 rfl) (kX11_passSledge_1 9 rfl) rfl
theorem dX11_passSledge_42 : decode cX11_passSledge 42 = .ok (.aload_n 0, 1) := dq_42 (kX11_passSledge_1 10 rfl)
theorem dX11_passSledge_43 : decode cX11_passSledge 43 = .ok (.getfield 72, 3) := dq_180 (kX11_passSledge_1 11 rfl) (kX11_passSledge_1 12 rfl) (kX11_passSledge_1 13 rfl) rfl
theorem dX11_passSledge_46 : decode cX11_passSledge 46 = .ok (.iload_n 1, 1) := dq_27 (kX11_passSledge_1 14 rfl)
theorem dX11_passSledge_47 : decode cX11_passSledge 47 = .ok (.iconst 3, 1) := dq_6 (kX11_passSledge_1 15 rfl)
theorem dX11_passSledge_48 : decode cX11_passSledge 48 = .ok (.invokevirtual 209, 3) := dq_182 (kX11_passSledge_1 16 rfl) (kX11_passSledge_1 17 rfl) (kX11_passSledge_1 18 rfl) rfl
theorem dX11_passSledge_51 : decode cX11_passSledge 51 = .ok (.istore_n 2, 1) := dq_61 (kX11_passSledge_1 19 rfl)
theorem dX11_passSledge_52 : decode cX11_passSledge 52 = .ok (.aload_n 0, 1) := dq_42 (kX11_passSledge_1 20 rfl)
theorem dX11_passSledge_53 : decode cX11_passSledge 53 = .ok (.aload_n 0, 1) := dq_42 (kX11_passSledge_1 21 rfl)
theorem dX11_passSledge_54 : decode cX11_passSledge 54 = .ok (.getfield 72, 3) := dq_180 (kX11_passSledge_1 22 rfl) (kX11_passSledge_1 23 rfl) (kX11_passSledge_1 24 rfl) rfl
theorem dX11_passSledge_57 : decode cX11_passSledge 57 = .ok (.iload_n 1, 1) := dq_27 (kX11_passSledge_1 25 rfl)
theorem dX11_passSledge_58 : decode cX11_passSledge 58 = .ok (.iconst 0, 1) := dq_3 (kX11_passSledge_1 26 rfl)
theorem dX11_passSledge_59 : decode cX11_passSledge 59 = .ok (.invokevirtual 209, 3) := dq_182 (kX11_passSledge_1 27 rfl) (kX11_passSledge_1 28 rfl) (kX11_passSledge_1 29 rfl) rfl
theorem dX11_passSledge_62 : decode cX11_passSledge 62 = .ok (.invokevirtual 195, 3) := dq_182 (kX11_passSledge_1 30 rfl) (kX11_passSledge_1 31 rfl) (kX11_passSledge_2 0 rfl) rfl
theorem dX11_passSledge_65 : decode cX11_passSledge 65 = .ok (.astore_n 3, 1) := dq_78 (kX11_passSledge_2 1 rfl)
theorem dX11_passSledge_66 : decode cX11_passSledge 66 = .ok (.aload_n 3, 1) := dq_45 (kX11_passSledge_2 2 rfl)
theorem dX11_passSledge_67 : decode cX11_passSledge 67 = .ok (.ifnull 32, 3) := dq_198 (kX11_passSledge_2 3 rfl) (kX11_passSledge_2 4 rfl) (kX11_passSledge_2 5 rfl) (by decide)
theorem dX11_passSledge_70 : decode cX11_passSledge 70 = .ok (.aload_n 3, 1) := dq_45 (kX11_passSledge_2 6 rfl)
theorem dX11_passSledge_71 : decode cX11_passSledge 71 = .ok (.getfield 344, 3) := dq_180 (kX11_passSledge_2 7 rfl) (kX11_passSledge_2 8 rfl) (kX11_passSledge_2 9 rfl) rfl
theorem dX11_passSledge_74 : decode cX11_passSledge 74 = .ok (.aload_n 0, 1) := dq_42 (kX11_passSledge_2 10 rfl)
theorem dX11_passSledge_75 : decode cX11_passSledge 75 = .ok (.getfield 72, 3) := dq_180 (kX11_passSledge_2 11 rfl) (kX11_passSledge_2 12 rfl) (kX11_passSledge_2 13 rfl) rfl
theorem dX11_passSledge_78 : decode cX11_passSledge 78 = .ok (.iload_n 1, 1) := dq_27 (kX11_passSledge_2 14 rfl)
theorem dX11_passSledge_79 : decode cX11_passSledge 79 = .ok (.iconst 1, 1) := dq_4 (kX11_passSledge_2 15 rfl)
theorem dX11_passSledge_80 : decode cX11_passSledge 80 = .ok (.invokevirtual 209, 3) := dq_182 (kX11_passSledge_2 16 rfl) (kX11_passSledge_2 17 rfl) (kX11_passSledge_2 18 rfl) rfl
theorem dX11_passSledge_83 : decode cX11_passSledge 83 = .ok (.if_icmp .ne 16, 3) := dq_160 (kX11_passSledge_2 19 rfl) (kX11_passSledge_2 20 rfl) (kX11_passSledge_2 21 rfl) (by decide)
theorem dX11_passSledge_86 : decode cX11_passSledge 86 = .ok (.aload_n 3, 1) := dq_45 (kX11_passSledge_2 22 rfl)
theorem dX11_passSledge_87 : decode cX11_passSledge 87 = .ok (.dup, 1) := dq_89 (kX11_passSledge_2 23 rfl)
theorem dX11_passSledge_88 : decode cX11_passSledge 88 = .ok (.getfield 186, 3) := dq_180 (kX11_passSledge_2 24 rfl) (kX11_passSledge_2 25 rfl) (kX11_passSledge_2 26 rfl) rfl
theorem dX11_passSledge_91 : decode cX11_passSledge 91 = .ok (.iload_n 2, 1) := dq_28 (kX11_passSledge_2 27 rfl)
theorem dX11_passSledge_92 : decode cX11_passSledge 92 = .ok (.iadd, 1) := dq_96 (kX11_passSledge_2 28 rfl)
theorem dX11_passSledge_93 : decode cX11_passSledge 93 = .ok (.putfield 186, 3) := dq_181 (kX11_passSledge_2 29 rfl) (kX11_passSledge_2 30 rfl) (kX11_passSledge_2 31 rfl) rfl
theorem dX11_passSledge_96 : decode cX11_passSledge 96 = .ok (.goto 9, 3) := dq_167 (kX11_passSledge_3 0 rfl) (kX11_passSledge_3 1 rfl) (kX11_passSledge_3 2 rfl) (by decide)
theorem dX11_passSledge_99 : decode cX11_passSledge 99 = .ok (.aload_n 0, 1) := dq_42 (kX11_passSledge_3 3 rfl)
theorem dX11_passSledge_100 : decode cX11_passSledge 100 = .ok (.iconst 2, 1) := dq_5 (kX11_passSledge_3 4 rfl)
theorem dX11_passSledge_101 : decode cX11_passSledge 101 = .ok (.iload_n 2, 1) := dq_28 (kX11_passSledge_3 5 rfl)
theorem dX11_passSledge_102 : decode cX11_passSledge 102 = .ok (.invokevirtual 192, 3) := dq_182 (kX11_passSledge_3 6 rfl) (kX11_passSledge_3 7 rfl) (kX11_passSledge_3 8 rfl) rfl
theorem dX11_passSledge_105 : decode cX11_passSledge 105 = .ok (.return_, 1) := dq_177 (kX11_passSledge_3 9 rfl)

def bX11_sound_0 : List UInt8 := [42, 27, 7, 182, 0, 169, 58, 4, 25, 4, 198, 0, 25, 28, 4, 17, 19, 136, 184, 0, 112, 153, 0, 14, 29, 3, 17, 3, 232, 184, 0, 112]
theorem kX11_sound_0 (j : Nat) {b : UInt8} (hj : bX11_sound_0[j]? = some b) : AtB cX11_sound (0 + j) b := at_of32 (by decide +kernel) j hj
def bX11_sound_1 : List UInt8 := [154, 0, 5, 3, 172, 25, 4, 28, 29, 182, 2, 44, 172]
theorem kX11_sound_1 (j : Nat) {b : UInt8} (hj : bX11_sound_1[j]? = some b) : AtB cX11_sound (32 + j) b := at_of32 (by decide +kernel) j hj
theorem dX11_sound_0 : decode cX11_sound 0 = .ok (.aload_n 0, 1) := dq_42 (kX11_sound_0 0 rfl)
theorem dX11_sound_1 : decode cX11_sound 1 = .ok (.iload_n 1, 1) := dq_27 (kX11_sound_0 1 rfl)
theorem dX11_sound_2 : decode cX11_sound 2 = .ok (.iconst 4, 1) := dq_7 (kX11_sound_0 2 rfl)
theorem dX11_sound_3 : decode cX11_sound 3 = .ok (.invokevirtual 169, 3) := dq_182 (kX11_sound_0 3 rfl) (kX11_sound_0 4 rfl) (kX11_sound_0 5 rfl) rfl
theorem dX11_sound_6 : decode cX11_sound 6 = .ok (.astore 4, 2) := dq_58 (kX11_sound_0 6 rfl) (kX11_sound_0 7 rfl) rfl
theorem dX11_sound_8 : decode cX11_sound 8 = .ok (.aload 4, 2) := dq_25 (kX11_sound_0 8 rfl) (kX11_sound_0 9 rfl) rfl
theorem dX11_sound_10 : decode cX11_sound 10 = .ok (.ifnull 25, 3) := dq_198 (kX11_sound_0 10 rfl) (kX11_sound_0 11 rfl) (kX11_sound_0 12 rfl) (by decide)
theorem dX11_sound_13 : decode cX11_sound 13 = .ok (.iload_n 2, 1) := dq_28 (kX11_sound_0 13 rfl)
theorem dX11_sound_14 : decode cX11_sound 14 = .ok (.iconst 1, 1) := dq_4 (kX11_sound_0 14 rfl)
theorem dX11_sound_15 : decode cX11_sound 15 = .ok (.sipush 5000, 3) := dq_17 (kX11_sound_0 15 rfl) (kX11_sound_0 16 rfl) (kX11_sound_0 17 rfl) (by decide)
theorem dX11_sound_18 : decode cX11_sound 18 = .ok (.invokestatic 112, 3) := dq_184 (kX11_sound_0 18 rfl) (kX11_sound_0 19 rfl) (kX11_sound_0 20 rfl) rfl
theorem dX11_sound_21 : decode cX11_sound 21 = .ok (.ifCond .eq 14, 3) := dq_153 (kX11_sound_0 21 rfl) (kX11_sound_0 22 rfl) (kX11_sound_0 23 rfl) (by decide)
theorem dX11_sound_24 : decode cX11_sound 24 = .ok (.iload_n 3, 1) := dq_29 (kX11_sound_0 24 rfl)
theorem dX11_sound_25 : decode cX11_sound 25 = .ok (.iconst 0, 1) := dq_3 (kX11_sound_0 25 rfl)
theorem dX11_sound_26 : decode cX11_sound 26 = .ok (.sipush 1000, 3) := dq_17 (kX11_sound_0 26 rfl) (kX11_sound_0 27 rfl) (kX11_sound_0 28 rfl) (by decide)
theorem dX11_sound_29 : decode cX11_sound 29 = .ok (.invokestatic 112, 3) := dq_184 (kX11_sound_0 29 rfl) (kX11_sound_0 30 rfl) (kX11_sound_0 31 rfl) rfl
theorem dX11_sound_32 : decode cX11_sound 32 = .ok (.ifCond .ne 5, 3) := dq_154 (kX11_sound_1 0 rfl) (kX11_sound_1 1 rfl) (kX11_sound_1 2 rfl) (by decide)
theorem dX11_sound_35 : decode cX11_sound 35 = .ok (.iconst 0, 1) := dq_3 (kX11_sound_1 3 rfl)
theorem dX11_sound_36 : decode cX11_sound 36 = .ok (.ireturn, 1) := dq_172 (kX11_sound_1 4 rfl)
theorem dX11_sound_37 : decode cX11_sound 37 = .ok (.aload 4, 2) := dq_25 (kX11_sound_1 5 rfl) (kX11_sound_1 6 rfl) rfl
theorem dX11_sound_39 : decode cX11_sound 39 = .ok (.iload_n 2, 1) := dq_28 (kX11_sound_1 7 rfl)
theorem dX11_sound_40 : decode cX11_sound 40 = .ok (.iload_n 3, 1) := dq_29 (kX11_sound_1 8 rfl)
theorem dX11_sound_41 : decode cX11_sound 41 = .ok (.invokevirtual 556, 3) := dq_182 (kX11_sound_1 9 rfl) (kX11_sound_1 10 rfl) (kX11_sound_1 11 rfl) rfl
theorem dX11_sound_44 : decode cX11_sound 44 = .ok (.ireturn, 1) := dq_172 (kX11_sound_1 12 rfl)

def bX11_sure_0 : List UInt8 := [42, 27, 7, 182, 0, 169, 77, 44, 199, 0, 7, 2, 167, 0, 7, 44, 182, 1, 226, 172]
theorem kX11_sure_0 (j : Nat) {b : UInt8} (hj : bX11_sure_0[j]? = some b) : AtB cX11_sure (0 + j) b := at_of32 (by decide +kernel) j hj
theorem dX11_sure_0 : decode cX11_sure 0 = .ok (.aload_n 0, 1) := dq_42 (kX11_sure_0 0 rfl)
theorem dX11_sure_1 : decode cX11_sure 1 = .ok (.iload_n 1, 1) := dq_27 (kX11_sure_0 1 rfl)
theorem dX11_sure_2 : decode cX11_sure 2 = .ok (.iconst 4, 1) := dq_7 (kX11_sure_0 2 rfl)
theorem dX11_sure_3 : decode cX11_sure 3 = .ok (.invokevirtual 169, 3) := dq_182 (kX11_sure_0 3 rfl) (kX11_sure_0 4 rfl) (kX11_sure_0 5 rfl) rfl
theorem dX11_sure_6 : decode cX11_sure 6 = .ok (.astore_n 2, 1) := dq_77 (kX11_sure_0 6 rfl)
theorem dX11_sure_7 : decode cX11_sure 7 = .ok (.aload_n 2, 1) := dq_44 (kX11_sure_0 7 rfl)
theorem dX11_sure_8 : decode cX11_sure 8 = .ok (.ifnonnull 7, 3) := dq_199 (kX11_sure_0 8 rfl) (kX11_sure_0 9 rfl) (kX11_sure_0 10 rfl) (by decide)
theorem dX11_sure_11 : decode cX11_sure 11 = .ok (.iconst (-1), 1) := dq_2 (kX11_sure_0 11 rfl)
theorem dX11_sure_12 : decode cX11_sure 12 = .ok (.goto 7, 3) := dq_167 (kX11_sure_0 12 rfl) (kX11_sure_0 13 rfl) (kX11_sure_0 14 rfl) (by decide)
theorem dX11_sure_15 : decode cX11_sure 15 = .ok (.aload_n 2, 1) := dq_44 (kX11_sure_0 15 rfl)
theorem dX11_sure_16 : decode cX11_sure 16 = .ok (.invokevirtual 482, 3) := dq_182 (kX11_sure_0 16 rfl) (kX11_sure_0 17 rfl) (kX11_sure_0 18 rfl) rfl
theorem dX11_sure_19 : decode cX11_sure 19 = .ok (.ireturn, 1) := dq_172 (kX11_sure_0 19 rfl)

def bX11_drill_0 : List UInt8 := [42, 27, 7, 182, 0, 169, 78, 42, 28, 182, 1, 53, 58, 4, 45, 198, 0, 29, 25, 4, 198, 0, 24, 25, 4, 180, 1, 119, 5, 160, 0, 15]
theorem kX11_drill_0 (j : Nat) {b : UInt8} (hj : bX11_drill_0[j]? = some b) : AtB cX11_drill (0 + j) b := at_of32 (by decide +kernel) j hj
def bX11_drill_1 : List UInt8 := [25, 4, 180, 1, 122, 45, 180, 1, 88, 159, 0, 5, 2, 172, 42, 180, 0, 79, 27, 28, 3, 3, 3, 182, 0, 205, 172]
theorem kX11_drill_1 (j : Nat) {b : UInt8} (hj : bX11_drill_1[j]? = some b) : AtB cX11_drill (32 + j) b := at_of32 (by decide +kernel) j hj
theorem dX11_drill_0 : decode cX11_drill 0 = .ok (.aload_n 0, 1) := dq_42 (kX11_drill_0 0 rfl)
theorem dX11_drill_1 : decode cX11_drill 1 = .ok (.iload_n 1, 1) := dq_27 (kX11_drill_0 1 rfl)
theorem dX11_drill_2 : decode cX11_drill 2 = .ok (.iconst 4, 1) := dq_7 (kX11_drill_0 2 rfl)
theorem dX11_drill_3 : decode cX11_drill 3 = .ok (.invokevirtual 169, 3) := dq_182 (kX11_drill_0 3 rfl) (kX11_drill_0 4 rfl) (kX11_drill_0 5 rfl) rfl
theorem dX11_drill_6 : decode cX11_drill 6 = .ok (.astore_n 3, 1) := dq_78 (kX11_drill_0 6 rfl)
theorem dX11_drill_7 : decode cX11_drill 7 = .ok (.aload_n 0, 1) := dq_42 (kX11_drill_0 7 rfl)
theorem dX11_drill_8 : decode cX11_drill 8 = .ok (.iload_n 2, 1) := dq_28 (kX11_drill_0 8 rfl)
theorem dX11_drill_9 : decode cX11_drill 9 = .ok (.invokevirtual 309, 3) := dq_182 (kX11_drill_0 9 rfl) (kX11_drill_0 10 rfl) (kX11_drill_0 11 rfl) rfl
theorem dX11_drill_12 : decode cX11_drill 12 = .ok (.astore 4, 2) := dq_58 (kX11_drill_0 12 rfl) (kX11_drill_0 13 rfl) rfl
theorem dX11_drill_14 : decode cX11_drill 14 = .ok (.aload_n 3, 1) := dq_45 (kX11_drill_0 14 rfl)
theorem dX11_drill_15 : decode cX11_drill 15 = .ok (.ifnull 29, 3) := dq_198 (kX11_drill_0 15 rfl) (kX11_drill_0 16 rfl) (kX11_drill_0 17 rfl) (by decide)
theorem dX11_drill_18 : decode cX11_drill 18 = .ok (.aload 4, 2) := dq_25 (kX11_drill_0 18 rfl) (kX11_drill_0 19 rfl) rfl
theorem dX11_drill_20 : decode cX11_drill 20 = .ok (.ifnull 24, 3) := dq_198 (kX11_drill_0 20 rfl) (kX11_drill_0 21 rfl) (kX11_drill_0 22 rfl) (by decide)
theorem dX11_drill_23 : decode cX11_drill 23 = .ok (.aload 4, 2) := dq_25 (kX11_drill_0 23 rfl) (kX11_drill_0 24 rfl) rfl
theorem dX11_drill_25 : decode cX11_drill 25 = .ok (.getfield 375, 3) := dq_180 (kX11_drill_0 25 rfl) (kX11_drill_0 26 rfl) (kX11_drill_0 27 rfl) rfl
theorem dX11_drill_28 : decode cX11_drill 28 = .ok (.iconst 2, 1) := dq_5 (kX11_drill_0 28 rfl)
theorem dX11_drill_29 : decode cX11_drill 29 = .ok (.if_icmp .ne 15, 3) := dq_160 (kX11_drill_0 29 rfl) (kX11_drill_0 30 rfl) (kX11_drill_0 31 rfl) (by decide)
theorem dX11_drill_32 : decode cX11_drill 32 = .ok (.aload 4, 2) := dq_25 (kX11_drill_1 0 rfl) (kX11_drill_1 1 rfl) rfl
theorem dX11_drill_34 : decode cX11_drill 34 = .ok (.getfield 378, 3) := dq_180 (kX11_drill_1 2 rfl) (kX11_drill_1 3 rfl) (kX11_drill_1 4 rfl) rfl
theorem dX11_drill_37 : decode cX11_drill 37 = .ok (.aload_n 3, 1) := dq_45 (kX11_drill_1 5 rfl)
theorem dX11_drill_38 : decode cX11_drill 38 = .ok (.getfield 344, 3) := dq_180 (kX11_drill_1 6 rfl) (kX11_drill_1 7 rfl) (kX11_drill_1 8 rfl) rfl
theorem dX11_drill_41 : decode cX11_drill 41 = .ok (.if_icmp .eq 5, 3) := dq_159 (kX11_drill_1 9 rfl) (kX11_drill_1 10 rfl) (kX11_drill_1 11 rfl) (by decide)
theorem dX11_drill_44 : decode cX11_drill 44 = .ok (.iconst (-1), 1) := dq_2 (kX11_drill_1 12 rfl)
theorem dX11_drill_45 : decode cX11_drill 45 = .ok (.ireturn, 1) := dq_172 (kX11_drill_1 13 rfl)
theorem dX11_drill_46 : decode cX11_drill 46 = .ok (.aload_n 0, 1) := dq_42 (kX11_drill_1 14 rfl)
theorem dX11_drill_47 : decode cX11_drill 47 = .ok (.getfield 79, 3) := dq_180 (kX11_drill_1 15 rfl) (kX11_drill_1 16 rfl) (kX11_drill_1 17 rfl) rfl
theorem dX11_drill_50 : decode cX11_drill 50 = .ok (.iload_n 1, 1) := dq_27 (kX11_drill_1 18 rfl)
theorem dX11_drill_51 : decode cX11_drill 51 = .ok (.iload_n 2, 1) := dq_28 (kX11_drill_1 19 rfl)
theorem dX11_drill_52 : decode cX11_drill 52 = .ok (.iconst 0, 1) := dq_3 (kX11_drill_1 20 rfl)
theorem dX11_drill_53 : decode cX11_drill 53 = .ok (.iconst 0, 1) := dq_3 (kX11_drill_1 21 rfl)
theorem dX11_drill_54 : decode cX11_drill 54 = .ok (.iconst 0, 1) := dq_3 (kX11_drill_1 22 rfl)
theorem dX11_drill_55 : decode cX11_drill 55 = .ok (.invokevirtual 205, 3) := dq_182 (kX11_drill_1 23 rfl) (kX11_drill_1 24 rfl) (kX11_drill_1 25 rfl) rfl
theorem dX11_drill_58 : decode cX11_drill 58 = .ok (.ireturn, 1) := dq_172 (kX11_drill_1 26 rfl)

def bX11_speed_0 : List UInt8 := [27, 2, 160, 0, 26, 28, 3, 17, 3, 232, 184, 0, 112, 153, 0, 15, 42, 180, 0, 94, 16, 10, 28, 184, 0, 108, 4, 172, 27, 3, 16, 9]
theorem kX11_speed_0 (j : Nat) {b : UInt8} (hj : bX11_speed_0[j]? = some b) : AtB cX11_speed (0 + j) b := at_of32 (by decide +kernel) j hj
def bX11_speed_1 : List UInt8 := [184, 0, 112, 153, 0, 25, 28, 4, 17, 0, 200, 184, 0, 112, 153, 0, 14, 42, 180, 0, 94, 27, 28, 184, 0, 108, 4, 172, 3, 172]
theorem kX11_speed_1 (j : Nat) {b : UInt8} (hj : bX11_speed_1[j]? = some b) : AtB cX11_speed (32 + j) b := at_of32 (by decide +kernel) j hj
theorem dX11_speed_0 : decode cX11_speed 0 = .ok (.iload_n 1, 1) := dq_27 (kX11_speed_0 0 rfl)
theorem dX11_speed_1 : decode cX11_speed 1 = .ok (.iconst (-1), 1) := dq_2 (kX11_speed_0 1 rfl)
theorem dX11_speed_2 : decode cX11_speed 2 = .ok (.if_icmp .ne 26, 3) := dq_160 (kX11_speed_0 2 rfl) (kX11_speed_0 3 rfl) (kX11_speed_0 4 rfl) (by decide)
theorem dX11_speed_5 : decode cX11_speed 5 = .ok (.iload_n 2, 1) := dq_28 (kX11_speed_0 5 rfl)
theorem dX11_speed_6 : decode cX11_speed 6 = .ok (.iconst 0, 1) := dq_3 (kX11_speed_0 6 rfl)
theorem dX11_speed_7 : decode cX11_speed 7 = .ok (.sipush 1000, 3) := dq_17 (kX11_speed_0 7 rfl) (kX11_speed_0 8 rfl) (kX11_speed_0 9 rfl) (by decide)
theorem dX11_speed_10 : decode cX11_speed 10 = .ok (.invokestatic 112, 3) := dq_184 (kX11_speed_0 10 rfl) (kX11_speed_0 11 rfl) (kX11_speed_0 12 rfl) rfl
theorem dX11_speed_13 : decode cX11_speed 13 = .ok (.ifCond .eq 15, 3) := dq_153 (kX11_speed_0 13 rfl) (kX11_speed_0 14 rfl) (kX11_speed_0 15 rfl) (by decide)
theorem dX11_speed_16 : decode cX11_speed 16 = .ok (.aload_n 0, 1) := dq_42 (kX11_speed_0 16 rfl)
theorem dX11_speed_17 : decode cX11_speed 17 = .ok (.getfield 94, 3) := dq_180 (kX11_speed_0 17 rfl) (kX11_speed_0 18 rfl) (kX11_speed_0 19 rfl) rfl
theorem dX11_speed_20 : decode cX11_speed 20 = .ok (.bipush 10, 2) := dq_16 (kX11_speed_0 20 rfl) (kX11_speed_0 21 rfl) (by decide)
theorem dX11_speed_22 : decode cX11_speed 22 = .ok (.iload_n 2, 1) := dq_28 (kX11_speed_0 22 rfl)
theorem dX11_speed_23 : decode cX11_speed 23 = .ok (.invokestatic 108, 3) := dq_184 (kX11_speed_0 23 rfl) (kX11_speed_0 24 rfl) (kX11_speed_0 25 rfl) rfl
theorem dX11_speed_26 : decode cX11_speed 26 = .ok (.iconst 1, 1) := dq_4 (kX11_speed_0 26 rfl)
theorem dX11_speed_27 : decode cX11_speed 27 = .ok (.ireturn, 1) := dq_172 (kX11_speed_0 27 rfl)
theorem dX11_speed_28 : decode cX11_speed 28 = .ok (.iload_n 1, 1) := dq_27 (kX11_speed_0 28 rfl)
theorem dX11_speed_29 : decode cX11_speed 29 = .ok (.iconst 0, 1) := dq_3 (kX11_speed_0 29 rfl)
theorem dX11_speed_30 : decode cX11_speed 30 = .ok (.bipush 9, 2) := dq_16 (kX11_speed_0 30 rfl) (kX11_speed_0 31 rfl) (by decide)
theorem dX11_speed_32 : decode cX11_speed 32 = .ok (.invokestatic 112, 3) := dq_184 (kX11_speed_1 0 rfl) (kX11_speed_1 1 rfl) (kX11_speed_1 2 rfl) rfl
theorem dX11_speed_35 : decode cX11_speed 35 = .ok (.ifCond .eq 25, 3) := dq_153 (kX11_speed_1 3 rfl) (kX11_speed_1 4 rfl) (kX11_speed_1 5 rfl) (by decide)
theorem dX11_speed_38 : decode cX11_speed 38 = .ok (.iload_n 2, 1) := dq_28 (kX11_speed_1 6 rfl)
theorem dX11_speed_39 : decode cX11_speed 39 = .ok (.iconst 1, 1) := dq_4 (kX11_speed_1 7 rfl)
theorem dX11_speed_40 : decode cX11_speed 40 = .ok (.sipush 200, 3) := dq_17 (kX11_speed_1 8 rfl) (kX11_speed_1 9 rfl) (kX11_speed_1 10 rfl) (by decide)
theorem dX11_speed_43 : decode cX11_speed 43 = .ok (.invokestatic 112, 3) := dq_184 (kX11_speed_1 11 rfl) (kX11_speed_1 12 rfl) (kX11_speed_1 13 rfl) rfl
theorem dX11_speed_46 : decode cX11_speed 46 = .ok (.ifCond .eq 14, 3) := dq_153 (kX11_speed_1 14 rfl) (kX11_speed_1 15 rfl) (kX11_speed_1 16 rfl) (by decide)
theorem dX11_speed_49 : decode cX11_speed 49 = .ok (.aload_n 0, 1) := dq_42 (kX11_speed_1 17 rfl)
theorem dX11_speed_50 : decode cX11_speed 50 = .ok (.getfield 94, 3) := dq_180 (kX11_speed_1 18 rfl) (kX11_speed_1 19 rfl) (kX11_speed_1 20 rfl) rfl
theorem dX11_speed_53 : decode cX11_speed 53 = .ok (.iload_n 1, 1) := dq_27 (kX11_speed_1 21 rfl)
theorem dX11_speed_54 : decode cX11_speed 54 = .ok (.iload_n 2, 1) := dq_28 (kX11_speed_1 22 rfl)
theorem dX11_speed_55 : decode cX11_speed 55 = .ok (.invokestatic 108, 3) := dq_184 (kX11_speed_1 23 rfl) (kX11_speed_1 24 rfl) (kX11_speed_1 25 rfl) rfl
theorem dX11_speed_58 : decode cX11_speed 58 = .ok (.iconst 1, 1) := dq_4 (kX11_speed_1 26 rfl)
theorem dX11_speed_59 : decode cX11_speed 59 = .ok (.ireturn, 1) := dq_172 (kX11_speed_1 27 rfl)
theorem dX11_speed_60 : decode cX11_speed 60 = .ok (.iconst 0, 1) := dq_3 (kX11_speed_1 28 rfl)
theorem dX11_speed_61 : decode cX11_speed 61 = .ok (.ireturn, 1) := dq_172 (kX11_speed_1 29 rfl)

def bX11_birds_0 : List UInt8 := [42, 27, 8, 182, 0, 169, 58, 4, 25, 4, 198, 0, 20, 28, 184, 2, 47, 153, 0, 13, 29, 3, 18, 182, 184, 0, 112, 154, 0, 5, 3, 172]
theorem kX11_birds_0 (j : Nat) {b : UInt8} (hj : bX11_birds_0[j]? = some b) : AtB cX11_birds (0 + j) b := at_of32 (by decide +kernel) j hj
def bX11_birds_1 : List UInt8 := [25, 4, 180, 1, 235, 28, 29, 184, 0, 108, 4, 172]
theorem kX11_birds_1 (j : Nat) {b : UInt8} (hj : bX11_birds_1[j]? = some b) : AtB cX11_birds (32 + j) b := at_of32 (by decide +kernel) j hj
theorem dX11_birds_0 : decode cX11_birds 0 = .ok (.aload_n 0, 1) := dq_42 (kX11_birds_0 0 rfl)
theorem dX11_birds_1 : decode cX11_birds 1 = .ok (.iload_n 1, 1) := dq_27 (kX11_birds_0 1 rfl)
theorem dX11_birds_2 : decode cX11_birds 2 = .ok (.iconst 5, 1) := dq_8 (kX11_birds_0 2 rfl)
theorem dX11_birds_3 : decode cX11_birds 3 = .ok (.invokevirtual 169, 3) := dq_182 (kX11_birds_0 3 rfl) (kX11_birds_0 4 rfl) (kX11_birds_0 5 rfl) rfl
theorem dX11_birds_6 : decode cX11_birds 6 = .ok (.astore 4, 2) := dq_58 (kX11_birds_0 6 rfl) (kX11_birds_0 7 rfl) rfl
theorem dX11_birds_8 : decode cX11_birds 8 = .ok (.aload 4, 2) := dq_25 (kX11_birds_0 8 rfl) (kX11_birds_0 9 rfl) rfl
theorem dX11_birds_10 : decode cX11_birds 10 = .ok (.ifnull 20, 3) := dq_198 (kX11_birds_0 10 rfl) (kX11_birds_0 11 rfl) (kX11_birds_0 12 rfl) (by decide)
theorem dX11_birds_13 : decode cX11_birds 13 = .ok (.iload_n 2, 1) := dq_28 (kX11_birds_0 13 rfl)
theorem dX11_birds_14 : decode cX11_birds 14 = .ok (.invokestatic 559, 3) := dq_184 (kX11_birds_0 14 rfl) (kX11_birds_0 15 rfl) (kX11_birds_0 16 rfl) rfl
theorem dX11_birds_17 : decode cX11_birds 17 = .ok (.ifCond .eq 13, 3) := dq_153 (kX11_birds_0 17 rfl) (kX11_birds_0 18 rfl) (kX11_birds_0 19 rfl) (by decide)
theorem dX11_birds_20 : decode cX11_birds 20 = .ok (.iload_n 3, 1) := dq_29 (kX11_birds_0 20 rfl)
theorem dX11_birds_21 : decode cX11_birds 21 = .ok (.iconst 0, 1) := dq_3 (kX11_birds_0 21 rfl)
theorem dX11_birds_22 : decode cX11_birds 22 = .ok (.ldc 182, 2) := dq_18 (kX11_birds_0 22 rfl) (kX11_birds_0 23 rfl) rfl
theorem dX11_birds_24 : decode cX11_birds 24 = .ok (.invokestatic 112, 3) := dq_184 (kX11_birds_0 24 rfl) (kX11_birds_0 25 rfl) (kX11_birds_0 26 rfl) rfl
theorem dX11_birds_27 : decode cX11_birds 27 = .ok (.ifCond .ne 5, 3) := dq_154 (kX11_birds_0 27 rfl) (kX11_birds_0 28 rfl) (kX11_birds_0 29 rfl) (by decide)
theorem dX11_birds_30 : decode cX11_birds 30 = .ok (.iconst 0, 1) := dq_3 (kX11_birds_0 30 rfl)
theorem dX11_birds_31 : decode cX11_birds 31 = .ok (.ireturn, 1) := dq_172 (kX11_birds_0 31 rfl)
theorem dX11_birds_32 : decode cX11_birds 32 = .ok (.aload 4, 2) := dq_25 (kX11_birds_1 0 rfl) (kX11_birds_1 1 rfl) rfl
theorem dX11_birds_34 : decode cX11_birds 34 = .ok (.getfield 491, 3) := dq_180 (kX11_birds_1 2 rfl) (kX11_birds_1 3 rfl) (kX11_birds_1 4 rfl) rfl
theorem dX11_birds_37 : decode cX11_birds 37 = .ok (.iload_n 2, 1) := dq_28 (kX11_birds_1 5 rfl)
theorem dX11_birds_38 : decode cX11_birds 38 = .ok (.iload_n 3, 1) := dq_29 (kX11_birds_1 6 rfl)
theorem dX11_birds_39 : decode cX11_birds 39 = .ok (.invokestatic 108, 3) := dq_184 (kX11_birds_1 7 rfl) (kX11_birds_1 8 rfl) (kX11_birds_1 9 rfl) rfl
theorem dX11_birds_42 : decode cX11_birds 42 = .ok (.iconst 1, 1) := dq_4 (kX11_birds_1 10 rfl)
theorem dX11_birds_43 : decode cX11_birds 43 = .ok (.ireturn, 1) := dq_172 (kX11_birds_1 11 rfl)

def bX11_loss_0 : List UInt8 := [42, 27, 8, 182, 0, 169, 58, 6, 25, 6, 198, 0, 43, 28, 184, 2, 47, 153, 0, 36, 29, 184, 2, 47, 153, 0, 29, 28, 29, 162, 0, 24]
theorem kX11_loss_0 (j : Nat) {b : UInt8} (hj : bX11_loss_0[j]? = some b) : AtB cX11_loss (0 + j) b := at_of32 (by decide +kernel) j hj
def bX11_loss_1 : List UInt8 := [21, 4, 3, 16, 99, 184, 0, 112, 153, 0, 13, 21, 5, 3, 4, 184, 0, 112, 154, 0, 7, 19, 1, 178, 172, 25, 6, 180, 1, 235, 28, 184]
theorem kX11_loss_1 (j : Nat) {b : UInt8} (hj : bX11_loss_1[j]? = some b) : AtB cX11_loss (32 + j) b := at_of32 (by decide +kernel) j hj
def bX11_loss_2 : List UInt8 := [0, 253, 54, 7, 25, 6, 180, 1, 235, 29, 184, 0, 253, 54, 8, 21, 7, 2, 159, 0, 9, 21, 8, 2, 160, 0, 7, 19, 1, 178, 172, 21]
theorem kX11_loss_2 (j : Nat) {b : UInt8} (hj : bX11_loss_2[j]? = some b) : AtB cX11_loss (64 + j) b := at_of32 (by decide +kernel) j hj
def bX11_loss_3 : List UInt8 := [7, 21, 4, 104, 16, 99, 96, 16, 100, 108, 21, 8, 21, 4, 104, 16, 99, 96, 16, 100, 108, 96, 54, 9, 21, 7, 21, 8, 100, 21, 5, 154]
theorem kX11_loss_3 (j : Nat) {b : UInt8} (hj : bX11_loss_3[j]? = some b) : AtB cX11_loss (96 + j) b := at_of32 (by decide +kernel) j hj
def bX11_loss_4 : List UInt8 := [0, 9, 21, 9, 116, 167, 0, 5, 21, 9, 96, 172]
theorem kX11_loss_4 (j : Nat) {b : UInt8} (hj : bX11_loss_4[j]? = some b) : AtB cX11_loss (128 + j) b := at_of32 (by decide +kernel) j hj
theorem dX11_loss_0 : decode cX11_loss 0 = .ok (.aload_n 0, 1) := dq_42 (kX11_loss_0 0 rfl)
theorem dX11_loss_1 : decode cX11_loss 1 = .ok (.iload_n 1, 1) := dq_27 (kX11_loss_0 1 rfl)
theorem dX11_loss_2 : decode cX11_loss 2 = .ok (.iconst 5, 1) := dq_8 (kX11_loss_0 2 rfl)
theorem dX11_loss_3 : decode cX11_loss 3 = .ok (.invokevirtual 169, 3) := dq_182 (kX11_loss_0 3 rfl) (kX11_loss_0 4 rfl) (kX11_loss_0 5 rfl) rfl
theorem dX11_loss_6 : decode cX11_loss 6 = .ok (.astore 6, 2) := dq_58 (kX11_loss_0 6 rfl) (kX11_loss_0 7 rfl) rfl
theorem dX11_loss_8 : decode cX11_loss 8 = .ok (.aload 6, 2) := dq_25 (kX11_loss_0 8 rfl) (kX11_loss_0 9 rfl) rfl
theorem dX11_loss_10 : decode cX11_loss 10 = .ok (.ifnull 43, 3) := dq_198 (kX11_loss_0 10 rfl) (kX11_loss_0 11 rfl) (kX11_loss_0 12 rfl) (by decide)
theorem dX11_loss_13 : decode cX11_loss 13 = .ok (.iload_n 2, 1) := dq_28 (kX11_loss_0 13 rfl)
theorem dX11_loss_14 : decode cX11_loss 14 = .ok (.invokestatic 559, 3) := dq_184 (kX11_loss_0 14 rfl) (kX11_loss_0 15 rfl) (kX11_loss_0 16 rfl) rfl
theorem dX11_loss_17 : decode cX11_loss 17 = .ok (.ifCond .eq 36, 3) := dq_153 (kX11_loss_0 17 rfl) (kX11_loss_0 18 rfl) (kX11_loss_0 19 rfl) (by decide)
theorem dX11_loss_20 : decode cX11_loss 20 = .ok (.iload_n 3, 1) := dq_29 (kX11_loss_0 20 rfl)
theorem dX11_loss_21 : decode cX11_loss 21 = .ok (.invokestatic 559, 3) := dq_184 (kX11_loss_0 21 rfl) (kX11_loss_0 22 rfl) (kX11_loss_0 23 rfl) rfl
theorem dX11_loss_24 : decode cX11_loss 24 = .ok (.ifCond .eq 29, 3) := dq_153 (kX11_loss_0 24 rfl) (kX11_loss_0 25 rfl) (kX11_loss_0 26 rfl) (by decide)
theorem dX11_loss_27 : decode cX11_loss 27 = .ok (.iload_n 2, 1) := dq_28 (kX11_loss_0 27 rfl)
theorem dX11_loss_28 : decode cX11_loss 28 = .ok (.iload_n 3, 1) := dq_29 (kX11_loss_0 28 rfl)
theorem dX11_loss_29 : decode cX11_loss 29 = .ok (.if_icmp .ge 24, 3) := dq_162 (kX11_loss_0 29 rfl) (kX11_loss_0 30 rfl) (kX11_loss_0 31 rfl) (by decide)
theorem dX11_loss_32 : decode cX11_loss 32 = .ok (.iload 4, 2) := dq_21 (kX11_loss_1 0 rfl) (kX11_loss_1 1 rfl) rfl
theorem dX11_loss_34 : decode cX11_loss 34 = .ok (.iconst 0, 1) := dq_3 (kX11_loss_1 2 rfl)
theorem dX11_loss_35 : decode cX11_loss 35 = .ok (.bipush 99, 2) := dq_16 (kX11_loss_1 3 rfl) (kX11_loss_1 4 rfl) (by decide)
theorem dX11_loss_37 : decode cX11_loss 37 = .ok (.invokestatic 112, 3) := dq_184 (kX11_loss_1 5 rfl) (kX11_loss_1 6 rfl) (kX11_loss_1 7 rfl) rfl
theorem dX11_loss_40 : decode cX11_loss 40 = .ok (.ifCond .eq 13, 3) := dq_153 (kX11_loss_1 8 rfl) (kX11_loss_1 9 rfl) (kX11_loss_1 10 rfl) (by decide)
theorem dX11_loss_43 : decode cX11_loss 43 = .ok (.iload 5, 2) := dq_21 (kX11_loss_1 11 rfl) (kX11_loss_1 12 rfl) rfl
theorem dX11_loss_45 : decode cX11_loss 45 = .ok (.iconst 0, 1) := dq_3 (kX11_loss_1 13 rfl)
theorem dX11_loss_46 : decode cX11_loss 46 = .ok (.iconst 1, 1) := dq_4 (kX11_loss_1 14 rfl)
theorem dX11_loss_47 : decode cX11_loss 47 = .ok (.invokestatic 112, 3) := dq_184 (kX11_loss_1 15 rfl) (kX11_loss_1 16 rfl) (kX11_loss_1 17 rfl) rfl
theorem dX11_loss_50 : decode cX11_loss 50 = .ok (.ifCond .ne 7, 3) := dq_154 (kX11_loss_1 18 rfl) (kX11_loss_1 19 rfl) (kX11_loss_1 20 rfl) (by decide)
theorem dX11_loss_53 : decode cX11_loss 53 = .ok (.ldc_w 434, 3) := dq_19 (kX11_loss_1 21 rfl) (kX11_loss_1 22 rfl) (kX11_loss_1 23 rfl) rfl
theorem dX11_loss_56 : decode cX11_loss 56 = .ok (.ireturn, 1) := dq_172 (kX11_loss_1 24 rfl)
theorem dX11_loss_57 : decode cX11_loss 57 = .ok (.aload 6, 2) := dq_25 (kX11_loss_1 25 rfl) (kX11_loss_1 26 rfl) rfl
theorem dX11_loss_59 : decode cX11_loss 59 = .ok (.getfield 491, 3) := dq_180 (kX11_loss_1 27 rfl) (kX11_loss_1 28 rfl) (kX11_loss_1 29 rfl) rfl
theorem dX11_loss_62 : decode cX11_loss 62 = .ok (.iload_n 2, 1) := dq_28 (kX11_loss_1 30 rfl)
theorem dX11_loss_63 : decode cX11_loss 63 = .ok (.invokestatic 253, 3) := dq_184 (kX11_loss_1 31 rfl) (kX11_loss_2 0 rfl) (kX11_loss_2 1 rfl) rfl
theorem dX11_loss_66 : decode cX11_loss 66 = .ok (.istore 7, 2) := dq_54 (kX11_loss_2 2 rfl) (kX11_loss_2 3 rfl) rfl
theorem dX11_loss_68 : decode cX11_loss 68 = .ok (.aload 6, 2) := dq_25 (kX11_loss_2 4 rfl) (kX11_loss_2 5 rfl) rfl
theorem dX11_loss_70 : decode cX11_loss 70 = .ok (.getfield 491, 3) := dq_180 (kX11_loss_2 6 rfl) (kX11_loss_2 7 rfl) (kX11_loss_2 8 rfl) rfl
theorem dX11_loss_73 : decode cX11_loss 73 = .ok (.iload_n 3, 1) := dq_29 (kX11_loss_2 9 rfl)
theorem dX11_loss_74 : decode cX11_loss 74 = .ok (.invokestatic 253, 3) := dq_184 (kX11_loss_2 10 rfl) (kX11_loss_2 11 rfl) (kX11_loss_2 12 rfl) rfl
theorem dX11_loss_77 : decode cX11_loss 77 = .ok (.istore 8, 2) := dq_54 (kX11_loss_2 13 rfl) (kX11_loss_2 14 rfl) rfl
theorem dX11_loss_79 : decode cX11_loss 79 = .ok (.iload 7, 2) := dq_21 (kX11_loss_2 15 rfl) (kX11_loss_2 16 rfl) rfl
theorem dX11_loss_81 : decode cX11_loss 81 = .ok (.iconst (-1), 1) := dq_2 (kX11_loss_2 17 rfl)
theorem dX11_loss_82 : decode cX11_loss 82 = .ok (.if_icmp .eq 9, 3) := dq_159 (kX11_loss_2 18 rfl) (kX11_loss_2 19 rfl) (kX11_loss_2 20 rfl) (by decide)
theorem dX11_loss_85 : decode cX11_loss 85 = .ok (.iload 8, 2) := dq_21 (kX11_loss_2 21 rfl) (kX11_loss_2 22 rfl) rfl
theorem dX11_loss_87 : decode cX11_loss 87 = .ok (.iconst (-1), 1) := dq_2 (kX11_loss_2 23 rfl)
theorem dX11_loss_88 : decode cX11_loss 88 = .ok (.if_icmp .ne 7, 3) := dq_160 (kX11_loss_2 24 rfl) (kX11_loss_2 25 rfl) (kX11_loss_2 26 rfl) (by decide)
theorem dX11_loss_91 : decode cX11_loss 91 = .ok (.ldc_w 434, 3) := dq_19 (kX11_loss_2 27 rfl) (kX11_loss_2 28 rfl) (kX11_loss_2 29 rfl) rfl
theorem dX11_loss_94 : decode cX11_loss 94 = .ok (.ireturn, 1) := dq_172 (kX11_loss_2 30 rfl)
theorem dX11_loss_95 : decode cX11_loss 95 = .ok (.iload 7, 2) := dq_21 (kX11_loss_2 31 rfl) (kX11_loss_3 0 rfl) rfl
theorem dX11_loss_97 : decode cX11_loss 97 = .ok (.iload 4, 2) := dq_21 (kX11_loss_3 1 rfl) (kX11_loss_3 2 rfl) rfl
theorem dX11_loss_99 : decode cX11_loss 99 = .ok (.imul, 1) := dq_104 (kX11_loss_3 3 rfl)
theorem dX11_loss_100 : decode cX11_loss 100 = .ok (.bipush 99, 2) := dq_16 (kX11_loss_3 4 rfl) (kX11_loss_3 5 rfl) (by decide)
theorem dX11_loss_102 : decode cX11_loss 102 = .ok (.iadd, 1) := dq_96 (kX11_loss_3 6 rfl)
theorem dX11_loss_103 : decode cX11_loss 103 = .ok (.bipush 100, 2) := dq_16 (kX11_loss_3 7 rfl) (kX11_loss_3 8 rfl) (by decide)
theorem dX11_loss_105 : decode cX11_loss 105 = .ok (.idiv, 1) := dq_108 (kX11_loss_3 9 rfl)
theorem dX11_loss_106 : decode cX11_loss 106 = .ok (.iload 8, 2) := dq_21 (kX11_loss_3 10 rfl) (kX11_loss_3 11 rfl) rfl
theorem dX11_loss_108 : decode cX11_loss 108 = .ok (.iload 4, 2) := dq_21 (kX11_loss_3 12 rfl) (kX11_loss_3 13 rfl) rfl
theorem dX11_loss_110 : decode cX11_loss 110 = .ok (.imul, 1) := dq_104 (kX11_loss_3 14 rfl)
theorem dX11_loss_111 : decode cX11_loss 111 = .ok (.bipush 99, 2) := dq_16 (kX11_loss_3 15 rfl) (kX11_loss_3 16 rfl) (by decide)
theorem dX11_loss_113 : decode cX11_loss 113 = .ok (.iadd, 1) := dq_96 (kX11_loss_3 17 rfl)
theorem dX11_loss_114 : decode cX11_loss 114 = .ok (.bipush 100, 2) := dq_16 (kX11_loss_3 18 rfl) (kX11_loss_3 19 rfl) (by decide)
theorem dX11_loss_116 : decode cX11_loss 116 = .ok (.idiv, 1) := dq_108 (kX11_loss_3 20 rfl)
theorem dX11_loss_117 : decode cX11_loss 117 = .ok (.iadd, 1) := dq_96 (kX11_loss_3 21 rfl)
theorem dX11_loss_118 : decode cX11_loss 118 = .ok (.istore 9, 2) := dq_54 (kX11_loss_3 22 rfl) (kX11_loss_3 23 rfl) rfl
theorem dX11_loss_120 : decode cX11_loss 120 = .ok (.iload 7, 2) := dq_21 (kX11_loss_3 24 rfl) (kX11_loss_3 25 rfl) rfl
theorem dX11_loss_122 : decode cX11_loss 122 = .ok (.iload 8, 2) := dq_21 (kX11_loss_3 26 rfl) (kX11_loss_3 27 rfl) rfl
theorem dX11_loss_124 : decode cX11_loss 124 = .ok (.isub, 1) := dq_100 (kX11_loss_3 28 rfl)
theorem dX11_loss_125 : decode cX11_loss 125 = .ok (.iload 5, 2) := dq_21 (kX11_loss_3 29 rfl) (kX11_loss_3 30 rfl) rfl
theorem dX11_loss_127 : decode cX11_loss 127 = .ok (.ifCond .ne 9, 3) := dq_154 (kX11_loss_3 31 rfl) (kX11_loss_4 0 rfl) (kX11_loss_4 1 rfl) (by decide)
theorem dX11_loss_130 : decode cX11_loss 130 = .ok (.iload 9, 2) := dq_21 (kX11_loss_4 2 rfl) (kX11_loss_4 3 rfl) rfl
theorem dX11_loss_132 : decode cX11_loss 132 = .ok (.ineg, 1) := dq_116 (kX11_loss_4 4 rfl)
theorem dX11_loss_133 : decode cX11_loss 133 = .ok (.goto 5, 3) := dq_167 (kX11_loss_4 5 rfl) (kX11_loss_4 6 rfl) (kX11_loss_4 7 rfl) (by decide)
theorem dX11_loss_136 : decode cX11_loss 136 = .ok (.iload 9, 2) := dq_21 (kX11_loss_4 8 rfl) (kX11_loss_4 9 rfl) rfl
theorem dX11_loss_138 : decode cX11_loss 138 = .ok (.iadd, 1) := dq_96 (kX11_loss_4 10 rfl)
theorem dX11_loss_139 : decode cX11_loss 139 = .ok (.ireturn, 1) := dq_172 (kX11_loss_4 11 rfl)

def bX11_noise_0 : List UInt8 := [42, 27, 8, 182, 0, 169, 78, 45, 198, 0, 10, 28, 184, 2, 47, 154, 0, 7, 2, 167, 0, 11, 45, 180, 1, 217, 28, 184, 0, 253, 172]
theorem kX11_noise_0 (j : Nat) {b : UInt8} (hj : bX11_noise_0[j]? = some b) : AtB cX11_noise (0 + j) b := at_of32 (by decide +kernel) j hj
theorem dX11_noise_0 : decode cX11_noise 0 = .ok (.aload_n 0, 1) := dq_42 (kX11_noise_0 0 rfl)
theorem dX11_noise_1 : decode cX11_noise 1 = .ok (.iload_n 1, 1) := dq_27 (kX11_noise_0 1 rfl)
theorem dX11_noise_2 : decode cX11_noise 2 = .ok (.iconst 5, 1) := dq_8 (kX11_noise_0 2 rfl)
theorem dX11_noise_3 : decode cX11_noise 3 = .ok (.invokevirtual 169, 3) := dq_182 (kX11_noise_0 3 rfl) (kX11_noise_0 4 rfl) (kX11_noise_0 5 rfl) rfl
theorem dX11_noise_6 : decode cX11_noise 6 = .ok (.astore_n 3, 1) := dq_78 (kX11_noise_0 6 rfl)
theorem dX11_noise_7 : decode cX11_noise 7 = .ok (.aload_n 3, 1) := dq_45 (kX11_noise_0 7 rfl)
theorem dX11_noise_8 : decode cX11_noise 8 = .ok (.ifnull 10, 3) := dq_198 (kX11_noise_0 8 rfl) (kX11_noise_0 9 rfl) (kX11_noise_0 10 rfl) (by decide)
theorem dX11_noise_11 : decode cX11_noise 11 = .ok (.iload_n 2, 1) := dq_28 (kX11_noise_0 11 rfl)
theorem dX11_noise_12 : decode cX11_noise 12 = .ok (.invokestatic 559, 3) := dq_184 (kX11_noise_0 12 rfl) (kX11_noise_0 13 rfl) (kX11_noise_0 14 rfl) rfl
theorem dX11_noise_15 : decode cX11_noise 15 = .ok (.ifCond .ne 7, 3) := dq_154 (kX11_noise_0 15 rfl) (kX11_noise_0 16 rfl) (kX11_noise_0 17 rfl) (by decide)
theorem dX11_noise_18 : decode cX11_noise 18 = .ok (.iconst (-1), 1) := dq_2 (kX11_noise_0 18 rfl)
theorem dX11_noise_19 : decode cX11_noise 19 = .ok (.goto 11, 3) := dq_167 (kX11_noise_0 19 rfl) (kX11_noise_0 20 rfl) (kX11_noise_0 21 rfl) (by decide)
theorem dX11_noise_22 : decode cX11_noise 22 = .ok (.aload_n 3, 1) := dq_45 (kX11_noise_0 22 rfl)
theorem dX11_noise_23 : decode cX11_noise 23 = .ok (.getfield 473, 3) := dq_180 (kX11_noise_0 23 rfl) (kX11_noise_0 24 rfl) (kX11_noise_0 25 rfl) rfl
theorem dX11_noise_26 : decode cX11_noise 26 = .ok (.iload_n 2, 1) := dq_28 (kX11_noise_0 26 rfl)
theorem dX11_noise_27 : decode cX11_noise 27 = .ok (.invokestatic 253, 3) := dq_184 (kX11_noise_0 27 rfl) (kX11_noise_0 28 rfl) (kX11_noise_0 29 rfl) rfl
theorem dX11_noise_30 : decode cX11_noise 30 = .ok (.ireturn, 1) := dq_172 (kX11_noise_0 30 rfl)

def bX11_caught_0 : List UInt8 := [42, 27, 182, 1, 147, 198, 0, 31, 28, 3, 6, 184, 0, 112, 153, 0, 22, 29, 184, 1, 138, 153, 0, 15, 21, 4, 4, 19, 1, 168, 184, 0]
theorem kX11_caught_0 (j : Nat) {b : UInt8} (hj : bX11_caught_0[j]? = some b) : AtB cX11_caught (0 + j) b := at_of32 (by decide +kernel) j hj
def bX11_caught_1 : List UInt8 := [112, 154, 0, 5, 2, 172, 21, 5, 3, 42, 180, 0, 12, 180, 0, 145, 184, 0, 112, 154, 0, 5, 2, 172, 42, 180, 0, 82, 27, 28, 29, 21]
theorem kX11_caught_1 (j : Nat) {b : UInt8} (hj : bX11_caught_1[j]? = some b) : AtB cX11_caught (32 + j) b := at_of32 (by decide +kernel) j hj
def bX11_caught_2 : List UInt8 := [4, 21, 5, 182, 0, 205, 172]
theorem kX11_caught_2 (j : Nat) {b : UInt8} (hj : bX11_caught_2[j]? = some b) : AtB cX11_caught (64 + j) b := at_of32 (by decide +kernel) j hj
theorem dX11_caught_0 : decode cX11_caught 0 = .ok (.aload_n 0, 1) := dq_42 (kX11_caught_0 0 rfl)
theorem dX11_caught_1 : decode cX11_caught 1 = .ok (.iload_n 1, 1) := dq_27 (kX11_caught_0 1 rfl)
theorem dX11_caught_2 : decode cX11_caught 2 = .ok (.invokevirtual 403, 3) := dq_182 (kX11_caught_0 2 rfl) (kX11_caught_0 3 rfl) (kX11_caught_0 4 rfl) rfl
theorem dX11_caught_5 : decode cX11_caught 5 = .ok (.ifnull 31, 3) := dq_198 (kX11_caught_0 5 rfl) (kX11_caught_0 6 rfl) (kX11_caught_0 7 rfl) (by decide)
theorem dX11_caught_8 : decode cX11_caught 8 = .ok (.iload_n 2, 1) := dq_28 (kX11_caught_0 8 rfl)
theorem dX11_caught_9 : decode cX11_caught 9 = .ok (.iconst 0, 1) := dq_3 (kX11_caught_0 9 rfl)
theorem dX11_caught_10 : decode cX11_caught 10 = .ok (.iconst 3, 1) := dq_6 (kX11_caught_0 10 rfl)
theorem dX11_caught_11 : decode cX11_caught 11 = .ok (.invokestatic 112, 3) := dq_184 (kX11_caught_0 11 rfl) (kX11_caught_0 12 rfl) (kX11_caught_0 13 rfl) rfl
theorem dX11_caught_14 : decode cX11_caught 14 = .ok (.ifCond .eq 22, 3) := dq_153 (kX11_caught_0 14 rfl) (kX11_caught_0 15 rfl) (kX11_caught_0 16 rfl) (by decide)
theorem dX11_caught_17 : decode cX11_caught 17 = .ok (.iload_n 3, 1) := dq_29 (kX11_caught_0 17 rfl)
theorem dX11_caught_18 : decode cX11_caught 18 = .ok (.invokestatic 394, 3) := dq_184 (kX11_caught_0 18 rfl) (kX11_caught_0 19 rfl) (kX11_caught_0 20 rfl) rfl
theorem dX11_caught_21 : decode cX11_caught 21 = .ok (.ifCond .eq 15, 3) := dq_153 (kX11_caught_0 21 rfl) (kX11_caught_0 22 rfl) (kX11_caught_0 23 rfl) (by decide)
theorem dX11_caught_24 : decode cX11_caught 24 = .ok (.iload 4, 2) := dq_21 (kX11_caught_0 24 rfl) (kX11_caught_0 25 rfl) rfl
theorem dX11_caught_26 : decode cX11_caught 26 = .ok (.iconst 1, 1) := dq_4 (kX11_caught_0 26 rfl)
theorem dX11_caught_27 : decode cX11_caught 27 = .ok (.ldc_w 424, 3) := dq_19 (kX11_caught_0 27 rfl) (kX11_caught_0 28 rfl) (kX11_caught_0 29 rfl) rfl
theorem dX11_caught_30 : decode cX11_caught 30 = .ok (.invokestatic 112, 3) := dq_184 (kX11_caught_0 30 rfl) (kX11_caught_0 31 rfl) (kX11_caught_1 0 rfl) rfl
theorem dX11_caught_33 : decode cX11_caught 33 = .ok (.ifCond .ne 5, 3) := dq_154 (kX11_caught_1 1 rfl) (kX11_caught_1 2 rfl) (kX11_caught_1 3 rfl) (by decide)
theorem dX11_caught_36 : decode cX11_caught 36 = .ok (.iconst (-1), 1) := dq_2 (kX11_caught_1 4 rfl)
theorem dX11_caught_37 : decode cX11_caught 37 = .ok (.ireturn, 1) := dq_172 (kX11_caught_1 5 rfl)
theorem dX11_caught_38 : decode cX11_caught 38 = .ok (.iload 5, 2) := dq_21 (kX11_caught_1 6 rfl) (kX11_caught_1 7 rfl) rfl
theorem dX11_caught_40 : decode cX11_caught 40 = .ok (.iconst 0, 1) := dq_3 (kX11_caught_1 8 rfl)
theorem dX11_caught_41 : decode cX11_caught 41 = .ok (.aload_n 0, 1) := dq_42 (kX11_caught_1 9 rfl)
theorem dX11_caught_42 : decode cX11_caught 42 = .ok (.getfield 12, 3) := dq_180 (kX11_caught_1 10 rfl) (kX11_caught_1 11 rfl) (kX11_caught_1 12 rfl) rfl
theorem dX11_caught_45 : decode cX11_caught 45 = .ok (.getfield 145, 3) := dq_180 (kX11_caught_1 13 rfl) (kX11_caught_1 14 rfl) (kX11_caught_1 15 rfl) rfl
theorem dX11_caught_48 : decode cX11_caught 48 = .ok (.invokestatic 112, 3) := dq_184 (kX11_caught_1 16 rfl) (kX11_caught_1 17 rfl) (kX11_caught_1 18 rfl) rfl
theorem dX11_caught_51 : decode cX11_caught 51 = .ok (.ifCond .ne 5, 3) := dq_154 (kX11_caught_1 19 rfl) (kX11_caught_1 20 rfl) (kX11_caught_1 21 rfl) (by decide)
theorem dX11_caught_54 : decode cX11_caught 54 = .ok (.iconst (-1), 1) := dq_2 (kX11_caught_1 22 rfl)
theorem dX11_caught_55 : decode cX11_caught 55 = .ok (.ireturn, 1) := dq_172 (kX11_caught_1 23 rfl)
theorem dX11_caught_56 : decode cX11_caught 56 = .ok (.aload_n 0, 1) := dq_42 (kX11_caught_1 24 rfl)
theorem dX11_caught_57 : decode cX11_caught 57 = .ok (.getfield 82, 3) := dq_180 (kX11_caught_1 25 rfl) (kX11_caught_1 26 rfl) (kX11_caught_1 27 rfl) rfl
theorem dX11_caught_60 : decode cX11_caught 60 = .ok (.iload_n 1, 1) := dq_27 (kX11_caught_1 28 rfl)
theorem dX11_caught_61 : decode cX11_caught 61 = .ok (.iload_n 2, 1) := dq_28 (kX11_caught_1 29 rfl)
theorem dX11_caught_62 : decode cX11_caught 62 = .ok (.iload_n 3, 1) := dq_29 (kX11_caught_1 30 rfl)
theorem dX11_caught_63 : decode cX11_caught 63 = .ok (.iload 4, 2) := dq_21 (kX11_caught_1 31 rfl) (kX11_caught_2 0 rfl) rfl
theorem dX11_caught_65 : decode cX11_caught 65 = .ok (.iload 5, 2) := dq_21 (kX11_caught_2 1 rfl) (kX11_caught_2 2 rfl) rfl
theorem dX11_caught_67 : decode cX11_caught 67 = .ok (.invokevirtual 205, 3) := dq_182 (kX11_caught_2 3 rfl) (kX11_caught_2 4 rfl) (kX11_caught_2 5 rfl) rfl
theorem dX11_caught_70 : decode cX11_caught 70 = .ok (.ireturn, 1) := dq_172 (kX11_caught_2 6 rfl)

def bX11_over_0 : List UInt8 := [2, 60, 3, 61, 28, 42, 180, 0, 82, 180, 0, 199, 162, 0, 55, 27, 2, 159, 0, 24, 42, 180, 0, 82, 28, 7, 182, 0, 209, 42, 180, 0]
theorem kX11_over_0 (j : Nat) {b : UInt8} (hj : bX11_over_0[j]? = some b) : AtB cX11_over (0 + j) b := at_of32 (by decide +kernel) j hj
def bX11_over_1 : List UInt8 := [82, 27, 7, 182, 0, 209, 162, 0, 7, 4, 167, 0, 4, 3, 62, 29, 153, 0, 13, 42, 28, 182, 2, 50, 153, 0, 5, 28, 60, 132, 2, 1]
theorem kX11_over_1 (j : Nat) {b : UInt8} (hj : bX11_over_1[j]? = some b) : AtB cX11_over (32 + j) b := at_of32 (by decide +kernel) j hj
def bX11_over_2 : List UInt8 := [167, 255, 196, 27, 172]
theorem kX11_over_2 (j : Nat) {b : UInt8} (hj : bX11_over_2[j]? = some b) : AtB cX11_over (64 + j) b := at_of32 (by decide +kernel) j hj
theorem dX11_over_0 : decode cX11_over 0 = .ok (.iconst (-1), 1) := dq_2 (kX11_over_0 0 rfl)
theorem dX11_over_1 : decode cX11_over 1 = .ok (.istore_n 1, 1) := dq_60 (kX11_over_0 1 rfl)
theorem dX11_over_2 : decode cX11_over 2 = .ok (.iconst 0, 1) := dq_3 (kX11_over_0 2 rfl)
theorem dX11_over_3 : decode cX11_over 3 = .ok (.istore_n 2, 1) := dq_61 (kX11_over_0 3 rfl)
theorem dX11_over_4 : decode cX11_over 4 = .ok (.iload_n 2, 1) := dq_28 (kX11_over_0 4 rfl)
theorem dX11_over_5 : decode cX11_over 5 = .ok (.aload_n 0, 1) := dq_42 (kX11_over_0 5 rfl)
theorem dX11_over_6 : decode cX11_over 6 = .ok (.getfield 82, 3) := dq_180 (kX11_over_0 6 rfl) (kX11_over_0 7 rfl) (kX11_over_0 8 rfl) rfl
theorem dX11_over_9 : decode cX11_over 9 = .ok (.getfield 199, 3) := dq_180 (kX11_over_0 9 rfl) (kX11_over_0 10 rfl) (kX11_over_0 11 rfl) rfl
theorem dX11_over_12 : decode cX11_over 12 = .ok (.if_icmp .ge 55, 3) := dq_162 (kX11_over_0 12 rfl) (kX11_over_0 13 rfl) (kX11_over_0 14 rfl) (by decide)
theorem dX11_over_15 : decode cX11_over 15 = .ok (.iload_n 1, 1) := dq_27 (kX11_over_0 15 rfl)
theorem dX11_over_16 : decode cX11_over 16 = .ok (.iconst (-1), 1) := dq_2 (kX11_over_0 16 rfl)
theorem dX11_over_17 : decode cX11_over 17 = .ok (.if_icmp .eq 24, 3) := dq_159 (kX11_over_0 17 rfl) (kX11_over_0 18 rfl) (kX11_over_0 19 rfl) (by decide)
theorem dX11_over_20 : decode cX11_over 20 = .ok (.aload_n 0, 1) := dq_42 (kX11_over_0 20 rfl)
theorem dX11_over_21 : decode cX11_over 21 = .ok (.getfield 82, 3) := dq_180 (kX11_over_0 21 rfl) (kX11_over_0 22 rfl) (kX11_over_0 23 rfl) rfl
theorem dX11_over_24 : decode cX11_over 24 = .ok (.iload_n 2, 1) := dq_28 (kX11_over_0 24 rfl)
theorem dX11_over_25 : decode cX11_over 25 = .ok (.iconst 4, 1) := dq_7 (kX11_over_0 25 rfl)
theorem dX11_over_26 : decode cX11_over 26 = .ok (.invokevirtual 209, 3) := dq_182 (kX11_over_0 26 rfl) (kX11_over_0 27 rfl) (kX11_over_0 28 rfl) rfl
theorem dX11_over_29 : decode cX11_over 29 = .ok (.aload_n 0, 1) := dq_42 (kX11_over_0 29 rfl)
theorem dX11_over_30 : decode cX11_over 30 = .ok (.getfield 82, 3) := dq_180 (kX11_over_0 30 rfl) (kX11_over_0 31 rfl) (kX11_over_1 0 rfl) rfl
theorem dX11_over_33 : decode cX11_over 33 = .ok (.iload_n 1, 1) := dq_27 (kX11_over_1 1 rfl)
theorem dX11_over_34 : decode cX11_over 34 = .ok (.iconst 4, 1) := dq_7 (kX11_over_1 2 rfl)
theorem dX11_over_35 : decode cX11_over 35 = .ok (.invokevirtual 209, 3) := dq_182 (kX11_over_1 3 rfl) (kX11_over_1 4 rfl) (kX11_over_1 5 rfl) rfl
theorem dX11_over_38 : decode cX11_over 38 = .ok (.if_icmp .ge 7, 3) := dq_162 (kX11_over_1 6 rfl) (kX11_over_1 7 rfl) (kX11_over_1 8 rfl) (by decide)
theorem dX11_over_41 : decode cX11_over 41 = .ok (.iconst 1, 1) := dq_4 (kX11_over_1 9 rfl)
theorem dX11_over_42 : decode cX11_over 42 = .ok (.goto 4, 3) := dq_167 (kX11_over_1 10 rfl) (kX11_over_1 11 rfl) (kX11_over_1 12 rfl) (by decide)
theorem dX11_over_45 : decode cX11_over 45 = .ok (.iconst 0, 1) := dq_3 (kX11_over_1 13 rfl)
theorem dX11_over_46 : decode cX11_over 46 = .ok (.istore_n 3, 1) := dq_62 (kX11_over_1 14 rfl)
theorem dX11_over_47 : decode cX11_over 47 = .ok (.iload_n 3, 1) := dq_29 (kX11_over_1 15 rfl)
theorem dX11_over_48 : decode cX11_over 48 = .ok (.ifCond .eq 13, 3) := dq_153 (kX11_over_1 16 rfl) (kX11_over_1 17 rfl) (kX11_over_1 18 rfl) (by decide)
theorem dX11_over_51 : decode cX11_over 51 = .ok (.aload_n 0, 1) := dq_42 (kX11_over_1 19 rfl)
theorem dX11_over_52 : decode cX11_over 52 = .ok (.iload_n 2, 1) := dq_28 (kX11_over_1 20 rfl)
theorem dX11_over_53 : decode cX11_over 53 = .ok (.invokevirtual 562, 3) := dq_182 (kX11_over_1 21 rfl) (kX11_over_1 22 rfl) (kX11_over_1 23 rfl) rfl
theorem dX11_over_56 : decode cX11_over 56 = .ok (.ifCond .eq 5, 3) := dq_153 (kX11_over_1 24 rfl) (kX11_over_1 25 rfl) (kX11_over_1 26 rfl) (by decide)
theorem dX11_over_59 : decode cX11_over 59 = .ok (.iload_n 2, 1) := dq_28 (kX11_over_1 27 rfl)
theorem dX11_over_60 : decode cX11_over 60 = .ok (.istore_n 1, 1) := dq_60 (kX11_over_1 28 rfl)
theorem dX11_over_61 : decode cX11_over 61 = .ok (.iinc 2 1, 3) := dq_132 (kX11_over_1 29 rfl) (kX11_over_1 30 rfl) (kX11_over_1 31 rfl) rfl (by decide)
theorem dX11_over_64 : decode cX11_over 64 = .ok (.goto (-60), 3) := dq_167 (kX11_over_2 0 rfl) (kX11_over_2 1 rfl) (kX11_over_2 2 rfl) (by decide)
theorem dX11_over_67 : decode cX11_over 67 = .ok (.iload_n 1, 1) := dq_27 (kX11_over_2 3 rfl)
theorem dX11_over_68 : decode cX11_over 68 = .ok (.ireturn, 1) := dq_172 (kX11_over_2 4 rfl)

def bX11_isOver_0 : List UInt8 := [42, 42, 180, 0, 82, 27, 3, 182, 0, 209, 182, 1, 147, 77, 44, 199, 0, 7, 1, 167, 0, 11, 42, 44, 180, 2, 53, 182, 0, 151, 78, 45]
theorem kX11_isOver_0 (j : Nat) {b : UInt8} (hj : bX11_isOver_0[j]? = some b) : AtB cX11_isOver (0 + j) b := at_of32 (by decide +kernel) j hj
def bX11_isOver_1 : List UInt8 := [199, 0, 5, 3, 172, 42, 180, 0, 19, 44, 180, 2, 53, 45, 42, 180, 0, 82, 27, 7, 182, 0, 209, 182, 1, 23, 42, 180, 0, 19, 16, 107]
theorem kX11_isOver_1 (j : Nat) {b : UInt8} (hj : bX11_isOver_1[j]? = some b) : AtB cX11_isOver (32 + j) b := at_of32 (by decide +kernel) j hj
def bX11_isOver_2 : List UInt8 := [42, 180, 0, 82, 27, 4, 182, 0, 209, 42, 180, 0, 82, 27, 5, 182, 0, 209, 182, 1, 36, 54, 4, 21, 4, 2, 159, 0, 17, 42, 27, 182]
theorem kX11_isOver_2 (j : Nat) {b : UInt8} (hj : bX11_isOver_2[j]? = some b) : AtB cX11_isOver (64 + j) b := at_of32 (by decide +kernel) j hj
def bX11_isOver_3 : List UInt8 := [2, 54, 21, 4, 164, 0, 7, 4, 167, 0, 4, 3, 172]
theorem kX11_isOver_3 (j : Nat) {b : UInt8} (hj : bX11_isOver_3[j]? = some b) : AtB cX11_isOver (96 + j) b := at_of32 (by decide +kernel) j hj
theorem dX11_isOver_0 : decode cX11_isOver 0 = .ok (.aload_n 0, 1) := dq_42 (kX11_isOver_0 0 rfl)
theorem dX11_isOver_1 : decode cX11_isOver 1 = .ok (.aload_n 0, 1) := dq_42 (kX11_isOver_0 1 rfl)
theorem dX11_isOver_2 : decode cX11_isOver 2 = .ok (.getfield 82, 3) := dq_180 (kX11_isOver_0 2 rfl) (kX11_isOver_0 3 rfl) (kX11_isOver_0 4 rfl) rfl
theorem dX11_isOver_5 : decode cX11_isOver 5 = .ok (.iload_n 1, 1) := dq_27 (kX11_isOver_0 5 rfl)
theorem dX11_isOver_6 : decode cX11_isOver 6 = .ok (.iconst 0, 1) := dq_3 (kX11_isOver_0 6 rfl)
theorem dX11_isOver_7 : decode cX11_isOver 7 = .ok (.invokevirtual 209, 3) := dq_182 (kX11_isOver_0 7 rfl) (kX11_isOver_0 8 rfl) (kX11_isOver_0 9 rfl) rfl
theorem dX11_isOver_10 : decode cX11_isOver 10 = .ok (.invokevirtual 403, 3) := dq_182 (kX11_isOver_0 10 rfl) (kX11_isOver_0 11 rfl) (kX11_isOver_0 12 rfl) rfl
theorem dX11_isOver_13 : decode cX11_isOver 13 = .ok (.astore_n 2, 1) := dq_77 (kX11_isOver_0 13 rfl)
theorem dX11_isOver_14 : decode cX11_isOver 14 = .ok (.aload_n 2, 1) := dq_44 (kX11_isOver_0 14 rfl)
theorem dX11_isOver_15 : decode cX11_isOver 15 = .ok (.ifnonnull 7, 3) := dq_199 (kX11_isOver_0 15 rfl) (kX11_isOver_0 16 rfl) (kX11_isOver_0 17 rfl) (by decide)
theorem dX11_isOver_18 : decode cX11_isOver 18 = .ok (.aconst_null, 1) := dq_1 (kX11_isOver_0 18 rfl)
theorem dX11_isOver_19 : decode cX11_isOver 19 = .ok (.goto 11, 3) := dq_167 (kX11_isOver_0 19 rfl) (kX11_isOver_0 20 rfl) (kX11_isOver_0 21 rfl) (by decide)
theorem dX11_isOver_22 : decode cX11_isOver 22 = .ok (.aload_n 0, 1) := dq_42 (kX11_isOver_0 22 rfl)
theorem dX11_isOver_23 : decode cX11_isOver 23 = .ok (.aload_n 2, 1) := dq_44 (kX11_isOver_0 23 rfl)
theorem dX11_isOver_24 : decode cX11_isOver 24 = .ok (.getfield 565, 3) := dq_180 (kX11_isOver_0 24 rfl) (kX11_isOver_0 25 rfl) (kX11_isOver_0 26 rfl) rfl
theorem dX11_isOver_27 : decode cX11_isOver 27 = .ok (.invokevirtual 151, 3) := dq_182 (kX11_isOver_0 27 rfl) (kX11_isOver_0 28 rfl) (kX11_isOver_0 29 rfl) rfl
theorem dX11_isOver_30 : decode cX11_isOver 30 = .ok (.astore_n 3, 1) := dq_78 (kX11_isOver_0 30 rfl)
theorem dX11_isOver_31 : decode cX11_isOver 31 = .ok (.aload_n 3, 1) := dq_45 (kX11_isOver_0 31 rfl)
theorem dX11_isOver_32 : decode cX11_isOver 32 = .ok (.ifnonnull 5, 3) := dq_199 (kX11_isOver_1 0 rfl) (kX11_isOver_1 1 rfl) (kX11_isOver_1 2 rfl) (by decide)
theorem dX11_isOver_35 : decode cX11_isOver 35 = .ok (.iconst 0, 1) := dq_3 (kX11_isOver_1 3 rfl)
theorem dX11_isOver_36 : decode cX11_isOver 36 = .ok (.ireturn, 1) := dq_172 (kX11_isOver_1 4 rfl)
theorem dX11_isOver_37 : decode cX11_isOver 37 = .ok (.aload_n 0, 1) := dq_42 (kX11_isOver_1 5 rfl)
theorem dX11_isOver_38 : decode cX11_isOver 38 = .ok (.getfield 19, 3) := dq_180 (kX11_isOver_1 6 rfl) (kX11_isOver_1 7 rfl) (kX11_isOver_1 8 rfl) rfl
theorem dX11_isOver_41 : decode cX11_isOver 41 = .ok (.aload_n 2, 1) := dq_44 (kX11_isOver_1 9 rfl)
theorem dX11_isOver_42 : decode cX11_isOver 42 = .ok (.getfield 565, 3) := dq_180 (kX11_isOver_1 10 rfl) (kX11_isOver_1 11 rfl) (kX11_isOver_1 12 rfl) rfl
theorem dX11_isOver_45 : decode cX11_isOver 45 = .ok (.aload_n 3, 1) := dq_45 (kX11_isOver_1 13 rfl)
theorem dX11_isOver_46 : decode cX11_isOver 46 = .ok (.aload_n 0, 1) := dq_42 (kX11_isOver_1 14 rfl)
theorem dX11_isOver_47 : decode cX11_isOver 47 = .ok (.getfield 82, 3) := dq_180 (kX11_isOver_1 15 rfl) (kX11_isOver_1 16 rfl) (kX11_isOver_1 17 rfl) rfl
theorem dX11_isOver_50 : decode cX11_isOver 50 = .ok (.iload_n 1, 1) := dq_27 (kX11_isOver_1 18 rfl)
theorem dX11_isOver_51 : decode cX11_isOver 51 = .ok (.iconst 4, 1) := dq_7 (kX11_isOver_1 19 rfl)
theorem dX11_isOver_52 : decode cX11_isOver 52 = .ok (.invokevirtual 209, 3) := dq_182 (kX11_isOver_1 20 rfl) (kX11_isOver_1 21 rfl) (kX11_isOver_1 22 rfl) rfl
theorem dX11_isOver_55 : decode cX11_isOver 55 = .ok (.invokevirtual 279, 3) := dq_182 (kX11_isOver_1 23 rfl) (kX11_isOver_1 24 rfl) (kX11_isOver_1 25 rfl) rfl
theorem dX11_isOver_58 : decode cX11_isOver 58 = .ok (.aload_n 0, 1) := dq_42 (kX11_isOver_1 26 rfl)
theorem dX11_isOver_59 : decode cX11_isOver 59 = .ok (.getfield 19, 3) := dq_180 (kX11_isOver_1 27 rfl) (kX11_isOver_1 28 rfl) (kX11_isOver_1 29 rfl) rfl
theorem dX11_isOver_62 : decode cX11_isOver 62 = .ok (.bipush 107, 2) := dq_16 (kX11_isOver_1 30 rfl) (kX11_isOver_1 31 rfl) (by decide)
theorem dX11_isOver_64 : decode cX11_isOver 64 = .ok (.aload_n 0, 1) := dq_42 (kX11_isOver_2 0 rfl)
theorem dX11_isOver_65 : decode cX11_isOver 65 = .ok (.getfield 82, 3) := dq_180 (kX11_isOver_2 1 rfl) (kX11_isOver_2 2 rfl) (kX11_isOver_2 3 rfl) rfl
theorem dX11_isOver_68 : decode cX11_isOver 68 = .ok (.iload_n 1, 1) := dq_27 (kX11_isOver_2 4 rfl)
theorem dX11_isOver_69 : decode cX11_isOver 69 = .ok (.iconst 1, 1) := dq_4 (kX11_isOver_2 5 rfl)
theorem dX11_isOver_70 : decode cX11_isOver 70 = .ok (.invokevirtual 209, 3) := dq_182 (kX11_isOver_2 6 rfl) (kX11_isOver_2 7 rfl) (kX11_isOver_2 8 rfl) rfl
theorem dX11_isOver_73 : decode cX11_isOver 73 = .ok (.aload_n 0, 1) := dq_42 (kX11_isOver_2 9 rfl)
theorem dX11_isOver_74 : decode cX11_isOver 74 = .ok (.getfield 82, 3) := dq_180 (kX11_isOver_2 10 rfl) (kX11_isOver_2 11 rfl) (kX11_isOver_2 12 rfl) rfl
theorem dX11_isOver_77 : decode cX11_isOver 77 = .ok (.iload_n 1, 1) := dq_27 (kX11_isOver_2 13 rfl)
theorem dX11_isOver_78 : decode cX11_isOver 78 = .ok (.iconst 2, 1) := dq_5 (kX11_isOver_2 14 rfl)
theorem dX11_isOver_79 : decode cX11_isOver 79 = .ok (.invokevirtual 209, 3) := dq_182 (kX11_isOver_2 15 rfl) (kX11_isOver_2 16 rfl) (kX11_isOver_2 17 rfl) rfl
theorem dX11_isOver_82 : decode cX11_isOver 82 = .ok (.invokevirtual 292, 3) := dq_182 (kX11_isOver_2 18 rfl) (kX11_isOver_2 19 rfl) (kX11_isOver_2 20 rfl) rfl
theorem dX11_isOver_85 : decode cX11_isOver 85 = .ok (.istore 4, 2) := dq_54 (kX11_isOver_2 21 rfl) (kX11_isOver_2 22 rfl) rfl
theorem dX11_isOver_87 : decode cX11_isOver 87 = .ok (.iload 4, 2) := dq_21 (kX11_isOver_2 23 rfl) (kX11_isOver_2 24 rfl) rfl
theorem dX11_isOver_89 : decode cX11_isOver 89 = .ok (.iconst (-1), 1) := dq_2 (kX11_isOver_2 25 rfl)
theorem dX11_isOver_90 : decode cX11_isOver 90 = .ok (.if_icmp .eq 17, 3) := dq_159 (kX11_isOver_2 26 rfl) (kX11_isOver_2 27 rfl) (kX11_isOver_2 28 rfl) (by decide)
theorem dX11_isOver_93 : decode cX11_isOver 93 = .ok (.aload_n 0, 1) := dq_42 (kX11_isOver_2 29 rfl)
theorem dX11_isOver_94 : decode cX11_isOver 94 = .ok (.iload_n 1, 1) := dq_27 (kX11_isOver_2 30 rfl)
theorem dX11_isOver_95 : decode cX11_isOver 95 = .ok (.invokevirtual 566, 3) := dq_182 (kX11_isOver_2 31 rfl) (kX11_isOver_3 0 rfl) (kX11_isOver_3 1 rfl) rfl
theorem dX11_isOver_98 : decode cX11_isOver 98 = .ok (.iload 4, 2) := dq_21 (kX11_isOver_3 2 rfl) (kX11_isOver_3 3 rfl) rfl
theorem dX11_isOver_100 : decode cX11_isOver 100 = .ok (.if_icmp .le 7, 3) := dq_164 (kX11_isOver_3 4 rfl) (kX11_isOver_3 5 rfl) (kX11_isOver_3 6 rfl) (by decide)
theorem dX11_isOver_103 : decode cX11_isOver 103 = .ok (.iconst 1, 1) := dq_4 (kX11_isOver_3 7 rfl)
theorem dX11_isOver_104 : decode cX11_isOver 104 = .ok (.goto 4, 3) := dq_167 (kX11_isOver_3 8 rfl) (kX11_isOver_3 9 rfl) (kX11_isOver_3 10 rfl) (by decide)
theorem dX11_isOver_107 : decode cX11_isOver 107 = .ok (.iconst 0, 1) := dq_3 (kX11_isOver_3 11 rfl)
theorem dX11_isOver_108 : decode cX11_isOver 108 = .ok (.ireturn, 1) := dq_172 (kX11_isOver_3 12 rfl)

def bX11_tonnesUpTo_0 : List UInt8 := [42, 180, 0, 82, 27, 7, 182, 0, 209, 61, 3, 62, 3, 54, 4, 21, 4, 42, 180, 0, 82, 180, 0, 199, 162, 0, 122, 42, 180, 0, 82, 21]
theorem kX11_tonnesUpTo_0 (j : Nat) {b : UInt8} (hj : bX11_tonnesUpTo_0[j]? = some b) : AtB cX11_tonnesUpTo (0 + j) b := at_of32 (by decide +kernel) j hj
def bX11_tonnesUpTo_1 : List UInt8 := [4, 7, 182, 0, 209, 54, 5, 21, 5, 28, 161, 0, 15, 21, 5, 28, 160, 0, 13, 21, 4, 27, 163, 0, 7, 4, 167, 0, 4, 3, 54, 6]
theorem kX11_tonnesUpTo_1 (j : Nat) {b : UInt8} (hj : bX11_tonnesUpTo_1[j]? = some b) : AtB cX11_tonnesUpTo (32 + j) b := at_of32 (by decide +kernel) j hj
def bX11_tonnesUpTo_2 : List UInt8 := [21, 6, 153, 0, 74, 21, 5, 17, 1, 104, 108, 28, 17, 1, 104, 108, 160, 0, 60, 42, 180, 0, 82, 21, 4, 4, 182, 0, 209, 42, 180, 0]
theorem kX11_tonnesUpTo_2 (j : Nat) {b : UInt8} (hj : bX11_tonnesUpTo_2[j]? = some b) : AtB cX11_tonnesUpTo (64 + j) b := at_of32 (by decide +kernel) j hj
def bX11_tonnesUpTo_3 : List UInt8 := [82, 27, 4, 182, 0, 209, 160, 0, 38, 42, 180, 0, 82, 21, 4, 5, 182, 0, 209, 42, 180, 0, 82, 27, 5, 182, 0, 209, 160, 0, 16, 29]
theorem kX11_tonnesUpTo_3 (j : Nat) {b : UInt8} (hj : bX11_tonnesUpTo_3[j]? = some b) : AtB cX11_tonnesUpTo (96 + j) b := at_of32 (by decide +kernel) j hj
def bX11_tonnesUpTo_4 : List UInt8 := [42, 180, 0, 82, 21, 4, 6, 182, 0, 209, 96, 62, 132, 4, 1, 167, 255, 128, 29, 172]
theorem kX11_tonnesUpTo_4 (j : Nat) {b : UInt8} (hj : bX11_tonnesUpTo_4[j]? = some b) : AtB cX11_tonnesUpTo (128 + j) b := at_of32 (by decide +kernel) j hj
theorem dX11_tonnesUpTo_0 : decode cX11_tonnesUpTo 0 = .ok (.aload_n 0, 1) := dq_42 (kX11_tonnesUpTo_0 0 rfl)
theorem dX11_tonnesUpTo_1 : decode cX11_tonnesUpTo 1 = .ok (.getfield 82, 3) := dq_180 (kX11_tonnesUpTo_0 1 rfl) (kX11_tonnesUpTo_0 2 rfl) (kX11_tonnesUpTo_0 3 rfl) rfl
theorem dX11_tonnesUpTo_4 : decode cX11_tonnesUpTo 4 = .ok (.iload_n 1, 1) := dq_27 (kX11_tonnesUpTo_0 4 rfl)
theorem dX11_tonnesUpTo_5 : decode cX11_tonnesUpTo 5 = .ok (.iconst 4, 1) := dq_7 (kX11_tonnesUpTo_0 5 rfl)
theorem dX11_tonnesUpTo_6 : decode cX11_tonnesUpTo 6 = .ok (.invokevirtual 209, 3) := dq_182 (kX11_tonnesUpTo_0 6 rfl) (kX11_tonnesUpTo_0 7 rfl) (kX11_tonnesUpTo_0 8 rfl) rfl
theorem dX11_tonnesUpTo_9 : decode cX11_tonnesUpTo 9 = .ok (.istore_n 2, 1) := dq_61 (kX11_tonnesUpTo_0 9 rfl)
theorem dX11_tonnesUpTo_10 : decode cX11_tonnesUpTo 10 = .ok (.iconst 0, 1) := dq_3 (kX11_tonnesUpTo_0 10 rfl)
theorem dX11_tonnesUpTo_11 : decode cX11_tonnesUpTo 11 = .ok (.istore_n 3, 1) := dq_62 (kX11_tonnesUpTo_0 11 rfl)
theorem dX11_tonnesUpTo_12 : decode cX11_tonnesUpTo 12 = .ok (.iconst 0, 1) := dq_3 (kX11_tonnesUpTo_0 12 rfl)
theorem dX11_tonnesUpTo_13 : decode cX11_tonnesUpTo 13 = .ok (.istore 4, 2) := dq_54 (kX11_tonnesUpTo_0 13 rfl) (kX11_tonnesUpTo_0 14 rfl) rfl
theorem dX11_tonnesUpTo_15 : decode cX11_tonnesUpTo 15 = .ok (.iload 4, 2) := dq_21 (kX11_tonnesUpTo_0 15 rfl) (kX11_tonnesUpTo_0 16 rfl) rfl
theorem dX11_tonnesUpTo_17 : decode cX11_tonnesUpTo 17 = .ok (.aload_n 0, 1) := dq_42 (kX11_tonnesUpTo_0 17 rfl)
theorem dX11_tonnesUpTo_18 : decode cX11_tonnesUpTo 18 = .ok (.getfield 82, 3) := dq_180 (kX11_tonnesUpTo_0 18 rfl) (kX11_tonnesUpTo_0 19 rfl) (kX11_tonnesUpTo_0 20 rfl) rfl
theorem dX11_tonnesUpTo_21 : decode cX11_tonnesUpTo 21 = .ok (.getfield 199, 3) := dq_180 (kX11_tonnesUpTo_0 21 rfl) (kX11_tonnesUpTo_0 22 rfl) (kX11_tonnesUpTo_0 23 rfl) rfl
theorem dX11_tonnesUpTo_24 : decode cX11_tonnesUpTo 24 = .ok (.if_icmp .ge 122, 3) := dq_162 (kX11_tonnesUpTo_0 24 rfl) (kX11_tonnesUpTo_0 25 rfl) (kX11_tonnesUpTo_0 26 rfl) (by decide)
theorem dX11_tonnesUpTo_27 : decode cX11_tonnesUpTo 27 = .ok (.aload_n 0, 1) := dq_42 (kX11_tonnesUpTo_0 27 rfl)
theorem dX11_tonnesUpTo_28 : decode cX11_tonnesUpTo 28 = .ok (.getfield 82, 3) := dq_180 (kX11_tonnesUpTo_0 28 rfl) (kX11_tonnesUpTo_0 29 rfl) (kX11_tonnesUpTo_0 30 rfl) rfl
theorem dX11_tonnesUpTo_31 : decode cX11_tonnesUpTo 31 = .ok (.iload 4, 2) := dq_21 (kX11_tonnesUpTo_0 31 rfl) (kX11_tonnesUpTo_1 0 rfl) rfl
theorem dX11_tonnesUpTo_33 : decode cX11_tonnesUpTo 33 = .ok (.iconst 4, 1) := dq_7 (kX11_tonnesUpTo_1 1 rfl)
theorem dX11_tonnesUpTo_34 : decode cX11_tonnesUpTo 34 = .ok (.invokevirtual 209, 3) := dq_182 (kX11_tonnesUpTo_1 2 rfl) (kX11_tonnesUpTo_1 3 rfl) (kX11_tonnesUpTo_1 4 rfl) rfl
theorem dX11_tonnesUpTo_37 : decode cX11_tonnesUpTo 37 = .ok (.istore 5, 2) := dq_54 (kX11_tonnesUpTo_1 5 rfl) (kX11_tonnesUpTo_1 6 rfl) rfl
theorem dX11_tonnesUpTo_39 : decode cX11_tonnesUpTo 39 = .ok (.iload 5, 2) := dq_21 (kX11_tonnesUpTo_1 7 rfl) (kX11_tonnesUpTo_1 8 rfl) rfl
theorem dX11_tonnesUpTo_41 : decode cX11_tonnesUpTo 41 = .ok (.iload_n 2, 1) := dq_28 (kX11_tonnesUpTo_1 9 rfl)
theorem dX11_tonnesUpTo_42 : decode cX11_tonnesUpTo 42 = .ok (.if_icmp .lt 15, 3) := dq_161 (kX11_tonnesUpTo_1 10 rfl) (kX11_tonnesUpTo_1 11 rfl) (kX11_tonnesUpTo_1 12 rfl) (by decide)
theorem dX11_tonnesUpTo_45 : decode cX11_tonnesUpTo 45 = .ok (.iload 5, 2) := dq_21 (kX11_tonnesUpTo_1 13 rfl) (kX11_tonnesUpTo_1 14 rfl) rfl
theorem dX11_tonnesUpTo_47 : decode cX11_tonnesUpTo 47 = .ok (.iload_n 2, 1) := dq_28 (kX11_tonnesUpTo_1 15 rfl)
theorem dX11_tonnesUpTo_48 : decode cX11_tonnesUpTo 48 = .ok (.if_icmp .ne 13, 3) := dq_160 (kX11_tonnesUpTo_1 16 rfl) (kX11_tonnesUpTo_1 17 rfl) (kX11_tonnesUpTo_1 18 rfl) (by decide)
theorem dX11_tonnesUpTo_51 : decode cX11_tonnesUpTo 51 = .ok (.iload 4, 2) := dq_21 (kX11_tonnesUpTo_1 19 rfl) (kX11_tonnesUpTo_1 20 rfl) rfl
theorem dX11_tonnesUpTo_53 : decode cX11_tonnesUpTo 53 = .ok (.iload_n 1, 1) := dq_27 (kX11_tonnesUpTo_1 21 rfl)
theorem dX11_tonnesUpTo_54 : decode cX11_tonnesUpTo 54 = .ok (.if_icmp .gt 7, 3) := dq_163 (kX11_tonnesUpTo_1 22 rfl) (kX11_tonnesUpTo_1 23 rfl) (kX11_tonnesUpTo_1 24 rfl) (by decide)
theorem dX11_tonnesUpTo_57 : decode cX11_tonnesUpTo 57 = .ok (.iconst 1, 1) := dq_4 (kX11_tonnesUpTo_1 25 rfl)
theorem dX11_tonnesUpTo_58 : decode cX11_tonnesUpTo 58 = .ok (.goto 4, 3) := dq_167 (kX11_tonnesUpTo_1 26 rfl) (kX11_tonnesUpTo_1 27 rfl) (kX11_tonnesUpTo_1 28 rfl) (by decide)
theorem dX11_tonnesUpTo_61 : decode cX11_tonnesUpTo 61 = .ok (.iconst 0, 1) := dq_3 (kX11_tonnesUpTo_1 29 rfl)
theorem dX11_tonnesUpTo_62 : decode cX11_tonnesUpTo 62 = .ok (.istore 6, 2) := dq_54 (kX11_tonnesUpTo_1 30 rfl) (kX11_tonnesUpTo_1 31 rfl) rfl
theorem dX11_tonnesUpTo_64 : decode cX11_tonnesUpTo 64 = .ok (.iload 6, 2) := dq_21 (kX11_tonnesUpTo_2 0 rfl) (kX11_tonnesUpTo_2 1 rfl) rfl
theorem dX11_tonnesUpTo_66 : decode cX11_tonnesUpTo 66 = .ok (.ifCond .eq 74, 3) := dq_153 (kX11_tonnesUpTo_2 2 rfl) (kX11_tonnesUpTo_2 3 rfl) (kX11_tonnesUpTo_2 4 rfl) (by decide)
theorem dX11_tonnesUpTo_69 : decode cX11_tonnesUpTo 69 = .ok (.iload 5, 2) := dq_21 (kX11_tonnesUpTo_2 5 rfl) (kX11_tonnesUpTo_2 6 rfl) rfl
theorem dX11_tonnesUpTo_71 : decode cX11_tonnesUpTo 71 = .ok (.sipush 360, 3) := dq_17 (kX11_tonnesUpTo_2 7 rfl) (kX11_tonnesUpTo_2 8 rfl) (kX11_tonnesUpTo_2 9 rfl) (by decide)
theorem dX11_tonnesUpTo_74 : decode cX11_tonnesUpTo 74 = .ok (.idiv, 1) := dq_108 (kX11_tonnesUpTo_2 10 rfl)
theorem dX11_tonnesUpTo_75 : decode cX11_tonnesUpTo 75 = .ok (.iload_n 2, 1) := dq_28 (kX11_tonnesUpTo_2 11 rfl)
theorem dX11_tonnesUpTo_76 : decode cX11_tonnesUpTo 76 = .ok (.sipush 360, 3) := dq_17 (kX11_tonnesUpTo_2 12 rfl) (kX11_tonnesUpTo_2 13 rfl) (kX11_tonnesUpTo_2 14 rfl) (by decide)
theorem dX11_tonnesUpTo_79 : decode cX11_tonnesUpTo 79 = .ok (.idiv, 1) := dq_108 (kX11_tonnesUpTo_2 15 rfl)
theorem dX11_tonnesUpTo_80 : decode cX11_tonnesUpTo 80 = .ok (.if_icmp .ne 60, 3) := dq_160 (kX11_tonnesUpTo_2 16 rfl) (kX11_tonnesUpTo_2 17 rfl) (kX11_tonnesUpTo_2 18 rfl) (by decide)
theorem dX11_tonnesUpTo_83 : decode cX11_tonnesUpTo 83 = .ok (.aload_n 0, 1) := dq_42 (kX11_tonnesUpTo_2 19 rfl)
theorem dX11_tonnesUpTo_84 : decode cX11_tonnesUpTo 84 = .ok (.getfield 82, 3) := dq_180 (kX11_tonnesUpTo_2 20 rfl) (kX11_tonnesUpTo_2 21 rfl) (kX11_tonnesUpTo_2 22 rfl) rfl
theorem dX11_tonnesUpTo_87 : decode cX11_tonnesUpTo 87 = .ok (.iload 4, 2) := dq_21 (kX11_tonnesUpTo_2 23 rfl) (kX11_tonnesUpTo_2 24 rfl) rfl
theorem dX11_tonnesUpTo_89 : decode cX11_tonnesUpTo 89 = .ok (.iconst 1, 1) := dq_4 (kX11_tonnesUpTo_2 25 rfl)
theorem dX11_tonnesUpTo_90 : decode cX11_tonnesUpTo 90 = .ok (.invokevirtual 209, 3) := dq_182 (kX11_tonnesUpTo_2 26 rfl) (kX11_tonnesUpTo_2 27 rfl) (kX11_tonnesUpTo_2 28 rfl) rfl
theorem dX11_tonnesUpTo_93 : decode cX11_tonnesUpTo 93 = .ok (.aload_n 0, 1) := dq_42 (kX11_tonnesUpTo_2 29 rfl)
theorem dX11_tonnesUpTo_94 : decode cX11_tonnesUpTo 94 = .ok (.getfield 82, 3) := dq_180 (kX11_tonnesUpTo_2 30 rfl) (kX11_tonnesUpTo_2 31 rfl) (kX11_tonnesUpTo_3 0 rfl) rfl
theorem dX11_tonnesUpTo_97 : decode cX11_tonnesUpTo 97 = .ok (.iload_n 1, 1) := dq_27 (kX11_tonnesUpTo_3 1 rfl)
theorem dX11_tonnesUpTo_98 : decode cX11_tonnesUpTo 98 = .ok (.iconst 1, 1) := dq_4 (kX11_tonnesUpTo_3 2 rfl)
theorem dX11_tonnesUpTo_99 : decode cX11_tonnesUpTo 99 = .ok (.invokevirtual 209, 3) := dq_182 (kX11_tonnesUpTo_3 3 rfl) (kX11_tonnesUpTo_3 4 rfl) (kX11_tonnesUpTo_3 5 rfl) rfl
theorem dX11_tonnesUpTo_102 : decode cX11_tonnesUpTo 102 = .ok (.if_icmp .ne 38, 3) := dq_160 (kX11_tonnesUpTo_3 6 rfl) (kX11_tonnesUpTo_3 7 rfl) (kX11_tonnesUpTo_3 8 rfl) (by decide)
theorem dX11_tonnesUpTo_105 : decode cX11_tonnesUpTo 105 = .ok (.aload_n 0, 1) := dq_42 (kX11_tonnesUpTo_3 9 rfl)
theorem dX11_tonnesUpTo_106 : decode cX11_tonnesUpTo 106 = .ok (.getfield 82, 3) := dq_180 (kX11_tonnesUpTo_3 10 rfl) (kX11_tonnesUpTo_3 11 rfl) (kX11_tonnesUpTo_3 12 rfl) rfl
theorem dX11_tonnesUpTo_109 : decode cX11_tonnesUpTo 109 = .ok (.iload 4, 2) := dq_21 (kX11_tonnesUpTo_3 13 rfl) (kX11_tonnesUpTo_3 14 rfl) rfl
theorem dX11_tonnesUpTo_111 : decode cX11_tonnesUpTo 111 = .ok (.iconst 2, 1) := dq_5 (kX11_tonnesUpTo_3 15 rfl)
theorem dX11_tonnesUpTo_112 : decode cX11_tonnesUpTo 112 = .ok (.invokevirtual 209, 3) := dq_182 (kX11_tonnesUpTo_3 16 rfl) (kX11_tonnesUpTo_3 17 rfl) (kX11_tonnesUpTo_3 18 rfl) rfl
theorem dX11_tonnesUpTo_115 : decode cX11_tonnesUpTo 115 = .ok (.aload_n 0, 1) := dq_42 (kX11_tonnesUpTo_3 19 rfl)
theorem dX11_tonnesUpTo_116 : decode cX11_tonnesUpTo 116 = .ok (.getfield 82, 3) := dq_180 (kX11_tonnesUpTo_3 20 rfl) (kX11_tonnesUpTo_3 21 rfl) (kX11_tonnesUpTo_3 22 rfl) rfl
theorem dX11_tonnesUpTo_119 : decode cX11_tonnesUpTo 119 = .ok (.iload_n 1, 1) := dq_27 (kX11_tonnesUpTo_3 23 rfl)
theorem dX11_tonnesUpTo_120 : decode cX11_tonnesUpTo 120 = .ok (.iconst 2, 1) := dq_5 (kX11_tonnesUpTo_3 24 rfl)
theorem dX11_tonnesUpTo_121 : decode cX11_tonnesUpTo 121 = .ok (.invokevirtual 209, 3) := dq_182 (kX11_tonnesUpTo_3 25 rfl) (kX11_tonnesUpTo_3 26 rfl) (kX11_tonnesUpTo_3 27 rfl) rfl
theorem dX11_tonnesUpTo_124 : decode cX11_tonnesUpTo 124 = .ok (.if_icmp .ne 16, 3) := dq_160 (kX11_tonnesUpTo_3 28 rfl) (kX11_tonnesUpTo_3 29 rfl) (kX11_tonnesUpTo_3 30 rfl) (by decide)
theorem dX11_tonnesUpTo_127 : decode cX11_tonnesUpTo 127 = .ok (.iload_n 3, 1) := dq_29 (kX11_tonnesUpTo_3 31 rfl)
theorem dX11_tonnesUpTo_128 : decode cX11_tonnesUpTo 128 = .ok (.aload_n 0, 1) := dq_42 (kX11_tonnesUpTo_4 0 rfl)
theorem dX11_tonnesUpTo_129 : decode cX11_tonnesUpTo 129 = .ok (.getfield 82, 3) := dq_180 (kX11_tonnesUpTo_4 1 rfl) (kX11_tonnesUpTo_4 2 rfl) (kX11_tonnesUpTo_4 3 rfl) rfl
theorem dX11_tonnesUpTo_132 : decode cX11_tonnesUpTo 132 = .ok (.iload 4, 2) := dq_21 (kX11_tonnesUpTo_4 4 rfl) (kX11_tonnesUpTo_4 5 rfl) rfl
theorem dX11_tonnesUpTo_134 : decode cX11_tonnesUpTo 134 = .ok (.iconst 3, 1) := dq_6 (kX11_tonnesUpTo_4 6 rfl)
theorem dX11_tonnesUpTo_135 : decode cX11_tonnesUpTo 135 = .ok (.invokevirtual 209, 3) := dq_182 (kX11_tonnesUpTo_4 7 rfl) (kX11_tonnesUpTo_4 8 rfl) (kX11_tonnesUpTo_4 9 rfl) rfl
theorem dX11_tonnesUpTo_138 : decode cX11_tonnesUpTo 138 = .ok (.iadd, 1) := dq_96 (kX11_tonnesUpTo_4 10 rfl)
theorem dX11_tonnesUpTo_139 : decode cX11_tonnesUpTo 139 = .ok (.istore_n 3, 1) := dq_62 (kX11_tonnesUpTo_4 11 rfl)
theorem dX11_tonnesUpTo_140 : decode cX11_tonnesUpTo 140 = .ok (.iinc 4 1, 3) := dq_132 (kX11_tonnesUpTo_4 12 rfl) (kX11_tonnesUpTo_4 13 rfl) (kX11_tonnesUpTo_4 14 rfl) rfl (by decide)
theorem dX11_tonnesUpTo_143 : decode cX11_tonnesUpTo 143 = .ok (.goto (-128), 3) := dq_167 (kX11_tonnesUpTo_4 15 rfl) (kX11_tonnesUpTo_4 16 rfl) (kX11_tonnesUpTo_4 17 rfl) (by decide)
theorem dX11_tonnesUpTo_146 : decode cX11_tonnesUpTo 146 = .ok (.iload_n 3, 1) := dq_29 (kX11_tonnesUpTo_4 18 rfl)
theorem dX11_tonnesUpTo_147 : decode cX11_tonnesUpTo 147 = .ok (.ireturn, 1) := dq_172 (kX11_tonnesUpTo_4 19 rfl)

def bX11_doubt_0 : List UInt8 := [27, 3, 4, 184, 0, 112, 154, 0, 5, 2, 172, 3, 61, 28, 42, 180, 0, 82, 180, 0, 199, 162, 0, 49, 28, 4, 96, 62, 29, 42, 180, 0]
theorem kX11_doubt_0 (j : Nat) {b : UInt8} (hj : bX11_doubt_0[j]? = some b) : AtB cX11_doubt (0 + j) b := at_of32 (by decide +kernel) j hj
def bX11_doubt_1 : List UInt8 := [82, 180, 0, 199, 162, 0, 28, 42, 28, 29, 182, 2, 57, 153, 0, 13, 27, 154, 0, 7, 28, 167, 0, 4, 29, 172, 132, 3, 1, 167, 255, 223]
theorem kX11_doubt_1 (j : Nat) {b : UInt8} (hj : bX11_doubt_1[j]? = some b) : AtB cX11_doubt (32 + j) b := at_of32 (by decide +kernel) j hj
def bX11_doubt_2 : List UInt8 := [132, 2, 1, 167, 255, 202, 2, 172]
theorem kX11_doubt_2 (j : Nat) {b : UInt8} (hj : bX11_doubt_2[j]? = some b) : AtB cX11_doubt (64 + j) b := at_of32 (by decide +kernel) j hj
theorem dX11_doubt_0 : decode cX11_doubt 0 = .ok (.iload_n 1, 1) := dq_27 (kX11_doubt_0 0 rfl)
theorem dX11_doubt_1 : decode cX11_doubt 1 = .ok (.iconst 0, 1) := dq_3 (kX11_doubt_0 1 rfl)
theorem dX11_doubt_2 : decode cX11_doubt 2 = .ok (.iconst 1, 1) := dq_4 (kX11_doubt_0 2 rfl)
theorem dX11_doubt_3 : decode cX11_doubt 3 = .ok (.invokestatic 112, 3) := dq_184 (kX11_doubt_0 3 rfl) (kX11_doubt_0 4 rfl) (kX11_doubt_0 5 rfl) rfl
theorem dX11_doubt_6 : decode cX11_doubt 6 = .ok (.ifCond .ne 5, 3) := dq_154 (kX11_doubt_0 6 rfl) (kX11_doubt_0 7 rfl) (kX11_doubt_0 8 rfl) (by decide)
theorem dX11_doubt_9 : decode cX11_doubt 9 = .ok (.iconst (-1), 1) := dq_2 (kX11_doubt_0 9 rfl)
theorem dX11_doubt_10 : decode cX11_doubt 10 = .ok (.ireturn, 1) := dq_172 (kX11_doubt_0 10 rfl)
theorem dX11_doubt_11 : decode cX11_doubt 11 = .ok (.iconst 0, 1) := dq_3 (kX11_doubt_0 11 rfl)
theorem dX11_doubt_12 : decode cX11_doubt 12 = .ok (.istore_n 2, 1) := dq_61 (kX11_doubt_0 12 rfl)
theorem dX11_doubt_13 : decode cX11_doubt 13 = .ok (.iload_n 2, 1) := dq_28 (kX11_doubt_0 13 rfl)
theorem dX11_doubt_14 : decode cX11_doubt 14 = .ok (.aload_n 0, 1) := dq_42 (kX11_doubt_0 14 rfl)
theorem dX11_doubt_15 : decode cX11_doubt 15 = .ok (.getfield 82, 3) := dq_180 (kX11_doubt_0 15 rfl) (kX11_doubt_0 16 rfl) (kX11_doubt_0 17 rfl) rfl
theorem dX11_doubt_18 : decode cX11_doubt 18 = .ok (.getfield 199, 3) := dq_180 (kX11_doubt_0 18 rfl) (kX11_doubt_0 19 rfl) (kX11_doubt_0 20 rfl) rfl
theorem dX11_doubt_21 : decode cX11_doubt 21 = .ok (.if_icmp .ge 49, 3) := dq_162 (kX11_doubt_0 21 rfl) (kX11_doubt_0 22 rfl) (kX11_doubt_0 23 rfl) (by decide)
theorem dX11_doubt_24 : decode cX11_doubt 24 = .ok (.iload_n 2, 1) := dq_28 (kX11_doubt_0 24 rfl)
theorem dX11_doubt_25 : decode cX11_doubt 25 = .ok (.iconst 1, 1) := dq_4 (kX11_doubt_0 25 rfl)
theorem dX11_doubt_26 : decode cX11_doubt 26 = .ok (.iadd, 1) := dq_96 (kX11_doubt_0 26 rfl)
theorem dX11_doubt_27 : decode cX11_doubt 27 = .ok (.istore_n 3, 1) := dq_62 (kX11_doubt_0 27 rfl)
theorem dX11_doubt_28 : decode cX11_doubt 28 = .ok (.iload_n 3, 1) := dq_29 (kX11_doubt_0 28 rfl)
theorem dX11_doubt_29 : decode cX11_doubt 29 = .ok (.aload_n 0, 1) := dq_42 (kX11_doubt_0 29 rfl)
theorem dX11_doubt_30 : decode cX11_doubt 30 = .ok (.getfield 82, 3) := dq_180 (kX11_doubt_0 30 rfl) (kX11_doubt_0 31 rfl) (kX11_doubt_1 0 rfl) rfl
theorem dX11_doubt_33 : decode cX11_doubt 33 = .ok (.getfield 199, 3) := dq_180 (kX11_doubt_1 1 rfl) (kX11_doubt_1 2 rfl) (kX11_doubt_1 3 rfl) rfl
theorem dX11_doubt_36 : decode cX11_doubt 36 = .ok (.if_icmp .ge 28, 3) := dq_162 (kX11_doubt_1 4 rfl) (kX11_doubt_1 5 rfl) (kX11_doubt_1 6 rfl) (by decide)
theorem dX11_doubt_39 : decode cX11_doubt 39 = .ok (.aload_n 0, 1) := dq_42 (kX11_doubt_1 7 rfl)
theorem dX11_doubt_40 : decode cX11_doubt 40 = .ok (.iload_n 2, 1) := dq_28 (kX11_doubt_1 8 rfl)
theorem dX11_doubt_41 : decode cX11_doubt 41 = .ok (.iload_n 3, 1) := dq_29 (kX11_doubt_1 9 rfl)
theorem dX11_doubt_42 : decode cX11_doubt 42 = .ok (.invokevirtual 569, 3) := dq_182 (kX11_doubt_1 10 rfl) (kX11_doubt_1 11 rfl) (kX11_doubt_1 12 rfl) rfl
theorem dX11_doubt_45 : decode cX11_doubt 45 = .ok (.ifCond .eq 13, 3) := dq_153 (kX11_doubt_1 13 rfl) (kX11_doubt_1 14 rfl) (kX11_doubt_1 15 rfl) (by decide)
theorem dX11_doubt_48 : decode cX11_doubt 48 = .ok (.iload_n 1, 1) := dq_27 (kX11_doubt_1 16 rfl)
theorem dX11_doubt_49 : decode cX11_doubt 49 = .ok (.ifCond .ne 7, 3) := dq_154 (kX11_doubt_1 17 rfl) (kX11_doubt_1 18 rfl) (kX11_doubt_1 19 rfl) (by decide)
theorem dX11_doubt_52 : decode cX11_doubt 52 = .ok (.iload_n 2, 1) := dq_28 (kX11_doubt_1 20 rfl)
theorem dX11_doubt_53 : decode cX11_doubt 53 = .ok (.goto 4, 3) := dq_167 (kX11_doubt_1 21 rfl) (kX11_doubt_1 22 rfl) (kX11_doubt_1 23 rfl) (by decide)
theorem dX11_doubt_56 : decode cX11_doubt 56 = .ok (.iload_n 3, 1) := dq_29 (kX11_doubt_1 24 rfl)
theorem dX11_doubt_57 : decode cX11_doubt 57 = .ok (.ireturn, 1) := dq_172 (kX11_doubt_1 25 rfl)
theorem dX11_doubt_58 : decode cX11_doubt 58 = .ok (.iinc 3 1, 3) := dq_132 (kX11_doubt_1 26 rfl) (kX11_doubt_1 27 rfl) (kX11_doubt_1 28 rfl) rfl (by decide)
theorem dX11_doubt_61 : decode cX11_doubt 61 = .ok (.goto (-33), 3) := dq_167 (kX11_doubt_1 29 rfl) (kX11_doubt_1 30 rfl) (kX11_doubt_1 31 rfl) (by decide)
theorem dX11_doubt_64 : decode cX11_doubt 64 = .ok (.iinc 2 1, 3) := dq_132 (kX11_doubt_2 0 rfl) (kX11_doubt_2 1 rfl) (kX11_doubt_2 2 rfl) rfl (by decide)
theorem dX11_doubt_67 : decode cX11_doubt 67 = .ok (.goto (-54), 3) := dq_167 (kX11_doubt_2 3 rfl) (kX11_doubt_2 4 rfl) (kX11_doubt_2 5 rfl) (by decide)
theorem dX11_doubt_70 : decode cX11_doubt 70 = .ok (.iconst (-1), 1) := dq_2 (kX11_doubt_2 6 rfl)
theorem dX11_doubt_71 : decode cX11_doubt 71 = .ok (.ireturn, 1) := dq_172 (kX11_doubt_2 7 rfl)

def bX11_isDoubtful_0 : List UInt8 := [42, 180, 0, 82, 27, 5, 182, 0, 209, 62, 42, 180, 0, 82, 28, 5, 182, 0, 209, 54, 4, 42, 180, 0, 82, 27, 3, 182, 0, 209, 42, 180]
theorem kX11_isDoubtful_0 (j : Nat) {b : UInt8} (hj : bX11_isDoubtful_0[j]? = some b) : AtB cX11_isDoubtful (0 + j) b := at_of32 (by decide +kernel) j hj
def bX11_isDoubtful_1 : List UInt8 := [0, 82, 28, 3, 182, 0, 209, 160, 0, 9, 29, 21, 4, 160, 0, 5, 3, 172, 42, 180, 0, 82, 27, 7, 182, 0, 209, 42, 180, 0, 82, 28]
theorem kX11_isDoubtful_1 (j : Nat) {b : UInt8} (hj : bX11_isDoubtful_1[j]? = some b) : AtB cX11_isDoubtful (32 + j) b := at_of32 (by decide +kernel) j hj
def bX11_isDoubtful_2 : List UInt8 := [7, 182, 0, 209, 100, 184, 2, 60, 54, 5, 21, 5, 42, 180, 0, 12, 180, 1, 144, 29, 184, 0, 253, 42, 180, 0, 12, 180, 1, 144, 21, 4]
theorem kX11_isDoubtful_2 (j : Nat) {b : UInt8} (hj : bX11_isDoubtful_2[j]? = some b) : AtB cX11_isDoubtful (64 + j) b := at_of32 (by decide +kernel) j hj
def bX11_isDoubtful_3 : List UInt8 := [184, 0, 253, 96, 7, 108, 162, 0, 7, 4, 167, 0, 4, 3, 172]
theorem kX11_isDoubtful_3 (j : Nat) {b : UInt8} (hj : bX11_isDoubtful_3[j]? = some b) : AtB cX11_isDoubtful (96 + j) b := at_of32 (by decide +kernel) j hj
theorem dX11_isDoubtful_0 : decode cX11_isDoubtful 0 = .ok (.aload_n 0, 1) := dq_42 (kX11_isDoubtful_0 0 rfl)
theorem dX11_isDoubtful_1 : decode cX11_isDoubtful 1 = .ok (.getfield 82, 3) := dq_180 (kX11_isDoubtful_0 1 rfl) (kX11_isDoubtful_0 2 rfl) (kX11_isDoubtful_0 3 rfl) rfl
theorem dX11_isDoubtful_4 : decode cX11_isDoubtful 4 = .ok (.iload_n 1, 1) := dq_27 (kX11_isDoubtful_0 4 rfl)
theorem dX11_isDoubtful_5 : decode cX11_isDoubtful 5 = .ok (.iconst 2, 1) := dq_5 (kX11_isDoubtful_0 5 rfl)
theorem dX11_isDoubtful_6 : decode cX11_isDoubtful 6 = .ok (.invokevirtual 209, 3) := dq_182 (kX11_isDoubtful_0 6 rfl) (kX11_isDoubtful_0 7 rfl) (kX11_isDoubtful_0 8 rfl) rfl
theorem dX11_isDoubtful_9 : decode cX11_isDoubtful 9 = .ok (.istore_n 3, 1) := dq_62 (kX11_isDoubtful_0 9 rfl)
theorem dX11_isDoubtful_10 : decode cX11_isDoubtful 10 = .ok (.aload_n 0, 1) := dq_42 (kX11_isDoubtful_0 10 rfl)
theorem dX11_isDoubtful_11 : decode cX11_isDoubtful 11 = .ok (.getfield 82, 3) := dq_180 (kX11_isDoubtful_0 11 rfl) (kX11_isDoubtful_0 12 rfl) (kX11_isDoubtful_0 13 rfl) rfl
theorem dX11_isDoubtful_14 : decode cX11_isDoubtful 14 = .ok (.iload_n 2, 1) := dq_28 (kX11_isDoubtful_0 14 rfl)
theorem dX11_isDoubtful_15 : decode cX11_isDoubtful 15 = .ok (.iconst 2, 1) := dq_5 (kX11_isDoubtful_0 15 rfl)
theorem dX11_isDoubtful_16 : decode cX11_isDoubtful 16 = .ok (.invokevirtual 209, 3) := dq_182 (kX11_isDoubtful_0 16 rfl) (kX11_isDoubtful_0 17 rfl) (kX11_isDoubtful_0 18 rfl) rfl
theorem dX11_isDoubtful_19 : decode cX11_isDoubtful 19 = .ok (.istore 4, 2) := dq_54 (kX11_isDoubtful_0 19 rfl) (kX11_isDoubtful_0 20 rfl) rfl
theorem dX11_isDoubtful_21 : decode cX11_isDoubtful 21 = .ok (.aload_n 0, 1) := dq_42 (kX11_isDoubtful_0 21 rfl)
theorem dX11_isDoubtful_22 : decode cX11_isDoubtful 22 = .ok (.getfield 82, 3) := dq_180 (kX11_isDoubtful_0 22 rfl) (kX11_isDoubtful_0 23 rfl) (kX11_isDoubtful_0 24 rfl) rfl
theorem dX11_isDoubtful_25 : decode cX11_isDoubtful 25 = .ok (.iload_n 1, 1) := dq_27 (kX11_isDoubtful_0 25 rfl)
theorem dX11_isDoubtful_26 : decode cX11_isDoubtful 26 = .ok (.iconst 0, 1) := dq_3 (kX11_isDoubtful_0 26 rfl)
theorem dX11_isDoubtful_27 : decode cX11_isDoubtful 27 = .ok (.invokevirtual 209, 3) := dq_182 (kX11_isDoubtful_0 27 rfl) (kX11_isDoubtful_0 28 rfl) (kX11_isDoubtful_0 29 rfl) rfl
theorem dX11_isDoubtful_30 : decode cX11_isDoubtful 30 = .ok (.aload_n 0, 1) := dq_42 (kX11_isDoubtful_0 30 rfl)
theorem dX11_isDoubtful_31 : decode cX11_isDoubtful 31 = .ok (.getfield 82, 3) := dq_180 (kX11_isDoubtful_0 31 rfl) (kX11_isDoubtful_1 0 rfl) (kX11_isDoubtful_1 1 rfl) rfl
theorem dX11_isDoubtful_34 : decode cX11_isDoubtful 34 = .ok (.iload_n 2, 1) := dq_28 (kX11_isDoubtful_1 2 rfl)
theorem dX11_isDoubtful_35 : decode cX11_isDoubtful 35 = .ok (.iconst 0, 1) := dq_3 (kX11_isDoubtful_1 3 rfl)
theorem dX11_isDoubtful_36 : decode cX11_isDoubtful 36 = .ok (.invokevirtual 209, 3) := dq_182 (kX11_isDoubtful_1 4 rfl) (kX11_isDoubtful_1 5 rfl) (kX11_isDoubtful_1 6 rfl) rfl
theorem dX11_isDoubtful_39 : decode cX11_isDoubtful 39 = .ok (.if_icmp .ne 9, 3) := dq_160 (kX11_isDoubtful_1 7 rfl) (kX11_isDoubtful_1 8 rfl) (kX11_isDoubtful_1 9 rfl) (by decide)
theorem dX11_isDoubtful_42 : decode cX11_isDoubtful 42 = .ok (.iload_n 3, 1) := dq_29 (kX11_isDoubtful_1 10 rfl)
theorem dX11_isDoubtful_43 : decode cX11_isDoubtful 43 = .ok (.iload 4, 2) := dq_21 (kX11_isDoubtful_1 11 rfl) (kX11_isDoubtful_1 12 rfl) rfl
theorem dX11_isDoubtful_45 : decode cX11_isDoubtful 45 = .ok (.if_icmp .ne 5, 3) := dq_160 (kX11_isDoubtful_1 13 rfl) (kX11_isDoubtful_1 14 rfl) (kX11_isDoubtful_1 15 rfl) (by decide)
theorem dX11_isDoubtful_48 : decode cX11_isDoubtful 48 = .ok (.iconst 0, 1) := dq_3 (kX11_isDoubtful_1 16 rfl)
theorem dX11_isDoubtful_49 : decode cX11_isDoubtful 49 = .ok (.ireturn, 1) := dq_172 (kX11_isDoubtful_1 17 rfl)
theorem dX11_isDoubtful_50 : decode cX11_isDoubtful 50 = .ok (.aload_n 0, 1) := dq_42 (kX11_isDoubtful_1 18 rfl)
theorem dX11_isDoubtful_51 : decode cX11_isDoubtful 51 = .ok (.getfield 82, 3) := dq_180 (kX11_isDoubtful_1 19 rfl) (kX11_isDoubtful_1 20 rfl) (kX11_isDoubtful_1 21 rfl) rfl
theorem dX11_isDoubtful_54 : decode cX11_isDoubtful 54 = .ok (.iload_n 1, 1) := dq_27 (kX11_isDoubtful_1 22 rfl)
theorem dX11_isDoubtful_55 : decode cX11_isDoubtful 55 = .ok (.iconst 4, 1) := dq_7 (kX11_isDoubtful_1 23 rfl)
theorem dX11_isDoubtful_56 : decode cX11_isDoubtful 56 = .ok (.invokevirtual 209, 3) := dq_182 (kX11_isDoubtful_1 24 rfl) (kX11_isDoubtful_1 25 rfl) (kX11_isDoubtful_1 26 rfl) rfl
theorem dX11_isDoubtful_59 : decode cX11_isDoubtful 59 = .ok (.aload_n 0, 1) := dq_42 (kX11_isDoubtful_1 27 rfl)
theorem dX11_isDoubtful_60 : decode cX11_isDoubtful 60 = .ok (.getfield 82, 3) := dq_180 (kX11_isDoubtful_1 28 rfl) (kX11_isDoubtful_1 29 rfl) (kX11_isDoubtful_1 30 rfl) rfl
theorem dX11_isDoubtful_63 : decode cX11_isDoubtful 63 = .ok (.iload_n 2, 1) := dq_28 (kX11_isDoubtful_1 31 rfl)
theorem dX11_isDoubtful_64 : decode cX11_isDoubtful 64 = .ok (.iconst 4, 1) := dq_7 (kX11_isDoubtful_2 0 rfl)
theorem dX11_isDoubtful_65 : decode cX11_isDoubtful 65 = .ok (.invokevirtual 209, 3) := dq_182 (kX11_isDoubtful_2 1 rfl) (kX11_isDoubtful_2 2 rfl) (kX11_isDoubtful_2 3 rfl) rfl
theorem dX11_isDoubtful_68 : decode cX11_isDoubtful 68 = .ok (.isub, 1) := dq_100 (kX11_isDoubtful_2 4 rfl)
theorem dX11_isDoubtful_69 : decode cX11_isDoubtful 69 = .ok (.invokestatic 572, 3) := dq_184 (kX11_isDoubtful_2 5 rfl) (kX11_isDoubtful_2 6 rfl) (kX11_isDoubtful_2 7 rfl) rfl
theorem dX11_isDoubtful_72 : decode cX11_isDoubtful 72 = .ok (.istore 5, 2) := dq_54 (kX11_isDoubtful_2 8 rfl) (kX11_isDoubtful_2 9 rfl) rfl
theorem dX11_isDoubtful_74 : decode cX11_isDoubtful 74 = .ok (.iload 5, 2) := dq_21 (kX11_isDoubtful_2 10 rfl) (kX11_isDoubtful_2 11 rfl) rfl
theorem dX11_isDoubtful_76 : decode cX11_isDoubtful 76 = .ok (.aload_n 0, 1) := dq_42 (kX11_isDoubtful_2 12 rfl)
theorem dX11_isDoubtful_77 : decode cX11_isDoubtful 77 = .ok (.getfield 12, 3) := dq_180 (kX11_isDoubtful_2 13 rfl) (kX11_isDoubtful_2 14 rfl) (kX11_isDoubtful_2 15 rfl) rfl
theorem dX11_isDoubtful_80 : decode cX11_isDoubtful 80 = .ok (.getfield 400, 3) := dq_180 (kX11_isDoubtful_2 16 rfl) (kX11_isDoubtful_2 17 rfl) (kX11_isDoubtful_2 18 rfl) rfl
theorem dX11_isDoubtful_83 : decode cX11_isDoubtful 83 = .ok (.iload_n 3, 1) := dq_29 (kX11_isDoubtful_2 19 rfl)
theorem dX11_isDoubtful_84 : decode cX11_isDoubtful 84 = .ok (.invokestatic 253, 3) := dq_184 (kX11_isDoubtful_2 20 rfl) (kX11_isDoubtful_2 21 rfl) (kX11_isDoubtful_2 22 rfl) rfl
theorem dX11_isDoubtful_87 : decode cX11_isDoubtful 87 = .ok (.aload_n 0, 1) := dq_42 (kX11_isDoubtful_2 23 rfl)
theorem dX11_isDoubtful_88 : decode cX11_isDoubtful 88 = .ok (.getfield 12, 3) := dq_180 (kX11_isDoubtful_2 24 rfl) (kX11_isDoubtful_2 25 rfl) (kX11_isDoubtful_2 26 rfl) rfl
theorem dX11_isDoubtful_91 : decode cX11_isDoubtful 91 = .ok (.getfield 400, 3) := dq_180 (kX11_isDoubtful_2 27 rfl) (kX11_isDoubtful_2 28 rfl) (kX11_isDoubtful_2 29 rfl) rfl
theorem dX11_isDoubtful_94 : decode cX11_isDoubtful 94 = .ok (.iload 4, 2) := dq_21 (kX11_isDoubtful_2 30 rfl) (kX11_isDoubtful_2 31 rfl) rfl
theorem dX11_isDoubtful_96 : decode cX11_isDoubtful 96 = .ok (.invokestatic 253, 3) := dq_184 (kX11_isDoubtful_3 0 rfl) (kX11_isDoubtful_3 1 rfl) (kX11_isDoubtful_3 2 rfl) rfl
theorem dX11_isDoubtful_99 : decode cX11_isDoubtful 99 = .ok (.iadd, 1) := dq_96 (kX11_isDoubtful_3 3 rfl)
theorem dX11_isDoubtful_100 : decode cX11_isDoubtful 100 = .ok (.iconst 4, 1) := dq_7 (kX11_isDoubtful_3 4 rfl)
theorem dX11_isDoubtful_101 : decode cX11_isDoubtful 101 = .ok (.idiv, 1) := dq_108 (kX11_isDoubtful_3 5 rfl)
theorem dX11_isDoubtful_102 : decode cX11_isDoubtful 102 = .ok (.if_icmp .ge 7, 3) := dq_162 (kX11_isDoubtful_3 6 rfl) (kX11_isDoubtful_3 7 rfl) (kX11_isDoubtful_3 8 rfl) (by decide)
theorem dX11_isDoubtful_105 : decode cX11_isDoubtful 105 = .ok (.iconst 1, 1) := dq_4 (kX11_isDoubtful_3 9 rfl)
theorem dX11_isDoubtful_106 : decode cX11_isDoubtful 106 = .ok (.goto 4, 3) := dq_167 (kX11_isDoubtful_3 10 rfl) (kX11_isDoubtful_3 11 rfl) (kX11_isDoubtful_3 12 rfl) (by decide)
theorem dX11_isDoubtful_109 : decode cX11_isDoubtful 109 = .ok (.iconst 0, 1) := dq_3 (kX11_isDoubtful_3 13 rfl)
theorem dX11_isDoubtful_110 : decode cX11_isDoubtful 110 = .ok (.ireturn, 1) := dq_172 (kX11_isDoubtful_3 14 rfl)

def bX11_word_0 : List UInt8 := [27, 3, 17, 3, 232, 184, 0, 112, 153, 0, 18, 42, 180, 0, 88, 27, 3, 3, 3, 3, 182, 0, 205, 167, 0, 4, 2, 172]
theorem kX11_word_0 (j : Nat) {b : UInt8} (hj : bX11_word_0[j]? = some b) : AtB cX11_word (0 + j) b := at_of32 (by decide +kernel) j hj
theorem dX11_word_0 : decode cX11_word 0 = .ok (.iload_n 1, 1) := dq_27 (kX11_word_0 0 rfl)
theorem dX11_word_1 : decode cX11_word 1 = .ok (.iconst 0, 1) := dq_3 (kX11_word_0 1 rfl)
theorem dX11_word_2 : decode cX11_word 2 = .ok (.sipush 1000, 3) := dq_17 (kX11_word_0 2 rfl) (kX11_word_0 3 rfl) (kX11_word_0 4 rfl) (by decide)
theorem dX11_word_5 : decode cX11_word 5 = .ok (.invokestatic 112, 3) := dq_184 (kX11_word_0 5 rfl) (kX11_word_0 6 rfl) (kX11_word_0 7 rfl) rfl
theorem dX11_word_8 : decode cX11_word 8 = .ok (.ifCond .eq 18, 3) := dq_153 (kX11_word_0 8 rfl) (kX11_word_0 9 rfl) (kX11_word_0 10 rfl) (by decide)
theorem dX11_word_11 : decode cX11_word 11 = .ok (.aload_n 0, 1) := dq_42 (kX11_word_0 11 rfl)
theorem dX11_word_12 : decode cX11_word 12 = .ok (.getfield 88, 3) := dq_180 (kX11_word_0 12 rfl) (kX11_word_0 13 rfl) (kX11_word_0 14 rfl) rfl
theorem dX11_word_15 : decode cX11_word 15 = .ok (.iload_n 1, 1) := dq_27 (kX11_word_0 15 rfl)
theorem dX11_word_16 : decode cX11_word 16 = .ok (.iconst 0, 1) := dq_3 (kX11_word_0 16 rfl)
theorem dX11_word_17 : decode cX11_word 17 = .ok (.iconst 0, 1) := dq_3 (kX11_word_0 17 rfl)
theorem dX11_word_18 : decode cX11_word 18 = .ok (.iconst 0, 1) := dq_3 (kX11_word_0 18 rfl)
theorem dX11_word_19 : decode cX11_word 19 = .ok (.iconst 0, 1) := dq_3 (kX11_word_0 19 rfl)
theorem dX11_word_20 : decode cX11_word 20 = .ok (.invokevirtual 205, 3) := dq_182 (kX11_word_0 20 rfl) (kX11_word_0 21 rfl) (kX11_word_0 22 rfl) rfl
theorem dX11_word_23 : decode cX11_word 23 = .ok (.goto 4, 3) := dq_167 (kX11_word_0 23 rfl) (kX11_word_0 24 rfl) (kX11_word_0 25 rfl) (by decide)
theorem dX11_word_26 : decode cX11_word 26 = .ok (.iconst (-1), 1) := dq_2 (kX11_word_0 26 rfl)
theorem dX11_word_27 : decode cX11_word 27 = .ok (.ireturn, 1) := dq_172 (kX11_word_0 27 rfl)

def bX11_asks_0 : List UInt8 := [42, 27, 182, 0, 151, 58, 4, 25, 4, 198, 0, 35, 42, 180, 0, 88, 28, 182, 1, 175, 153, 0, 24, 29, 28, 159, 0, 19, 29, 2, 159, 0]
theorem kX11_asks_0 (j : Nat) {b : UInt8} (hj : bX11_asks_0[j]? = some b) : AtB cX11_asks (0 + j) b := at_of32 (by decide +kernel) j hj
def bX11_asks_1 : List UInt8 := [16, 42, 180, 0, 88, 29, 182, 1, 175, 154, 0, 5, 3, 172, 4, 28, 120, 54, 5, 29, 2, 160, 0, 36, 25, 4, 180, 2, 63, 21, 5, 126]
theorem kX11_asks_1 (j : Nat) {b : UInt8} (hj : bX11_asks_1[j]? = some b) : AtB cX11_asks (32 + j) b := at_of32 (by decide +kernel) j hj
def bX11_asks_2 : List UInt8 := [154, 0, 7, 4, 167, 0, 4, 3, 54, 6, 25, 4, 89, 180, 2, 63, 21, 5, 128, 181, 2, 63, 21, 6, 172, 25, 4, 180, 2, 66, 29, 184]
theorem kX11_asks_2 (j : Nat) {b : UInt8} (hj : bX11_asks_2[j]? = some b) : AtB cX11_asks (64 + j) b := at_of32 (by decide +kernel) j hj
def bX11_asks_3 : List UInt8 := [0, 253, 54, 6, 25, 4, 180, 2, 66, 29, 21, 6, 21, 5, 128, 184, 0, 108, 21, 6, 21, 5, 126, 154, 0, 7, 4, 167, 0, 4, 3, 172]
theorem kX11_asks_3 (j : Nat) {b : UInt8} (hj : bX11_asks_3[j]? = some b) : AtB cX11_asks (96 + j) b := at_of32 (by decide +kernel) j hj
theorem dX11_asks_0 : decode cX11_asks 0 = .ok (.aload_n 0, 1) := dq_42 (kX11_asks_0 0 rfl)
theorem dX11_asks_1 : decode cX11_asks 1 = .ok (.iload_n 1, 1) := dq_27 (kX11_asks_0 1 rfl)
theorem dX11_asks_2 : decode cX11_asks 2 = .ok (.invokevirtual 151, 3) := dq_182 (kX11_asks_0 2 rfl) (kX11_asks_0 3 rfl) (kX11_asks_0 4 rfl) rfl
theorem dX11_asks_5 : decode cX11_asks 5 = .ok (.astore 4, 2) := dq_58 (kX11_asks_0 5 rfl) (kX11_asks_0 6 rfl) rfl
theorem dX11_asks_7 : decode cX11_asks 7 = .ok (.aload 4, 2) := dq_25 (kX11_asks_0 7 rfl) (kX11_asks_0 8 rfl) rfl
theorem dX11_asks_9 : decode cX11_asks 9 = .ok (.ifnull 35, 3) := dq_198 (kX11_asks_0 9 rfl) (kX11_asks_0 10 rfl) (kX11_asks_0 11 rfl) (by decide)
theorem dX11_asks_12 : decode cX11_asks 12 = .ok (.aload_n 0, 1) := dq_42 (kX11_asks_0 12 rfl)
theorem dX11_asks_13 : decode cX11_asks 13 = .ok (.getfield 88, 3) := dq_180 (kX11_asks_0 13 rfl) (kX11_asks_0 14 rfl) (kX11_asks_0 15 rfl) rfl
theorem dX11_asks_16 : decode cX11_asks 16 = .ok (.iload_n 2, 1) := dq_28 (kX11_asks_0 16 rfl)
theorem dX11_asks_17 : decode cX11_asks 17 = .ok (.invokevirtual 431, 3) := dq_182 (kX11_asks_0 17 rfl) (kX11_asks_0 18 rfl) (kX11_asks_0 19 rfl) rfl
theorem dX11_asks_20 : decode cX11_asks 20 = .ok (.ifCond .eq 24, 3) := dq_153 (kX11_asks_0 20 rfl) (kX11_asks_0 21 rfl) (kX11_asks_0 22 rfl) (by decide)
theorem dX11_asks_23 : decode cX11_asks 23 = .ok (.iload_n 3, 1) := dq_29 (kX11_asks_0 23 rfl)
theorem dX11_asks_24 : decode cX11_asks 24 = .ok (.iload_n 2, 1) := dq_28 (kX11_asks_0 24 rfl)
theorem dX11_asks_25 : decode cX11_asks 25 = .ok (.if_icmp .eq 19, 3) := dq_159 (kX11_asks_0 25 rfl) (kX11_asks_0 26 rfl) (kX11_asks_0 27 rfl) (by decide)
theorem dX11_asks_28 : decode cX11_asks 28 = .ok (.iload_n 3, 1) := dq_29 (kX11_asks_0 28 rfl)
theorem dX11_asks_29 : decode cX11_asks 29 = .ok (.iconst (-1), 1) := dq_2 (kX11_asks_0 29 rfl)
theorem dX11_asks_30 : decode cX11_asks 30 = .ok (.if_icmp .eq 16, 3) := dq_159 (kX11_asks_0 30 rfl) (kX11_asks_0 31 rfl) (kX11_asks_1 0 rfl) (by decide)
theorem dX11_asks_33 : decode cX11_asks 33 = .ok (.aload_n 0, 1) := dq_42 (kX11_asks_1 1 rfl)
theorem dX11_asks_34 : decode cX11_asks 34 = .ok (.getfield 88, 3) := dq_180 (kX11_asks_1 2 rfl) (kX11_asks_1 3 rfl) (kX11_asks_1 4 rfl) rfl
theorem dX11_asks_37 : decode cX11_asks 37 = .ok (.iload_n 3, 1) := dq_29 (kX11_asks_1 5 rfl)
theorem dX11_asks_38 : decode cX11_asks 38 = .ok (.invokevirtual 431, 3) := dq_182 (kX11_asks_1 6 rfl) (kX11_asks_1 7 rfl) (kX11_asks_1 8 rfl) rfl
theorem dX11_asks_41 : decode cX11_asks 41 = .ok (.ifCond .ne 5, 3) := dq_154 (kX11_asks_1 9 rfl) (kX11_asks_1 10 rfl) (kX11_asks_1 11 rfl) (by decide)
theorem dX11_asks_44 : decode cX11_asks 44 = .ok (.iconst 0, 1) := dq_3 (kX11_asks_1 12 rfl)
theorem dX11_asks_45 : decode cX11_asks 45 = .ok (.ireturn, 1) := dq_172 (kX11_asks_1 13 rfl)
theorem dX11_asks_46 : decode cX11_asks 46 = .ok (.iconst 1, 1) := dq_4 (kX11_asks_1 14 rfl)
theorem dX11_asks_47 : decode cX11_asks 47 = .ok (.iload_n 2, 1) := dq_28 (kX11_asks_1 15 rfl)
theorem dX11_asks_48 : decode cX11_asks 48 = .ok (.ishl, 1) := dq_120 (kX11_asks_1 16 rfl)
theorem dX11_asks_49 : decode cX11_asks 49 = .ok (.istore 5, 2) := dq_54 (kX11_asks_1 17 rfl) (kX11_asks_1 18 rfl) rfl
theorem dX11_asks_51 : decode cX11_asks 51 = .ok (.iload_n 3, 1) := dq_29 (kX11_asks_1 19 rfl)
theorem dX11_asks_52 : decode cX11_asks 52 = .ok (.iconst (-1), 1) := dq_2 (kX11_asks_1 20 rfl)
theorem dX11_asks_53 : decode cX11_asks 53 = .ok (.if_icmp .ne 36, 3) := dq_160 (kX11_asks_1 21 rfl) (kX11_asks_1 22 rfl) (kX11_asks_1 23 rfl) (by decide)
theorem dX11_asks_56 : decode cX11_asks 56 = .ok (.aload 4, 2) := dq_25 (kX11_asks_1 24 rfl) (kX11_asks_1 25 rfl) rfl
theorem dX11_asks_58 : decode cX11_asks 58 = .ok (.getfield 575, 3) := dq_180 (kX11_asks_1 26 rfl) (kX11_asks_1 27 rfl) (kX11_asks_1 28 rfl) rfl
theorem dX11_asks_61 : decode cX11_asks 61 = .ok (.iload 5, 2) := dq_21 (kX11_asks_1 29 rfl) (kX11_asks_1 30 rfl) rfl
theorem dX11_asks_63 : decode cX11_asks 63 = .ok (.iand, 1) := dq_126 (kX11_asks_1 31 rfl)
theorem dX11_asks_64 : decode cX11_asks 64 = .ok (.ifCond .ne 7, 3) := dq_154 (kX11_asks_2 0 rfl) (kX11_asks_2 1 rfl) (kX11_asks_2 2 rfl) (by decide)
theorem dX11_asks_67 : decode cX11_asks 67 = .ok (.iconst 1, 1) := dq_4 (kX11_asks_2 3 rfl)
theorem dX11_asks_68 : decode cX11_asks 68 = .ok (.goto 4, 3) := dq_167 (kX11_asks_2 4 rfl) (kX11_asks_2 5 rfl) (kX11_asks_2 6 rfl) (by decide)
theorem dX11_asks_71 : decode cX11_asks 71 = .ok (.iconst 0, 1) := dq_3 (kX11_asks_2 7 rfl)
theorem dX11_asks_72 : decode cX11_asks 72 = .ok (.istore 6, 2) := dq_54 (kX11_asks_2 8 rfl) (kX11_asks_2 9 rfl) rfl
theorem dX11_asks_74 : decode cX11_asks 74 = .ok (.aload 4, 2) := dq_25 (kX11_asks_2 10 rfl) (kX11_asks_2 11 rfl) rfl
theorem dX11_asks_76 : decode cX11_asks 76 = .ok (.dup, 1) := dq_89 (kX11_asks_2 12 rfl)
theorem dX11_asks_77 : decode cX11_asks 77 = .ok (.getfield 575, 3) := dq_180 (kX11_asks_2 13 rfl) (kX11_asks_2 14 rfl) (kX11_asks_2 15 rfl) rfl
theorem dX11_asks_80 : decode cX11_asks 80 = .ok (.iload 5, 2) := dq_21 (kX11_asks_2 16 rfl) (kX11_asks_2 17 rfl) rfl
theorem dX11_asks_82 : decode cX11_asks 82 = .ok (.ior, 1) := dq_128 (kX11_asks_2 18 rfl)
theorem dX11_asks_83 : decode cX11_asks 83 = .ok (.putfield 575, 3) := dq_181 (kX11_asks_2 19 rfl) (kX11_asks_2 20 rfl) (kX11_asks_2 21 rfl) rfl
theorem dX11_asks_86 : decode cX11_asks 86 = .ok (.iload 6, 2) := dq_21 (kX11_asks_2 22 rfl) (kX11_asks_2 23 rfl) rfl
theorem dX11_asks_88 : decode cX11_asks 88 = .ok (.ireturn, 1) := dq_172 (kX11_asks_2 24 rfl)
theorem dX11_asks_89 : decode cX11_asks 89 = .ok (.aload 4, 2) := dq_25 (kX11_asks_2 25 rfl) (kX11_asks_2 26 rfl) rfl
theorem dX11_asks_91 : decode cX11_asks 91 = .ok (.getfield 578, 3) := dq_180 (kX11_asks_2 27 rfl) (kX11_asks_2 28 rfl) (kX11_asks_2 29 rfl) rfl
theorem dX11_asks_94 : decode cX11_asks 94 = .ok (.iload_n 3, 1) := dq_29 (kX11_asks_2 30 rfl)
theorem dX11_asks_95 : decode cX11_asks 95 = .ok (.invokestatic 253, 3) := dq_184 (kX11_asks_2 31 rfl) (kX11_asks_3 0 rfl) (kX11_asks_3 1 rfl) rfl
theorem dX11_asks_98 : decode cX11_asks 98 = .ok (.istore 6, 2) := dq_54 (kX11_asks_3 2 rfl) (kX11_asks_3 3 rfl) rfl
theorem dX11_asks_100 : decode cX11_asks 100 = .ok (.aload 4, 2) := dq_25 (kX11_asks_3 4 rfl) (kX11_asks_3 5 rfl) rfl
theorem dX11_asks_102 : decode cX11_asks 102 = .ok (.getfield 578, 3) := dq_180 (kX11_asks_3 6 rfl) (kX11_asks_3 7 rfl) (kX11_asks_3 8 rfl) rfl
theorem dX11_asks_105 : decode cX11_asks 105 = .ok (.iload_n 3, 1) := dq_29 (kX11_asks_3 9 rfl)
theorem dX11_asks_106 : decode cX11_asks 106 = .ok (.iload 6, 2) := dq_21 (kX11_asks_3 10 rfl) (kX11_asks_3 11 rfl) rfl
theorem dX11_asks_108 : decode cX11_asks 108 = .ok (.iload 5, 2) := dq_21 (kX11_asks_3 12 rfl) (kX11_asks_3 13 rfl) rfl
theorem dX11_asks_110 : decode cX11_asks 110 = .ok (.ior, 1) := dq_128 (kX11_asks_3 14 rfl)
theorem dX11_asks_111 : decode cX11_asks 111 = .ok (.invokestatic 108, 3) := dq_184 (kX11_asks_3 15 rfl) (kX11_asks_3 16 rfl) (kX11_asks_3 17 rfl) rfl
theorem dX11_asks_114 : decode cX11_asks 114 = .ok (.iload 6, 2) := dq_21 (kX11_asks_3 18 rfl) (kX11_asks_3 19 rfl) rfl
theorem dX11_asks_116 : decode cX11_asks 116 = .ok (.iload 5, 2) := dq_21 (kX11_asks_3 20 rfl) (kX11_asks_3 21 rfl) rfl
theorem dX11_asks_118 : decode cX11_asks 118 = .ok (.iand, 1) := dq_126 (kX11_asks_3 22 rfl)
theorem dX11_asks_119 : decode cX11_asks 119 = .ok (.ifCond .ne 7, 3) := dq_154 (kX11_asks_3 23 rfl) (kX11_asks_3 24 rfl) (kX11_asks_3 25 rfl) (by decide)
theorem dX11_asks_122 : decode cX11_asks 122 = .ok (.iconst 1, 1) := dq_4 (kX11_asks_3 26 rfl)
theorem dX11_asks_123 : decode cX11_asks 123 = .ok (.goto 4, 3) := dq_167 (kX11_asks_3 27 rfl) (kX11_asks_3 28 rfl) (kX11_asks_3 29 rfl) (by decide)
theorem dX11_asks_126 : decode cX11_asks 126 = .ok (.iconst 0, 1) := dq_3 (kX11_asks_3 30 rfl)
theorem dX11_asks_127 : decode cX11_asks 127 = .ok (.ireturn, 1) := dq_172 (kX11_asks_3 31 rfl)

def bX11_blocks_0 : List UInt8 := [27, 3, 4, 42, 180, 0, 88, 180, 0, 199, 120, 4, 100, 184, 0, 112, 153, 0, 11, 42, 27, 182, 2, 69, 167, 0, 4, 2, 172]
theorem kX11_blocks_0 (j : Nat) {b : UInt8} (hj : bX11_blocks_0[j]? = some b) : AtB cX11_blocks (0 + j) b := at_of32 (by decide +kernel) j hj
theorem dX11_blocks_0 : decode cX11_blocks 0 = .ok (.iload_n 1, 1) := dq_27 (kX11_blocks_0 0 rfl)
theorem dX11_blocks_1 : decode cX11_blocks 1 = .ok (.iconst 0, 1) := dq_3 (kX11_blocks_0 1 rfl)
theorem dX11_blocks_2 : decode cX11_blocks 2 = .ok (.iconst 1, 1) := dq_4 (kX11_blocks_0 2 rfl)
theorem dX11_blocks_3 : decode cX11_blocks 3 = .ok (.aload_n 0, 1) := dq_42 (kX11_blocks_0 3 rfl)
theorem dX11_blocks_4 : decode cX11_blocks 4 = .ok (.getfield 88, 3) := dq_180 (kX11_blocks_0 4 rfl) (kX11_blocks_0 5 rfl) (kX11_blocks_0 6 rfl) rfl
theorem dX11_blocks_7 : decode cX11_blocks 7 = .ok (.getfield 199, 3) := dq_180 (kX11_blocks_0 7 rfl) (kX11_blocks_0 8 rfl) (kX11_blocks_0 9 rfl) rfl
theorem dX11_blocks_10 : decode cX11_blocks 10 = .ok (.ishl, 1) := dq_120 (kX11_blocks_0 10 rfl)
theorem dX11_blocks_11 : decode cX11_blocks 11 = .ok (.iconst 1, 1) := dq_4 (kX11_blocks_0 11 rfl)
theorem dX11_blocks_12 : decode cX11_blocks 12 = .ok (.isub, 1) := dq_100 (kX11_blocks_0 12 rfl)
theorem dX11_blocks_13 : decode cX11_blocks 13 = .ok (.invokestatic 112, 3) := dq_184 (kX11_blocks_0 13 rfl) (kX11_blocks_0 14 rfl) (kX11_blocks_0 15 rfl) rfl
theorem dX11_blocks_16 : decode cX11_blocks 16 = .ok (.ifCond .eq 11, 3) := dq_153 (kX11_blocks_0 16 rfl) (kX11_blocks_0 17 rfl) (kX11_blocks_0 18 rfl) (by decide)
theorem dX11_blocks_19 : decode cX11_blocks 19 = .ok (.aload_n 0, 1) := dq_42 (kX11_blocks_0 19 rfl)
theorem dX11_blocks_20 : decode cX11_blocks 20 = .ok (.iload_n 1, 1) := dq_27 (kX11_blocks_0 20 rfl)
theorem dX11_blocks_21 : decode cX11_blocks 21 = .ok (.invokevirtual 581, 3) := dq_182 (kX11_blocks_0 21 rfl) (kX11_blocks_0 22 rfl) (kX11_blocks_0 23 rfl) rfl
theorem dX11_blocks_24 : decode cX11_blocks 24 = .ok (.goto 4, 3) := dq_167 (kX11_blocks_0 24 rfl) (kX11_blocks_0 25 rfl) (kX11_blocks_0 26 rfl) (by decide)
theorem dX11_blocks_27 : decode cX11_blocks 27 = .ok (.iconst (-1), 1) := dq_2 (kX11_blocks_0 27 rfl)
theorem dX11_blocks_28 : decode cX11_blocks 28 = .ok (.ireturn, 1) := dq_172 (kX11_blocks_0 28 rfl)

def bX11_best_0 : List UInt8 := [42, 42, 180, 0, 12, 180, 0, 145, 182, 1, 113, 60, 3, 61, 3, 62, 4, 54, 4, 21, 4, 4, 42, 180, 0, 88, 180, 0, 199, 120, 162, 0]
theorem kX11_best_0 (j : Nat) {b : UInt8} (hj : bX11_best_0[j]? = some b) : AtB cX11_best (0 + j) b := at_of32 (by decide +kernel) j hj
def bX11_best_1 : List UInt8 := [70, 42, 21, 4, 182, 2, 72, 54, 5, 21, 5, 29, 160, 0, 19, 21, 4, 184, 1, 30, 28, 184, 1, 30, 162, 0, 7, 4, 167, 0, 4, 3]
theorem kX11_best_1 (j : Nat) {b : UInt8} (hj : bX11_best_1[j]? = some b) : AtB cX11_best (32 + j) b := at_of32 (by decide +kernel) j hj
def bX11_best_2 : List UInt8 := [54, 6, 21, 5, 29, 163, 0, 8, 21, 6, 153, 0, 20, 42, 21, 4, 182, 2, 69, 27, 126, 154, 0, 9, 21, 4, 61, 21, 5, 62, 132, 4]
theorem kX11_best_2 (j : Nat) {b : UInt8} (hj : bX11_best_2[j]? = some b) : AtB cX11_best (64 + j) b := at_of32 (by decide +kernel) j hj
def bX11_best_3 : List UInt8 := [1, 167, 255, 178, 28, 172]
theorem kX11_best_3 (j : Nat) {b : UInt8} (hj : bX11_best_3[j]? = some b) : AtB cX11_best (96 + j) b := at_of32 (by decide +kernel) j hj
theorem dX11_best_0 : decode cX11_best 0 = .ok (.aload_n 0, 1) := dq_42 (kX11_best_0 0 rfl)
theorem dX11_best_1 : decode cX11_best 1 = .ok (.aload_n 0, 1) := dq_42 (kX11_best_0 1 rfl)
theorem dX11_best_2 : decode cX11_best 2 = .ok (.getfield 12, 3) := dq_180 (kX11_best_0 2 rfl) (kX11_best_0 3 rfl) (kX11_best_0 4 rfl) rfl
theorem dX11_best_5 : decode cX11_best 5 = .ok (.getfield 145, 3) := dq_180 (kX11_best_0 5 rfl) (kX11_best_0 6 rfl) (kX11_best_0 7 rfl) rfl
theorem dX11_best_8 : decode cX11_best 8 = .ok (.invokevirtual 369, 3) := dq_182 (kX11_best_0 8 rfl) (kX11_best_0 9 rfl) (kX11_best_0 10 rfl) rfl
theorem dX11_best_11 : decode cX11_best 11 = .ok (.istore_n 1, 1) := dq_60 (kX11_best_0 11 rfl)
theorem dX11_best_12 : decode cX11_best 12 = .ok (.iconst 0, 1) := dq_3 (kX11_best_0 12 rfl)
theorem dX11_best_13 : decode cX11_best 13 = .ok (.istore_n 2, 1) := dq_61 (kX11_best_0 13 rfl)
theorem dX11_best_14 : decode cX11_best 14 = .ok (.iconst 0, 1) := dq_3 (kX11_best_0 14 rfl)
theorem dX11_best_15 : decode cX11_best 15 = .ok (.istore_n 3, 1) := dq_62 (kX11_best_0 15 rfl)
theorem dX11_best_16 : decode cX11_best 16 = .ok (.iconst 1, 1) := dq_4 (kX11_best_0 16 rfl)
theorem dX11_best_17 : decode cX11_best 17 = .ok (.istore 4, 2) := dq_54 (kX11_best_0 17 rfl) (kX11_best_0 18 rfl) rfl
theorem dX11_best_19 : decode cX11_best 19 = .ok (.iload 4, 2) := dq_21 (kX11_best_0 19 rfl) (kX11_best_0 20 rfl) rfl
theorem dX11_best_21 : decode cX11_best 21 = .ok (.iconst 1, 1) := dq_4 (kX11_best_0 21 rfl)
theorem dX11_best_22 : decode cX11_best 22 = .ok (.aload_n 0, 1) := dq_42 (kX11_best_0 22 rfl)
theorem dX11_best_23 : decode cX11_best 23 = .ok (.getfield 88, 3) := dq_180 (kX11_best_0 23 rfl) (kX11_best_0 24 rfl) (kX11_best_0 25 rfl) rfl
theorem dX11_best_26 : decode cX11_best 26 = .ok (.getfield 199, 3) := dq_180 (kX11_best_0 26 rfl) (kX11_best_0 27 rfl) (kX11_best_0 28 rfl) rfl
theorem dX11_best_29 : decode cX11_best 29 = .ok (.ishl, 1) := dq_120 (kX11_best_0 29 rfl)
theorem dX11_best_30 : decode cX11_best 30 = .ok (.if_icmp .ge 70, 3) := dq_162 (kX11_best_0 30 rfl) (kX11_best_0 31 rfl) (kX11_best_1 0 rfl) (by decide)
theorem dX11_best_33 : decode cX11_best 33 = .ok (.aload_n 0, 1) := dq_42 (kX11_best_1 1 rfl)
theorem dX11_best_34 : decode cX11_best 34 = .ok (.iload 4, 2) := dq_21 (kX11_best_1 2 rfl) (kX11_best_1 3 rfl) rfl
theorem dX11_best_36 : decode cX11_best 36 = .ok (.invokevirtual 584, 3) := dq_182 (kX11_best_1 4 rfl) (kX11_best_1 5 rfl) (kX11_best_1 6 rfl) rfl
theorem dX11_best_39 : decode cX11_best 39 = .ok (.istore 5, 2) := dq_54 (kX11_best_1 7 rfl) (kX11_best_1 8 rfl) rfl
theorem dX11_best_41 : decode cX11_best 41 = .ok (.iload 5, 2) := dq_21 (kX11_best_1 9 rfl) (kX11_best_1 10 rfl) rfl
theorem dX11_best_43 : decode cX11_best 43 = .ok (.iload_n 3, 1) := dq_29 (kX11_best_1 11 rfl)
theorem dX11_best_44 : decode cX11_best 44 = .ok (.if_icmp .ne 19, 3) := dq_160 (kX11_best_1 12 rfl) (kX11_best_1 13 rfl) (kX11_best_1 14 rfl) (by decide)
theorem dX11_best_47 : decode cX11_best 47 = .ok (.iload 4, 2) := dq_21 (kX11_best_1 15 rfl) (kX11_best_1 16 rfl) rfl
theorem dX11_best_49 : decode cX11_best 49 = .ok (.invokestatic 286, 3) := dq_184 (kX11_best_1 17 rfl) (kX11_best_1 18 rfl) (kX11_best_1 19 rfl) rfl
theorem dX11_best_52 : decode cX11_best 52 = .ok (.iload_n 2, 1) := dq_28 (kX11_best_1 20 rfl)
theorem dX11_best_53 : decode cX11_best 53 = .ok (.invokestatic 286, 3) := dq_184 (kX11_best_1 21 rfl) (kX11_best_1 22 rfl) (kX11_best_1 23 rfl) rfl
theorem dX11_best_56 : decode cX11_best 56 = .ok (.if_icmp .ge 7, 3) := dq_162 (kX11_best_1 24 rfl) (kX11_best_1 25 rfl) (kX11_best_1 26 rfl) (by decide)
theorem dX11_best_59 : decode cX11_best 59 = .ok (.iconst 1, 1) := dq_4 (kX11_best_1 27 rfl)
theorem dX11_best_60 : decode cX11_best 60 = .ok (.goto 4, 3) := dq_167 (kX11_best_1 28 rfl) (kX11_best_1 29 rfl) (kX11_best_1 30 rfl) (by decide)
theorem dX11_best_63 : decode cX11_best 63 = .ok (.iconst 0, 1) := dq_3 (kX11_best_1 31 rfl)
theorem dX11_best_64 : decode cX11_best 64 = .ok (.istore 6, 2) := dq_54 (kX11_best_2 0 rfl) (kX11_best_2 1 rfl) rfl
theorem dX11_best_66 : decode cX11_best 66 = .ok (.iload 5, 2) := dq_21 (kX11_best_2 2 rfl) (kX11_best_2 3 rfl) rfl
theorem dX11_best_68 : decode cX11_best 68 = .ok (.iload_n 3, 1) := dq_29 (kX11_best_2 4 rfl)
theorem dX11_best_69 : decode cX11_best 69 = .ok (.if_icmp .gt 8, 3) := dq_163 (kX11_best_2 5 rfl) (kX11_best_2 6 rfl) (kX11_best_2 7 rfl) (by decide)
theorem dX11_best_72 : decode cX11_best 72 = .ok (.iload 6, 2) := dq_21 (kX11_best_2 8 rfl) (kX11_best_2 9 rfl) rfl
theorem dX11_best_74 : decode cX11_best 74 = .ok (.ifCond .eq 20, 3) := dq_153 (kX11_best_2 10 rfl) (kX11_best_2 11 rfl) (kX11_best_2 12 rfl) (by decide)
theorem dX11_best_77 : decode cX11_best 77 = .ok (.aload_n 0, 1) := dq_42 (kX11_best_2 13 rfl)
theorem dX11_best_78 : decode cX11_best 78 = .ok (.iload 4, 2) := dq_21 (kX11_best_2 14 rfl) (kX11_best_2 15 rfl) rfl
theorem dX11_best_80 : decode cX11_best 80 = .ok (.invokevirtual 581, 3) := dq_182 (kX11_best_2 16 rfl) (kX11_best_2 17 rfl) (kX11_best_2 18 rfl) rfl
theorem dX11_best_83 : decode cX11_best 83 = .ok (.iload_n 1, 1) := dq_27 (kX11_best_2 19 rfl)
theorem dX11_best_84 : decode cX11_best 84 = .ok (.iand, 1) := dq_126 (kX11_best_2 20 rfl)
theorem dX11_best_85 : decode cX11_best 85 = .ok (.ifCond .ne 9, 3) := dq_154 (kX11_best_2 21 rfl) (kX11_best_2 22 rfl) (kX11_best_2 23 rfl) (by decide)
theorem dX11_best_88 : decode cX11_best 88 = .ok (.iload 4, 2) := dq_21 (kX11_best_2 24 rfl) (kX11_best_2 25 rfl) rfl
theorem dX11_best_90 : decode cX11_best 90 = .ok (.istore_n 2, 1) := dq_61 (kX11_best_2 26 rfl)
theorem dX11_best_91 : decode cX11_best 91 = .ok (.iload 5, 2) := dq_21 (kX11_best_2 27 rfl) (kX11_best_2 28 rfl) rfl
theorem dX11_best_93 : decode cX11_best 93 = .ok (.istore_n 3, 1) := dq_62 (kX11_best_2 29 rfl)
theorem dX11_best_94 : decode cX11_best 94 = .ok (.iinc 4 1, 3) := dq_132 (kX11_best_2 30 rfl) (kX11_best_2 31 rfl) (kX11_best_3 0 rfl) rfl (by decide)
theorem dX11_best_97 : decode cX11_best 97 = .ok (.goto (-78), 3) := dq_167 (kX11_best_3 1 rfl) (kX11_best_3 2 rfl) (kX11_best_3 3 rfl) (by decide)
theorem dX11_best_100 : decode cX11_best 100 = .ok (.iload_n 2, 1) := dq_28 (kX11_best_3 4 rfl)
theorem dX11_best_101 : decode cX11_best 101 = .ok (.ireturn, 1) := dq_172 (kX11_best_3 5 rfl)

def bX11_blockers_0 : List UInt8 := [3, 61, 3, 62, 29, 42, 180, 0, 36, 162, 0, 36, 42, 29, 182, 0, 151, 58, 4, 25, 4, 198, 0, 18, 25, 4, 27, 182, 2, 75, 153, 0]
theorem kX11_blockers_0 (j : Nat) {b : UInt8} (hj : bX11_blockers_0[j]? = some b) : AtB cX11_blockers (0 + j) b := at_of32 (by decide +kernel) j hj
def bX11_blockers_1 : List UInt8 := [9, 28, 4, 29, 120, 128, 61, 132, 3, 1, 167, 255, 218, 28, 172]
theorem kX11_blockers_1 (j : Nat) {b : UInt8} (hj : bX11_blockers_1[j]? = some b) : AtB cX11_blockers (32 + j) b := at_of32 (by decide +kernel) j hj
theorem dX11_blockers_0 : decode cX11_blockers 0 = .ok (.iconst 0, 1) := dq_3 (kX11_blockers_0 0 rfl)
theorem dX11_blockers_1 : decode cX11_blockers 1 = .ok (.istore_n 2, 1) := dq_61 (kX11_blockers_0 1 rfl)
theorem dX11_blockers_2 : decode cX11_blockers 2 = .ok (.iconst 0, 1) := dq_3 (kX11_blockers_0 2 rfl)
theorem dX11_blockers_3 : decode cX11_blockers 3 = .ok (.istore_n 3, 1) := dq_62 (kX11_blockers_0 3 rfl)
theorem dX11_blockers_4 : decode cX11_blockers 4 = .ok (.iload_n 3, 1) := dq_29 (kX11_blockers_0 4 rfl)
theorem dX11_blockers_5 : decode cX11_blockers 5 = .ok (.aload_n 0, 1) := dq_42 (kX11_blockers_0 5 rfl)
theorem dX11_blockers_6 : decode cX11_blockers 6 = .ok (.getfield 36, 3) := dq_180 (kX11_blockers_0 6 rfl) (kX11_blockers_0 7 rfl) (kX11_blockers_0 8 rfl) rfl
theorem dX11_blockers_9 : decode cX11_blockers 9 = .ok (.if_icmp .ge 36, 3) := dq_162 (kX11_blockers_0 9 rfl) (kX11_blockers_0 10 rfl) (kX11_blockers_0 11 rfl) (by decide)
theorem dX11_blockers_12 : decode cX11_blockers 12 = .ok (.aload_n 0, 1) := dq_42 (kX11_blockers_0 12 rfl)
theorem dX11_blockers_13 : decode cX11_blockers 13 = .ok (.iload_n 3, 1) := dq_29 (kX11_blockers_0 13 rfl)
theorem dX11_blockers_14 : decode cX11_blockers 14 = .ok (.invokevirtual 151, 3) := dq_182 (kX11_blockers_0 14 rfl) (kX11_blockers_0 15 rfl) (kX11_blockers_0 16 rfl) rfl
theorem dX11_blockers_17 : decode cX11_blockers 17 = .ok (.astore 4, 2) := dq_58 (kX11_blockers_0 17 rfl) (kX11_blockers_0 18 rfl) rfl
theorem dX11_blockers_19 : decode cX11_blockers 19 = .ok (.aload 4, 2) := dq_25 (kX11_blockers_0 19 rfl) (kX11_blockers_0 20 rfl) rfl
theorem dX11_blockers_21 : decode cX11_blockers 21 = .ok (.ifnull 18, 3) := dq_198 (kX11_blockers_0 21 rfl) (kX11_blockers_0 22 rfl) (kX11_blockers_0 23 rfl) (by decide)
theorem dX11_blockers_24 : decode cX11_blockers 24 = .ok (.aload 4, 2) := dq_25 (kX11_blockers_0 24 rfl) (kX11_blockers_0 25 rfl) rfl
theorem dX11_blockers_26 : decode cX11_blockers 26 = .ok (.iload_n 1, 1) := dq_27 (kX11_blockers_0 26 rfl)
theorem dX11_blockers_27 : decode cX11_blockers 27 = .ok (.invokevirtual 587, 3) := dq_182 (kX11_blockers_0 27 rfl) (kX11_blockers_0 28 rfl) (kX11_blockers_0 29 rfl) rfl
theorem dX11_blockers_30 : decode cX11_blockers 30 = .ok (.ifCond .eq 9, 3) := dq_153 (kX11_blockers_0 30 rfl) (kX11_blockers_0 31 rfl) (kX11_blockers_1 0 rfl) (by decide)
theorem dX11_blockers_33 : decode cX11_blockers 33 = .ok (.iload_n 2, 1) := dq_28 (kX11_blockers_1 1 rfl)
theorem dX11_blockers_34 : decode cX11_blockers 34 = .ok (.iconst 1, 1) := dq_4 (kX11_blockers_1 2 rfl)
theorem dX11_blockers_35 : decode cX11_blockers 35 = .ok (.iload_n 3, 1) := dq_29 (kX11_blockers_1 3 rfl)
theorem dX11_blockers_36 : decode cX11_blockers 36 = .ok (.ishl, 1) := dq_120 (kX11_blockers_1 4 rfl)
theorem dX11_blockers_37 : decode cX11_blockers 37 = .ok (.ior, 1) := dq_128 (kX11_blockers_1 5 rfl)
theorem dX11_blockers_38 : decode cX11_blockers 38 = .ok (.istore_n 2, 1) := dq_61 (kX11_blockers_1 6 rfl)
theorem dX11_blockers_39 : decode cX11_blockers 39 = .ok (.iinc 3 1, 3) := dq_132 (kX11_blockers_1 7 rfl) (kX11_blockers_1 8 rfl) (kX11_blockers_1 9 rfl) rfl (by decide)
theorem dX11_blockers_42 : decode cX11_blockers 42 = .ok (.goto (-38), 3) := dq_167 (kX11_blockers_1 10 rfl) (kX11_blockers_1 11 rfl) (kX11_blockers_1 12 rfl) (by decide)
theorem dX11_blockers_45 : decode cX11_blockers 45 = .ok (.iload_n 2, 1) := dq_28 (kX11_blockers_1 13 rfl)
theorem dX11_blockers_46 : decode cX11_blockers 46 = .ok (.ireturn, 1) := dq_172 (kX11_blockers_1 14 rfl)

def bX11_worthOf_0 : List UInt8 := [3, 61, 3, 62, 29, 42, 180, 0, 88, 180, 0, 199, 162, 0, 29, 27, 29, 122, 4, 126, 153, 0, 15, 28, 42, 180, 0, 88, 29, 3, 182, 0]
theorem kX11_worthOf_0 (j : Nat) {b : UInt8} (hj : bX11_worthOf_0[j]? = some b) : AtB cX11_worthOf (0 + j) b := at_of32 (by decide +kernel) j hj
def bX11_worthOf_1 : List UInt8 := [209, 96, 61, 132, 3, 1, 167, 255, 222, 28, 172]
theorem kX11_worthOf_1 (j : Nat) {b : UInt8} (hj : bX11_worthOf_1[j]? = some b) : AtB cX11_worthOf (32 + j) b := at_of32 (by decide +kernel) j hj
theorem dX11_worthOf_0 : decode cX11_worthOf 0 = .ok (.iconst 0, 1) := dq_3 (kX11_worthOf_0 0 rfl)
theorem dX11_worthOf_1 : decode cX11_worthOf 1 = .ok (.istore_n 2, 1) := dq_61 (kX11_worthOf_0 1 rfl)
theorem dX11_worthOf_2 : decode cX11_worthOf 2 = .ok (.iconst 0, 1) := dq_3 (kX11_worthOf_0 2 rfl)
theorem dX11_worthOf_3 : decode cX11_worthOf 3 = .ok (.istore_n 3, 1) := dq_62 (kX11_worthOf_0 3 rfl)
theorem dX11_worthOf_4 : decode cX11_worthOf 4 = .ok (.iload_n 3, 1) := dq_29 (kX11_worthOf_0 4 rfl)
theorem dX11_worthOf_5 : decode cX11_worthOf 5 = .ok (.aload_n 0, 1) := dq_42 (kX11_worthOf_0 5 rfl)
theorem dX11_worthOf_6 : decode cX11_worthOf 6 = .ok (.getfield 88, 3) := dq_180 (kX11_worthOf_0 6 rfl) (kX11_worthOf_0 7 rfl) (kX11_worthOf_0 8 rfl) rfl
theorem dX11_worthOf_9 : decode cX11_worthOf 9 = .ok (.getfield 199, 3) := dq_180 (kX11_worthOf_0 9 rfl) (kX11_worthOf_0 10 rfl) (kX11_worthOf_0 11 rfl) rfl
theorem dX11_worthOf_12 : decode cX11_worthOf 12 = .ok (.if_icmp .ge 29, 3) := dq_162 (kX11_worthOf_0 12 rfl) (kX11_worthOf_0 13 rfl) (kX11_worthOf_0 14 rfl) (by decide)
theorem dX11_worthOf_15 : decode cX11_worthOf 15 = .ok (.iload_n 1, 1) := dq_27 (kX11_worthOf_0 15 rfl)
theorem dX11_worthOf_16 : decode cX11_worthOf 16 = .ok (.iload_n 3, 1) := dq_29 (kX11_worthOf_0 16 rfl)
theorem dX11_worthOf_17 : decode cX11_worthOf 17 = .ok (.ishr, 1) := dq_122 (kX11_worthOf_0 17 rfl)
theorem dX11_worthOf_18 : decode cX11_worthOf 18 = .ok (.iconst 1, 1) := dq_4 (kX11_worthOf_0 18 rfl)
theorem dX11_worthOf_19 : decode cX11_worthOf 19 = .ok (.iand, 1) := dq_126 (kX11_worthOf_0 19 rfl)
theorem dX11_worthOf_20 : decode cX11_worthOf 20 = .ok (.ifCond .eq 15, 3) := dq_153 (kX11_worthOf_0 20 rfl) (kX11_worthOf_0 21 rfl) (kX11_worthOf_0 22 rfl) (by decide)
theorem dX11_worthOf_23 : decode cX11_worthOf 23 = .ok (.iload_n 2, 1) := dq_28 (kX11_worthOf_0 23 rfl)
theorem dX11_worthOf_24 : decode cX11_worthOf 24 = .ok (.aload_n 0, 1) := dq_42 (kX11_worthOf_0 24 rfl)
theorem dX11_worthOf_25 : decode cX11_worthOf 25 = .ok (.getfield 88, 3) := dq_180 (kX11_worthOf_0 25 rfl) (kX11_worthOf_0 26 rfl) (kX11_worthOf_0 27 rfl) rfl
theorem dX11_worthOf_28 : decode cX11_worthOf 28 = .ok (.iload_n 3, 1) := dq_29 (kX11_worthOf_0 28 rfl)
theorem dX11_worthOf_29 : decode cX11_worthOf 29 = .ok (.iconst 0, 1) := dq_3 (kX11_worthOf_0 29 rfl)
theorem dX11_worthOf_30 : decode cX11_worthOf 30 = .ok (.invokevirtual 209, 3) := dq_182 (kX11_worthOf_0 30 rfl) (kX11_worthOf_0 31 rfl) (kX11_worthOf_1 0 rfl) rfl
theorem dX11_worthOf_33 : decode cX11_worthOf 33 = .ok (.iadd, 1) := dq_96 (kX11_worthOf_1 1 rfl)
theorem dX11_worthOf_34 : decode cX11_worthOf 34 = .ok (.istore_n 2, 1) := dq_61 (kX11_worthOf_1 2 rfl)
theorem dX11_worthOf_35 : decode cX11_worthOf 35 = .ok (.iinc 3 1, 3) := dq_132 (kX11_worthOf_1 3 rfl) (kX11_worthOf_1 4 rfl) (kX11_worthOf_1 5 rfl) rfl (by decide)
theorem dX11_worthOf_38 : decode cX11_worthOf 38 = .ok (.goto (-34), 3) := dq_167 (kX11_worthOf_1 6 rfl) (kX11_worthOf_1 7 rfl) (kX11_worthOf_1 8 rfl) (by decide)
theorem dX11_worthOf_41 : decode cX11_worthOf 41 = .ok (.iload_n 2, 1) := dq_28 (kX11_worthOf_1 9 rfl)
theorem dX11_worthOf_42 : decode cX11_worthOf 42 = .ok (.ireturn, 1) := dq_172 (kX11_worthOf_1 10 rfl)

def bX11_stop_0 : List UInt8 := [42, 27, 182, 0, 195, 198, 0, 25, 28, 3, 17, 39, 16, 184, 0, 112, 153, 0, 14, 42, 180, 0, 26, 27, 182, 2, 78, 153, 0, 5, 2, 172]
theorem kX11_stop_0 (j : Nat) {b : UInt8} (hj : bX11_stop_0[j]? = some b) : AtB cX11_stop (0 + j) b := at_of32 (by decide +kernel) j hj
def bX11_stop_1 : List UInt8 := [42, 180, 0, 26, 182, 1, 179, 42, 180, 0, 26, 180, 2, 81, 27, 28, 3, 3, 3, 182, 0, 205, 172]
theorem kX11_stop_1 (j : Nat) {b : UInt8} (hj : bX11_stop_1[j]? = some b) : AtB cX11_stop (32 + j) b := at_of32 (by decide +kernel) j hj
theorem dX11_stop_0 : decode cX11_stop 0 = .ok (.aload_n 0, 1) := dq_42 (kX11_stop_0 0 rfl)
theorem dX11_stop_1 : decode cX11_stop 1 = .ok (.iload_n 1, 1) := dq_27 (kX11_stop_0 1 rfl)
theorem dX11_stop_2 : decode cX11_stop 2 = .ok (.invokevirtual 195, 3) := dq_182 (kX11_stop_0 2 rfl) (kX11_stop_0 3 rfl) (kX11_stop_0 4 rfl) rfl
theorem dX11_stop_5 : decode cX11_stop 5 = .ok (.ifnull 25, 3) := dq_198 (kX11_stop_0 5 rfl) (kX11_stop_0 6 rfl) (kX11_stop_0 7 rfl) (by decide)
theorem dX11_stop_8 : decode cX11_stop 8 = .ok (.iload_n 2, 1) := dq_28 (kX11_stop_0 8 rfl)
theorem dX11_stop_9 : decode cX11_stop 9 = .ok (.iconst 0, 1) := dq_3 (kX11_stop_0 9 rfl)
theorem dX11_stop_10 : decode cX11_stop 10 = .ok (.sipush 10000, 3) := dq_17 (kX11_stop_0 10 rfl) (kX11_stop_0 11 rfl) (kX11_stop_0 12 rfl) (by decide)
theorem dX11_stop_13 : decode cX11_stop 13 = .ok (.invokestatic 112, 3) := dq_184 (kX11_stop_0 13 rfl) (kX11_stop_0 14 rfl) (kX11_stop_0 15 rfl) rfl
theorem dX11_stop_16 : decode cX11_stop 16 = .ok (.ifCond .eq 14, 3) := dq_153 (kX11_stop_0 16 rfl) (kX11_stop_0 17 rfl) (kX11_stop_0 18 rfl) (by decide)
theorem dX11_stop_19 : decode cX11_stop 19 = .ok (.aload_n 0, 1) := dq_42 (kX11_stop_0 19 rfl)
theorem dX11_stop_20 : decode cX11_stop 20 = .ok (.getfield 26, 3) := dq_180 (kX11_stop_0 20 rfl) (kX11_stop_0 21 rfl) (kX11_stop_0 22 rfl) rfl
theorem dX11_stop_23 : decode cX11_stop 23 = .ok (.iload_n 1, 1) := dq_27 (kX11_stop_0 23 rfl)
theorem dX11_stop_24 : decode cX11_stop 24 = .ok (.invokevirtual 590, 3) := dq_182 (kX11_stop_0 24 rfl) (kX11_stop_0 25 rfl) (kX11_stop_0 26 rfl) rfl
theorem dX11_stop_27 : decode cX11_stop 27 = .ok (.ifCond .eq 5, 3) := dq_153 (kX11_stop_0 27 rfl) (kX11_stop_0 28 rfl) (kX11_stop_0 29 rfl) (by decide)
theorem dX11_stop_30 : decode cX11_stop 30 = .ok (.iconst (-1), 1) := dq_2 (kX11_stop_0 30 rfl)
theorem dX11_stop_31 : decode cX11_stop 31 = .ok (.ireturn, 1) := dq_172 (kX11_stop_0 31 rfl)
theorem dX11_stop_32 : decode cX11_stop 32 = .ok (.aload_n 0, 1) := dq_42 (kX11_stop_1 0 rfl)
theorem dX11_stop_33 : decode cX11_stop 33 = .ok (.getfield 26, 3) := dq_180 (kX11_stop_1 1 rfl) (kX11_stop_1 2 rfl) (kX11_stop_1 3 rfl) rfl
theorem dX11_stop_36 : decode cX11_stop 36 = .ok (.invokevirtual 435, 3) := dq_182 (kX11_stop_1 4 rfl) (kX11_stop_1 5 rfl) (kX11_stop_1 6 rfl) rfl
theorem dX11_stop_39 : decode cX11_stop 39 = .ok (.aload_n 0, 1) := dq_42 (kX11_stop_1 7 rfl)
theorem dX11_stop_40 : decode cX11_stop 40 = .ok (.getfield 26, 3) := dq_180 (kX11_stop_1 8 rfl) (kX11_stop_1 9 rfl) (kX11_stop_1 10 rfl) rfl
theorem dX11_stop_43 : decode cX11_stop 43 = .ok (.getfield 593, 3) := dq_180 (kX11_stop_1 11 rfl) (kX11_stop_1 12 rfl) (kX11_stop_1 13 rfl) rfl
theorem dX11_stop_46 : decode cX11_stop 46 = .ok (.iload_n 1, 1) := dq_27 (kX11_stop_1 14 rfl)
theorem dX11_stop_47 : decode cX11_stop 47 = .ok (.iload_n 2, 1) := dq_28 (kX11_stop_1 15 rfl)
theorem dX11_stop_48 : decode cX11_stop 48 = .ok (.iconst 0, 1) := dq_3 (kX11_stop_1 16 rfl)
theorem dX11_stop_49 : decode cX11_stop 49 = .ok (.iconst 0, 1) := dq_3 (kX11_stop_1 17 rfl)
theorem dX11_stop_50 : decode cX11_stop 50 = .ok (.iconst 0, 1) := dq_3 (kX11_stop_1 18 rfl)
theorem dX11_stop_51 : decode cX11_stop 51 = .ok (.invokevirtual 205, 3) := dq_182 (kX11_stop_1 19 rfl) (kX11_stop_1 20 rfl) (kX11_stop_1 21 rfl) rfl
theorem dX11_stop_54 : decode cX11_stop 54 = .ok (.ireturn, 1) := dq_172 (kX11_stop_1 22 rfl)

def bX11_open_0 : List UInt8 := [27, 3, 5, 184, 0, 112, 153, 0, 26, 42, 180, 0, 26, 180, 2, 81, 28, 182, 1, 175, 153, 0, 12, 29, 21, 4, 184, 0, 135, 154, 0, 5]
theorem kX11_open_0 (j : Nat) {b : UInt8} (hj : bX11_open_0[j]? = some b) : AtB cX11_open (0 + j) b := at_of32 (by decide +kernel) j hj
def bX11_open_1 : List UInt8 := [3, 172, 42, 180, 0, 26, 182, 1, 179, 42, 180, 0, 26, 180, 2, 84, 27, 16, 8, 104, 28, 96, 29, 184, 0, 108, 42, 180, 0, 26, 180, 2]
theorem kX11_open_1 (j : Nat) {b : UInt8} (hj : bX11_open_1[j]? = some b) : AtB cX11_open (32 + j) b := at_of32 (by decide +kernel) j hj
def bX11_open_2 : List UInt8 := [87, 27, 16, 8, 104, 28, 96, 21, 4, 184, 0, 108, 4, 172]
theorem kX11_open_2 (j : Nat) {b : UInt8} (hj : bX11_open_2[j]? = some b) : AtB cX11_open (64 + j) b := at_of32 (by decide +kernel) j hj
theorem dX11_open_0 : decode cX11_open 0 = .ok (.iload_n 1, 1) := dq_27 (kX11_open_0 0 rfl)
theorem dX11_open_1 : decode cX11_open 1 = .ok (.iconst 0, 1) := dq_3 (kX11_open_0 1 rfl)
theorem dX11_open_2 : decode cX11_open 2 = .ok (.iconst 2, 1) := dq_5 (kX11_open_0 2 rfl)
theorem dX11_open_3 : decode cX11_open 3 = .ok (.invokestatic 112, 3) := dq_184 (kX11_open_0 3 rfl) (kX11_open_0 4 rfl) (kX11_open_0 5 rfl) rfl
theorem dX11_open_6 : decode cX11_open 6 = .ok (.ifCond .eq 26, 3) := dq_153 (kX11_open_0 6 rfl) (kX11_open_0 7 rfl) (kX11_open_0 8 rfl) (by decide)
theorem dX11_open_9 : decode cX11_open 9 = .ok (.aload_n 0, 1) := dq_42 (kX11_open_0 9 rfl)
theorem dX11_open_10 : decode cX11_open 10 = .ok (.getfield 26, 3) := dq_180 (kX11_open_0 10 rfl) (kX11_open_0 11 rfl) (kX11_open_0 12 rfl) rfl
theorem dX11_open_13 : decode cX11_open 13 = .ok (.getfield 593, 3) := dq_180 (kX11_open_0 13 rfl) (kX11_open_0 14 rfl) (kX11_open_0 15 rfl) rfl
theorem dX11_open_16 : decode cX11_open 16 = .ok (.iload_n 2, 1) := dq_28 (kX11_open_0 16 rfl)
theorem dX11_open_17 : decode cX11_open 17 = .ok (.invokevirtual 431, 3) := dq_182 (kX11_open_0 17 rfl) (kX11_open_0 18 rfl) (kX11_open_0 19 rfl) rfl
theorem dX11_open_20 : decode cX11_open 20 = .ok (.ifCond .eq 12, 3) := dq_153 (kX11_open_0 20 rfl) (kX11_open_0 21 rfl) (kX11_open_0 22 rfl) (by decide)
theorem dX11_open_23 : decode cX11_open 23 = .ok (.iload_n 3, 1) := dq_29 (kX11_open_0 23 rfl)
theorem dX11_open_24 : decode cX11_open 24 = .ok (.iload 4, 2) := dq_21 (kX11_open_0 24 rfl) (kX11_open_0 25 rfl) rfl
theorem dX11_open_26 : decode cX11_open 26 = .ok (.invokestatic 135, 3) := dq_184 (kX11_open_0 26 rfl) (kX11_open_0 27 rfl) (kX11_open_0 28 rfl) rfl
theorem dX11_open_29 : decode cX11_open 29 = .ok (.ifCond .ne 5, 3) := dq_154 (kX11_open_0 29 rfl) (kX11_open_0 30 rfl) (kX11_open_0 31 rfl) (by decide)
theorem dX11_open_32 : decode cX11_open 32 = .ok (.iconst 0, 1) := dq_3 (kX11_open_1 0 rfl)
theorem dX11_open_33 : decode cX11_open 33 = .ok (.ireturn, 1) := dq_172 (kX11_open_1 1 rfl)
theorem dX11_open_34 : decode cX11_open 34 = .ok (.aload_n 0, 1) := dq_42 (kX11_open_1 2 rfl)
theorem dX11_open_35 : decode cX11_open 35 = .ok (.getfield 26, 3) := dq_180 (kX11_open_1 3 rfl) (kX11_open_1 4 rfl) (kX11_open_1 5 rfl) rfl
theorem dX11_open_38 : decode cX11_open 38 = .ok (.invokevirtual 435, 3) := dq_182 (kX11_open_1 6 rfl) (kX11_open_1 7 rfl) (kX11_open_1 8 rfl) rfl
theorem dX11_open_41 : decode cX11_open 41 = .ok (.aload_n 0, 1) := dq_42 (kX11_open_1 9 rfl)
theorem dX11_open_42 : decode cX11_open 42 = .ok (.getfield 26, 3) := dq_180 (kX11_open_1 10 rfl) (kX11_open_1 11 rfl) (kX11_open_1 12 rfl) rfl
theorem dX11_open_45 : decode cX11_open 45 = .ok (.getfield 596, 3) := dq_180 (kX11_open_1 13 rfl) (kX11_open_1 14 rfl) (kX11_open_1 15 rfl) rfl
theorem dX11_open_48 : decode cX11_open 48 = .ok (.iload_n 1, 1) := dq_27 (kX11_open_1 16 rfl)
theorem dX11_open_49 : decode cX11_open 49 = .ok (.bipush 8, 2) := dq_16 (kX11_open_1 17 rfl) (kX11_open_1 18 rfl) (by decide)
theorem dX11_open_51 : decode cX11_open 51 = .ok (.imul, 1) := dq_104 (kX11_open_1 19 rfl)
theorem dX11_open_52 : decode cX11_open 52 = .ok (.iload_n 2, 1) := dq_28 (kX11_open_1 20 rfl)
theorem dX11_open_53 : decode cX11_open 53 = .ok (.iadd, 1) := dq_96 (kX11_open_1 21 rfl)
theorem dX11_open_54 : decode cX11_open 54 = .ok (.iload_n 3, 1) := dq_29 (kX11_open_1 22 rfl)
theorem dX11_open_55 : decode cX11_open 55 = .ok (.invokestatic 108, 3) := dq_184 (kX11_open_1 23 rfl) (kX11_open_1 24 rfl) (kX11_open_1 25 rfl) rfl
theorem dX11_open_58 : decode cX11_open 58 = .ok (.aload_n 0, 1) := dq_42 (kX11_open_1 26 rfl)
theorem dX11_open_59 : decode cX11_open 59 = .ok (.getfield 26, 3) := dq_180 (kX11_open_1 27 rfl) (kX11_open_1 28 rfl) (kX11_open_1 29 rfl) rfl
theorem dX11_open_62 : decode cX11_open 62 = .ok (.getfield 599, 3) := dq_180 (kX11_open_1 30 rfl) (kX11_open_1 31 rfl) (kX11_open_2 0 rfl) rfl
theorem dX11_open_65 : decode cX11_open 65 = .ok (.iload_n 1, 1) := dq_27 (kX11_open_2 1 rfl)
theorem dX11_open_66 : decode cX11_open 66 = .ok (.bipush 8, 2) := dq_16 (kX11_open_2 2 rfl) (kX11_open_2 3 rfl) (by decide)
theorem dX11_open_68 : decode cX11_open 68 = .ok (.imul, 1) := dq_104 (kX11_open_2 4 rfl)
theorem dX11_open_69 : decode cX11_open 69 = .ok (.iload_n 2, 1) := dq_28 (kX11_open_2 5 rfl)
theorem dX11_open_70 : decode cX11_open 70 = .ok (.iadd, 1) := dq_96 (kX11_open_2 6 rfl)
theorem dX11_open_71 : decode cX11_open 71 = .ok (.iload 4, 2) := dq_21 (kX11_open_2 7 rfl) (kX11_open_2 8 rfl) rfl
theorem dX11_open_73 : decode cX11_open 73 = .ok (.invokestatic 108, 3) := dq_184 (kX11_open_2 9 rfl) (kX11_open_2 10 rfl) (kX11_open_2 11 rfl) rfl
theorem dX11_open_76 : decode cX11_open 76 = .ok (.iconst 1, 1) := dq_4 (kX11_open_2 12 rfl)
theorem dX11_open_77 : decode cX11_open 77 = .ok (.ireturn, 1) := dq_172 (kX11_open_2 13 rfl)

def bX11_plan_0 : List UInt8 := [42, 27, 182, 1, 147, 58, 4, 25, 4, 198, 0, 21, 28, 184, 1, 138, 153, 0, 14, 29, 3, 17, 1, 103, 184, 0, 112, 154, 0, 5, 2, 172]
theorem kX11_plan_0 (j : Nat) {b : UInt8} (hj : bX11_plan_0[j]? = some b) : AtB cX11_plan (0 + j) b := at_of32 (by decide +kernel) j hj
def bX11_plan_1 : List UInt8 := [42, 180, 0, 26, 180, 2, 81, 180, 0, 199, 153, 0, 18, 42, 180, 0, 26, 182, 2, 90, 25, 4, 180, 1, 151, 164, 0, 5, 2, 172, 29, 42]
theorem kX11_plan_1 (j : Nat) {b : UInt8} (hj : bX11_plan_1[j]? = some b) : AtB cX11_plan (32 + j) b := at_of32 (by decide +kernel) j hj
def bX11_plan_2 : List UInt8 := [180, 0, 12, 180, 1, 144, 28, 184, 0, 253, 96, 54, 5, 42, 180, 0, 26, 180, 2, 93, 21, 5, 159, 0, 16, 42, 182, 2, 96, 42, 180, 0]
theorem kX11_plan_2 (j : Nat) {b : UInt8} (hj : bX11_plan_2[j]? = some b) : AtB cX11_plan (64 + j) b := at_of32 (by decide +kernel) j hj
def bX11_plan_3 : List UInt8 := [26, 21, 5, 182, 2, 99, 42, 180, 0, 26, 180, 2, 102, 172]
theorem kX11_plan_3 (j : Nat) {b : UInt8} (hj : bX11_plan_3[j]? = some b) : AtB cX11_plan (96 + j) b := at_of32 (by decide +kernel) j hj
theorem dX11_plan_0 : decode cX11_plan 0 = .ok (.aload_n 0, 1) := dq_42 (kX11_plan_0 0 rfl)
theorem dX11_plan_1 : decode cX11_plan 1 = .ok (.iload_n 1, 1) := dq_27 (kX11_plan_0 1 rfl)
theorem dX11_plan_2 : decode cX11_plan 2 = .ok (.invokevirtual 403, 3) := dq_182 (kX11_plan_0 2 rfl) (kX11_plan_0 3 rfl) (kX11_plan_0 4 rfl) rfl
theorem dX11_plan_5 : decode cX11_plan 5 = .ok (.astore 4, 2) := dq_58 (kX11_plan_0 5 rfl) (kX11_plan_0 6 rfl) rfl
theorem dX11_plan_7 : decode cX11_plan 7 = .ok (.aload 4, 2) := dq_25 (kX11_plan_0 7 rfl) (kX11_plan_0 8 rfl) rfl
theorem dX11_plan_9 : decode cX11_plan 9 = .ok (.ifnull 21, 3) := dq_198 (kX11_plan_0 9 rfl) (kX11_plan_0 10 rfl) (kX11_plan_0 11 rfl) (by decide)
theorem dX11_plan_12 : decode cX11_plan 12 = .ok (.iload_n 2, 1) := dq_28 (kX11_plan_0 12 rfl)
theorem dX11_plan_13 : decode cX11_plan 13 = .ok (.invokestatic 394, 3) := dq_184 (kX11_plan_0 13 rfl) (kX11_plan_0 14 rfl) (kX11_plan_0 15 rfl) rfl
theorem dX11_plan_16 : decode cX11_plan 16 = .ok (.ifCond .eq 14, 3) := dq_153 (kX11_plan_0 16 rfl) (kX11_plan_0 17 rfl) (kX11_plan_0 18 rfl) (by decide)
theorem dX11_plan_19 : decode cX11_plan 19 = .ok (.iload_n 3, 1) := dq_29 (kX11_plan_0 19 rfl)
theorem dX11_plan_20 : decode cX11_plan 20 = .ok (.iconst 0, 1) := dq_3 (kX11_plan_0 20 rfl)
theorem dX11_plan_21 : decode cX11_plan 21 = .ok (.sipush 359, 3) := dq_17 (kX11_plan_0 21 rfl) (kX11_plan_0 22 rfl) (kX11_plan_0 23 rfl) (by decide)
theorem dX11_plan_24 : decode cX11_plan 24 = .ok (.invokestatic 112, 3) := dq_184 (kX11_plan_0 24 rfl) (kX11_plan_0 25 rfl) (kX11_plan_0 26 rfl) rfl
theorem dX11_plan_27 : decode cX11_plan 27 = .ok (.ifCond .ne 5, 3) := dq_154 (kX11_plan_0 27 rfl) (kX11_plan_0 28 rfl) (kX11_plan_0 29 rfl) (by decide)
theorem dX11_plan_30 : decode cX11_plan 30 = .ok (.iconst (-1), 1) := dq_2 (kX11_plan_0 30 rfl)
theorem dX11_plan_31 : decode cX11_plan 31 = .ok (.ireturn, 1) := dq_172 (kX11_plan_0 31 rfl)
theorem dX11_plan_32 : decode cX11_plan 32 = .ok (.aload_n 0, 1) := dq_42 (kX11_plan_1 0 rfl)
theorem dX11_plan_33 : decode cX11_plan 33 = .ok (.getfield 26, 3) := dq_180 (kX11_plan_1 1 rfl) (kX11_plan_1 2 rfl) (kX11_plan_1 3 rfl) rfl
theorem dX11_plan_36 : decode cX11_plan 36 = .ok (.getfield 593, 3) := dq_180 (kX11_plan_1 4 rfl) (kX11_plan_1 5 rfl) (kX11_plan_1 6 rfl) rfl
theorem dX11_plan_39 : decode cX11_plan 39 = .ok (.getfield 199, 3) := dq_180 (kX11_plan_1 7 rfl) (kX11_plan_1 8 rfl) (kX11_plan_1 9 rfl) rfl
theorem dX11_plan_42 : decode cX11_plan 42 = .ok (.ifCond .eq 18, 3) := dq_153 (kX11_plan_1 10 rfl) (kX11_plan_1 11 rfl) (kX11_plan_1 12 rfl) (by decide)
theorem dX11_plan_45 : decode cX11_plan 45 = .ok (.aload_n 0, 1) := dq_42 (kX11_plan_1 13 rfl)
theorem dX11_plan_46 : decode cX11_plan 46 = .ok (.getfield 26, 3) := dq_180 (kX11_plan_1 14 rfl) (kX11_plan_1 15 rfl) (kX11_plan_1 16 rfl) rfl
theorem dX11_plan_49 : decode cX11_plan 49 = .ok (.invokevirtual 602, 3) := dq_182 (kX11_plan_1 17 rfl) (kX11_plan_1 18 rfl) (kX11_plan_1 19 rfl) rfl
theorem dX11_plan_52 : decode cX11_plan 52 = .ok (.aload 4, 2) := dq_25 (kX11_plan_1 20 rfl) (kX11_plan_1 21 rfl) rfl
theorem dX11_plan_54 : decode cX11_plan 54 = .ok (.getfield 407, 3) := dq_180 (kX11_plan_1 22 rfl) (kX11_plan_1 23 rfl) (kX11_plan_1 24 rfl) rfl
theorem dX11_plan_57 : decode cX11_plan 57 = .ok (.if_icmp .le 5, 3) := dq_164 (kX11_plan_1 25 rfl) (kX11_plan_1 26 rfl) (kX11_plan_1 27 rfl) (by decide)
theorem dX11_plan_60 : decode cX11_plan 60 = .ok (.iconst (-1), 1) := dq_2 (kX11_plan_1 28 rfl)
theorem dX11_plan_61 : decode cX11_plan 61 = .ok (.ireturn, 1) := dq_172 (kX11_plan_1 29 rfl)
theorem dX11_plan_62 : decode cX11_plan 62 = .ok (.iload_n 3, 1) := dq_29 (kX11_plan_1 30 rfl)
theorem dX11_plan_63 : decode cX11_plan 63 = .ok (.aload_n 0, 1) := dq_42 (kX11_plan_1 31 rfl)
theorem dX11_plan_64 : decode cX11_plan 64 = .ok (.getfield 12, 3) := dq_180 (kX11_plan_2 0 rfl) (kX11_plan_2 1 rfl) (kX11_plan_2 2 rfl) rfl
theorem dX11_plan_67 : decode cX11_plan 67 = .ok (.getfield 400, 3) := dq_180 (kX11_plan_2 3 rfl) (kX11_plan_2 4 rfl) (kX11_plan_2 5 rfl) rfl
theorem dX11_plan_70 : decode cX11_plan 70 = .ok (.iload_n 2, 1) := dq_28 (kX11_plan_2 6 rfl)
theorem dX11_plan_71 : decode cX11_plan 71 = .ok (.invokestatic 253, 3) := dq_184 (kX11_plan_2 7 rfl) (kX11_plan_2 8 rfl) (kX11_plan_2 9 rfl) rfl
theorem dX11_plan_74 : decode cX11_plan 74 = .ok (.iadd, 1) := dq_96 (kX11_plan_2 10 rfl)
theorem dX11_plan_75 : decode cX11_plan 75 = .ok (.istore 5, 2) := dq_54 (kX11_plan_2 11 rfl) (kX11_plan_2 12 rfl) rfl
theorem dX11_plan_77 : decode cX11_plan 77 = .ok (.aload_n 0, 1) := dq_42 (kX11_plan_2 13 rfl)
theorem dX11_plan_78 : decode cX11_plan 78 = .ok (.getfield 26, 3) := dq_180 (kX11_plan_2 14 rfl) (kX11_plan_2 15 rfl) (kX11_plan_2 16 rfl) rfl
theorem dX11_plan_81 : decode cX11_plan 81 = .ok (.getfield 605, 3) := dq_180 (kX11_plan_2 17 rfl) (kX11_plan_2 18 rfl) (kX11_plan_2 19 rfl) rfl
theorem dX11_plan_84 : decode cX11_plan 84 = .ok (.iload 5, 2) := dq_21 (kX11_plan_2 20 rfl) (kX11_plan_2 21 rfl) rfl
theorem dX11_plan_86 : decode cX11_plan 86 = .ok (.if_icmp .eq 16, 3) := dq_159 (kX11_plan_2 22 rfl) (kX11_plan_2 23 rfl) (kX11_plan_2 24 rfl) (by decide)
theorem dX11_plan_89 : decode cX11_plan 89 = .ok (.aload_n 0, 1) := dq_42 (kX11_plan_2 25 rfl)
theorem dX11_plan_90 : decode cX11_plan 90 = .ok (.invokevirtual 608, 3) := dq_182 (kX11_plan_2 26 rfl) (kX11_plan_2 27 rfl) (kX11_plan_2 28 rfl) rfl
theorem dX11_plan_93 : decode cX11_plan 93 = .ok (.aload_n 0, 1) := dq_42 (kX11_plan_2 29 rfl)
theorem dX11_plan_94 : decode cX11_plan 94 = .ok (.getfield 26, 3) := dq_180 (kX11_plan_2 30 rfl) (kX11_plan_2 31 rfl) (kX11_plan_3 0 rfl) rfl
theorem dX11_plan_97 : decode cX11_plan 97 = .ok (.iload 5, 2) := dq_21 (kX11_plan_3 1 rfl) (kX11_plan_3 2 rfl) rfl
theorem dX11_plan_99 : decode cX11_plan 99 = .ok (.invokevirtual 611, 3) := dq_182 (kX11_plan_3 3 rfl) (kX11_plan_3 4 rfl) (kX11_plan_3 5 rfl) rfl
theorem dX11_plan_102 : decode cX11_plan 102 = .ok (.aload_n 0, 1) := dq_42 (kX11_plan_3 6 rfl)
theorem dX11_plan_103 : decode cX11_plan 103 = .ok (.getfield 26, 3) := dq_180 (kX11_plan_3 7 rfl) (kX11_plan_3 8 rfl) (kX11_plan_3 9 rfl) rfl
theorem dX11_plan_106 : decode cX11_plan 106 = .ok (.getfield 614, 3) := dq_180 (kX11_plan_3 10 rfl) (kX11_plan_3 11 rfl) (kX11_plan_3 12 rfl) rfl
theorem dX11_plan_109 : decode cX11_plan 109 = .ok (.ireturn, 1) := dq_172 (kX11_plan_3 13 rfl)

def bX11_planned_0 : List UInt8 := [42, 27, 28, 29, 182, 2, 105, 2, 159, 0, 18, 42, 180, 0, 26, 180, 2, 81, 21, 4, 182, 1, 175, 154, 0, 5, 2, 172, 42, 180, 0, 26]
theorem kX11_planned_0 (j : Nat) {b : UInt8} (hj : bX11_planned_0[j]? = some b) : AtB cX11_planned (0 + j) b := at_of32 (by decide +kernel) j hj
def bX11_planned_1 : List UInt8 := [180, 2, 108, 21, 4, 184, 0, 253, 172]
theorem kX11_planned_1 (j : Nat) {b : UInt8} (hj : bX11_planned_1[j]? = some b) : AtB cX11_planned (32 + j) b := at_of32 (by decide +kernel) j hj
theorem dX11_planned_0 : decode cX11_planned 0 = .ok (.aload_n 0, 1) := dq_42 (kX11_planned_0 0 rfl)
theorem dX11_planned_1 : decode cX11_planned 1 = .ok (.iload_n 1, 1) := dq_27 (kX11_planned_0 1 rfl)
theorem dX11_planned_2 : decode cX11_planned 2 = .ok (.iload_n 2, 1) := dq_28 (kX11_planned_0 2 rfl)
theorem dX11_planned_3 : decode cX11_planned 3 = .ok (.iload_n 3, 1) := dq_29 (kX11_planned_0 3 rfl)
theorem dX11_planned_4 : decode cX11_planned 4 = .ok (.invokevirtual 617, 3) := dq_182 (kX11_planned_0 4 rfl) (kX11_planned_0 5 rfl) (kX11_planned_0 6 rfl) rfl
theorem dX11_planned_7 : decode cX11_planned 7 = .ok (.iconst (-1), 1) := dq_2 (kX11_planned_0 7 rfl)
theorem dX11_planned_8 : decode cX11_planned 8 = .ok (.if_icmp .eq 18, 3) := dq_159 (kX11_planned_0 8 rfl) (kX11_planned_0 9 rfl) (kX11_planned_0 10 rfl) (by decide)
theorem dX11_planned_11 : decode cX11_planned 11 = .ok (.aload_n 0, 1) := dq_42 (kX11_planned_0 11 rfl)
theorem dX11_planned_12 : decode cX11_planned 12 = .ok (.getfield 26, 3) := dq_180 (kX11_planned_0 12 rfl) (kX11_planned_0 13 rfl) (kX11_planned_0 14 rfl) rfl
theorem dX11_planned_15 : decode cX11_planned 15 = .ok (.getfield 593, 3) := dq_180 (kX11_planned_0 15 rfl) (kX11_planned_0 16 rfl) (kX11_planned_0 17 rfl) rfl
theorem dX11_planned_18 : decode cX11_planned 18 = .ok (.iload 4, 2) := dq_21 (kX11_planned_0 18 rfl) (kX11_planned_0 19 rfl) rfl
theorem dX11_planned_20 : decode cX11_planned 20 = .ok (.invokevirtual 431, 3) := dq_182 (kX11_planned_0 20 rfl) (kX11_planned_0 21 rfl) (kX11_planned_0 22 rfl) rfl
theorem dX11_planned_23 : decode cX11_planned 23 = .ok (.ifCond .ne 5, 3) := dq_154 (kX11_planned_0 23 rfl) (kX11_planned_0 24 rfl) (kX11_planned_0 25 rfl) (by decide)
theorem dX11_planned_26 : decode cX11_planned 26 = .ok (.iconst (-1), 1) := dq_2 (kX11_planned_0 26 rfl)
theorem dX11_planned_27 : decode cX11_planned 27 = .ok (.ireturn, 1) := dq_172 (kX11_planned_0 27 rfl)
theorem dX11_planned_28 : decode cX11_planned 28 = .ok (.aload_n 0, 1) := dq_42 (kX11_planned_0 28 rfl)
theorem dX11_planned_29 : decode cX11_planned 29 = .ok (.getfield 26, 3) := dq_180 (kX11_planned_0 29 rfl) (kX11_planned_0 30 rfl) (kX11_planned_0 31 rfl) rfl
theorem dX11_planned_32 : decode cX11_planned 32 = .ok (.getfield 620, 3) := dq_180 (kX11_planned_1 0 rfl) (kX11_planned_1 1 rfl) (kX11_planned_1 2 rfl) rfl
theorem dX11_planned_35 : decode cX11_planned 35 = .ok (.iload 4, 2) := dq_21 (kX11_planned_1 3 rfl) (kX11_planned_1 4 rfl) rfl
theorem dX11_planned_37 : decode cX11_planned 37 = .ok (.invokestatic 253, 3) := dq_184 (kX11_planned_1 5 rfl) (kX11_planned_1 6 rfl) (kX11_planned_1 7 rfl) rfl
theorem dX11_planned_40 : decode cX11_planned 40 = .ok (.ireturn, 1) := dq_172 (kX11_planned_1 8 rfl)

def bX11_measureLegs_0 : List UInt8 := [3, 60, 27, 42, 180, 0, 26, 180, 2, 81, 180, 0, 199, 162, 0, 111, 3, 61, 28, 42, 180, 0, 26, 180, 2, 81, 180, 0, 199, 162, 0, 89]
theorem kX11_measureLegs_0 (j : Nat) {b : UInt8} (hj : bX11_measureLegs_0[j]? = some b) : AtB cX11_measureLegs (0 + j) b := at_of32 (by decide +kernel) j hj
def bX11_measureLegs_1 : List UInt8 := [42, 42, 180, 0, 26, 180, 2, 81, 27, 3, 182, 0, 209, 4, 182, 0, 169, 78, 42, 42, 180, 0, 26, 180, 2, 81, 28, 3, 182, 0, 209, 4]
theorem kX11_measureLegs_1 (j : Nat) {b : UInt8} (hj : bX11_measureLegs_1[j]? = some b) : AtB cX11_measureLegs (32 + j) b := at_of32 (by decide +kernel) j hj
def bX11_measureLegs_2 : List UInt8 := [182, 0, 169, 58, 4, 45, 198, 0, 42, 25, 4, 198, 0, 37, 42, 180, 0, 26, 180, 2, 111, 27, 16, 8, 104, 28, 96, 5, 42, 180, 0, 12]
theorem kX11_measureLegs_2 (j : Nat) {b : UInt8} (hj : bX11_measureLegs_2[j]? = some b) : AtB cX11_measureLegs (64 + j) b := at_of32 (by decide +kernel) j hj
def bX11_measureLegs_3 : List UInt8 := [45, 180, 1, 88, 25, 4, 180, 1, 88, 182, 1, 132, 104, 184, 0, 108, 132, 2, 1, 167, 255, 159, 132, 1, 1, 167, 255, 137, 177]
theorem kX11_measureLegs_3 (j : Nat) {b : UInt8} (hj : bX11_measureLegs_3[j]? = some b) : AtB cX11_measureLegs (96 + j) b := at_of32 (by decide +kernel) j hj
theorem dX11_measureLegs_0 : decode cX11_measureLegs 0 = .ok (.iconst 0, 1) := dq_3 (kX11_measureLegs_0 0 rfl)
theorem dX11_measureLegs_1 : decode cX11_measureLegs 1 = .ok (.istore_n 1, 1) := dq_60 (kX11_measureLegs_0 1 rfl)
theorem dX11_measureLegs_2 : decode cX11_measureLegs 2 = .ok (.iload_n 1, 1) := dq_27 (kX11_measureLegs_0 2 rfl)
theorem dX11_measureLegs_3 : decode cX11_measureLegs 3 = .ok (.aload_n 0, 1) := dq_42 (kX11_measureLegs_0 3 rfl)
theorem dX11_measureLegs_4 : decode cX11_measureLegs 4 = .ok (.getfield 26, 3) := dq_180 (kX11_measureLegs_0 4 rfl) (kX11_measureLegs_0 5 rfl) (kX11_measureLegs_0 6 rfl) rfl
theorem dX11_measureLegs_7 : decode cX11_measureLegs 7 = .ok (.getfield 593, 3) := dq_180 (kX11_measureLegs_0 7 rfl) (kX11_measureLegs_0 8 rfl) (kX11_measureLegs_0 9 rfl) rfl
theorem dX11_measureLegs_10 : decode cX11_measureLegs 10 = .ok (.getfield 199, 3) := dq_180 (kX11_measureLegs_0 10 rfl) (kX11_measureLegs_0 11 rfl) (kX11_measureLegs_0 12 rfl) rfl
theorem dX11_measureLegs_13 : decode cX11_measureLegs 13 = .ok (.if_icmp .ge 111, 3) := dq_162 (kX11_measureLegs_0 13 rfl) (kX11_measureLegs_0 14 rfl) (kX11_measureLegs_0 15 rfl) (by decide)
theorem dX11_measureLegs_16 : decode cX11_measureLegs 16 = .ok (.iconst 0, 1) := dq_3 (kX11_measureLegs_0 16 rfl)
theorem dX11_measureLegs_17 : decode cX11_measureLegs 17 = .ok (.istore_n 2, 1) := dq_61 (kX11_measureLegs_0 17 rfl)
theorem dX11_measureLegs_18 : decode cX11_measureLegs 18 = .ok (.iload_n 2, 1) := dq_28 (kX11_measureLegs_0 18 rfl)
theorem dX11_measureLegs_19 : decode cX11_measureLegs 19 = .ok (.aload_n 0, 1) := dq_42 (kX11_measureLegs_0 19 rfl)
theorem dX11_measureLegs_20 : decode cX11_measureLegs 20 = .ok (.getfield 26, 3) := dq_180 (kX11_measureLegs_0 20 rfl) (kX11_measureLegs_0 21 rfl) (kX11_measureLegs_0 22 rfl) rfl
theorem dX11_measureLegs_23 : decode cX11_measureLegs 23 = .ok (.getfield 593, 3) := dq_180 (kX11_measureLegs_0 23 rfl) (kX11_measureLegs_0 24 rfl) (kX11_measureLegs_0 25 rfl) rfl
theorem dX11_measureLegs_26 : decode cX11_measureLegs 26 = .ok (.getfield 199, 3) := dq_180 (kX11_measureLegs_0 26 rfl) (kX11_measureLegs_0 27 rfl) (kX11_measureLegs_0 28 rfl) rfl
theorem dX11_measureLegs_29 : decode cX11_measureLegs 29 = .ok (.if_icmp .ge 89, 3) := dq_162 (kX11_measureLegs_0 29 rfl) (kX11_measureLegs_0 30 rfl) (kX11_measureLegs_0 31 rfl) (by decide)
theorem dX11_measureLegs_32 : decode cX11_measureLegs 32 = .ok (.aload_n 0, 1) := dq_42 (kX11_measureLegs_1 0 rfl)
theorem dX11_measureLegs_33 : decode cX11_measureLegs 33 = .ok (.aload_n 0, 1) := dq_42 (kX11_measureLegs_1 1 rfl)
theorem dX11_measureLegs_34 : decode cX11_measureLegs 34 = .ok (.getfield 26, 3) := dq_180 (kX11_measureLegs_1 2 rfl) (kX11_measureLegs_1 3 rfl) (kX11_measureLegs_1 4 rfl) rfl
theorem dX11_measureLegs_37 : decode cX11_measureLegs 37 = .ok (.getfield 593, 3) := dq_180 (kX11_measureLegs_1 5 rfl) (kX11_measureLegs_1 6 rfl) (kX11_measureLegs_1 7 rfl) rfl
theorem dX11_measureLegs_40 : decode cX11_measureLegs 40 = .ok (.iload_n 1, 1) := dq_27 (kX11_measureLegs_1 8 rfl)
theorem dX11_measureLegs_41 : decode cX11_measureLegs 41 = .ok (.iconst 0, 1) := dq_3 (kX11_measureLegs_1 9 rfl)
theorem dX11_measureLegs_42 : decode cX11_measureLegs 42 = .ok (.invokevirtual 209, 3) := dq_182 (kX11_measureLegs_1 10 rfl) (kX11_measureLegs_1 11 rfl) (kX11_measureLegs_1 12 rfl) rfl
theorem dX11_measureLegs_45 : decode cX11_measureLegs 45 = .ok (.iconst 1, 1) := dq_4 (kX11_measureLegs_1 13 rfl)
theorem dX11_measureLegs_46 : decode cX11_measureLegs 46 = .ok (.invokevirtual 169, 3) := dq_182 (kX11_measureLegs_1 14 rfl) (kX11_measureLegs_1 15 rfl) (kX11_measureLegs_1 16 rfl) rfl
theorem dX11_measureLegs_49 : decode cX11_measureLegs 49 = .ok (.astore_n 3, 1) := dq_78 (kX11_measureLegs_1 17 rfl)
theorem dX11_measureLegs_50 : decode cX11_measureLegs 50 = .ok (.aload_n 0, 1) := dq_42 (kX11_measureLegs_1 18 rfl)
theorem dX11_measureLegs_51 : decode cX11_measureLegs 51 = .ok (.aload_n 0, 1) := dq_42 (kX11_measureLegs_1 19 rfl)
theorem dX11_measureLegs_52 : decode cX11_measureLegs 52 = .ok (.getfield 26, 3) := dq_180 (kX11_measureLegs_1 20 rfl) (kX11_measureLegs_1 21 rfl) (kX11_measureLegs_1 22 rfl) rfl
theorem dX11_measureLegs_55 : decode cX11_measureLegs 55 = .ok (.getfield 593, 3) := dq_180 (kX11_measureLegs_1 23 rfl) (kX11_measureLegs_1 24 rfl) (kX11_measureLegs_1 25 rfl) rfl
theorem dX11_measureLegs_58 : decode cX11_measureLegs 58 = .ok (.iload_n 2, 1) := dq_28 (kX11_measureLegs_1 26 rfl)
theorem dX11_measureLegs_59 : decode cX11_measureLegs 59 = .ok (.iconst 0, 1) := dq_3 (kX11_measureLegs_1 27 rfl)
theorem dX11_measureLegs_60 : decode cX11_measureLegs 60 = .ok (.invokevirtual 209, 3) := dq_182 (kX11_measureLegs_1 28 rfl) (kX11_measureLegs_1 29 rfl) (kX11_measureLegs_1 30 rfl) rfl
theorem dX11_measureLegs_63 : decode cX11_measureLegs 63 = .ok (.iconst 1, 1) := dq_4 (kX11_measureLegs_1 31 rfl)
theorem dX11_measureLegs_64 : decode cX11_measureLegs 64 = .ok (.invokevirtual 169, 3) := dq_182 (kX11_measureLegs_2 0 rfl) (kX11_measureLegs_2 1 rfl) (kX11_measureLegs_2 2 rfl) rfl
theorem dX11_measureLegs_67 : decode cX11_measureLegs 67 = .ok (.astore 4, 2) := dq_58 (kX11_measureLegs_2 3 rfl) (kX11_measureLegs_2 4 rfl) rfl
theorem dX11_measureLegs_69 : decode cX11_measureLegs 69 = .ok (.aload_n 3, 1) := dq_45 (kX11_measureLegs_2 5 rfl)
theorem dX11_measureLegs_70 : decode cX11_measureLegs 70 = .ok (.ifnull 42, 3) := dq_198 (kX11_measureLegs_2 6 rfl) (kX11_measureLegs_2 7 rfl) (kX11_measureLegs_2 8 rfl) (by decide)
theorem dX11_measureLegs_73 : decode cX11_measureLegs 73 = .ok (.aload 4, 2) := dq_25 (kX11_measureLegs_2 9 rfl) (kX11_measureLegs_2 10 rfl) rfl
theorem dX11_measureLegs_75 : decode cX11_measureLegs 75 = .ok (.ifnull 37, 3) := dq_198 (kX11_measureLegs_2 11 rfl) (kX11_measureLegs_2 12 rfl) (kX11_measureLegs_2 13 rfl) (by decide)
theorem dX11_measureLegs_78 : decode cX11_measureLegs 78 = .ok (.aload_n 0, 1) := dq_42 (kX11_measureLegs_2 14 rfl)
theorem dX11_measureLegs_79 : decode cX11_measureLegs 79 = .ok (.getfield 26, 3) := dq_180 (kX11_measureLegs_2 15 rfl) (kX11_measureLegs_2 16 rfl) (kX11_measureLegs_2 17 rfl) rfl
theorem dX11_measureLegs_82 : decode cX11_measureLegs 82 = .ok (.getfield 623, 3) := dq_180 (kX11_measureLegs_2 18 rfl) (kX11_measureLegs_2 19 rfl) (kX11_measureLegs_2 20 rfl) rfl
theorem dX11_measureLegs_85 : decode cX11_measureLegs 85 = .ok (.iload_n 1, 1) := dq_27 (kX11_measureLegs_2 21 rfl)
theorem dX11_measureLegs_86 : decode cX11_measureLegs 86 = .ok (.bipush 8, 2) := dq_16 (kX11_measureLegs_2 22 rfl) (kX11_measureLegs_2 23 rfl) (by decide)
theorem dX11_measureLegs_88 : decode cX11_measureLegs 88 = .ok (.imul, 1) := dq_104 (kX11_measureLegs_2 24 rfl)
theorem dX11_measureLegs_89 : decode cX11_measureLegs 89 = .ok (.iload_n 2, 1) := dq_28 (kX11_measureLegs_2 25 rfl)
theorem dX11_measureLegs_90 : decode cX11_measureLegs 90 = .ok (.iadd, 1) := dq_96 (kX11_measureLegs_2 26 rfl)
theorem dX11_measureLegs_91 : decode cX11_measureLegs 91 = .ok (.iconst 2, 1) := dq_5 (kX11_measureLegs_2 27 rfl)
theorem dX11_measureLegs_92 : decode cX11_measureLegs 92 = .ok (.aload_n 0, 1) := dq_42 (kX11_measureLegs_2 28 rfl)
theorem dX11_measureLegs_93 : decode cX11_measureLegs 93 = .ok (.getfield 12, 3) := dq_180 (kX11_measureLegs_2 29 rfl) (kX11_measureLegs_2 30 rfl) (kX11_measureLegs_2 31 rfl) rfl
theorem dX11_measureLegs_96 : decode cX11_measureLegs 96 = .ok (.aload_n 3, 1) := dq_45 (kX11_measureLegs_3 0 rfl)
theorem dX11_measureLegs_97 : decode cX11_measureLegs 97 = .ok (.getfield 344, 3) := dq_180 (kX11_measureLegs_3 1 rfl) (kX11_measureLegs_3 2 rfl) (kX11_measureLegs_3 3 rfl) rfl
theorem dX11_measureLegs_100 : decode cX11_measureLegs 100 = .ok (.aload 4, 2) := dq_25 (kX11_measureLegs_3 4 rfl) (kX11_measureLegs_3 5 rfl) rfl
theorem dX11_measureLegs_102 : decode cX11_measureLegs 102 = .ok (.getfield 344, 3) := dq_180 (kX11_measureLegs_3 6 rfl) (kX11_measureLegs_3 7 rfl) (kX11_measureLegs_3 8 rfl) rfl
theorem dX11_measureLegs_105 : decode cX11_measureLegs 105 = .ok (.invokevirtual 388, 3) := dq_182 (kX11_measureLegs_3 9 rfl) (kX11_measureLegs_3 10 rfl) (kX11_measureLegs_3 11 rfl) rfl
theorem dX11_measureLegs_108 : decode cX11_measureLegs 108 = .ok (.imul, 1) := dq_104 (kX11_measureLegs_3 12 rfl)
theorem dX11_measureLegs_109 : decode cX11_measureLegs 109 = .ok (.invokestatic 108, 3) := dq_184 (kX11_measureLegs_3 13 rfl) (kX11_measureLegs_3 14 rfl) (kX11_measureLegs_3 15 rfl) rfl
theorem dX11_measureLegs_112 : decode cX11_measureLegs 112 = .ok (.iinc 2 1, 3) := dq_132 (kX11_measureLegs_3 16 rfl) (kX11_measureLegs_3 17 rfl) (kX11_measureLegs_3 18 rfl) rfl (by decide)
theorem dX11_measureLegs_115 : decode cX11_measureLegs 115 = .ok (.goto (-97), 3) := dq_167 (kX11_measureLegs_3 19 rfl) (kX11_measureLegs_3 20 rfl) (kX11_measureLegs_3 21 rfl) (by decide)
theorem dX11_measureLegs_118 : decode cX11_measureLegs 118 = .ok (.iinc 1 1, 3) := dq_132 (kX11_measureLegs_3 22 rfl) (kX11_measureLegs_3 23 rfl) (kX11_measureLegs_3 24 rfl) rfl (by decide)
theorem dX11_measureLegs_121 : decode cX11_measureLegs 121 = .ok (.goto (-119), 3) := dq_167 (kX11_measureLegs_3 25 rfl) (kX11_measureLegs_3 26 rfl) (kX11_measureLegs_3 27 rfl) (by decide)
theorem dX11_measureLegs_124 : decode cX11_measureLegs 124 = .ok (.return_, 1) := dq_177 (kX11_measureLegs_3 28 rfl)

def bX11_report_0 : List UInt8 := [42, 27, 4, 182, 0, 169, 198, 0, 18, 28, 3, 42, 180, 0, 12, 180, 0, 145, 184, 0, 112, 154, 0, 5, 3, 172, 21, 4, 153, 0, 18, 29]
theorem kX11_report_0 (j : Nat) {b : UInt8} (hj : bX11_report_0[j]? = some b) : AtB cX11_report (0 + j) b := at_of32 (by decide +kernel) j hj
def bX11_report_1 : List UInt8 := [17, 252, 24, 19, 1, 168, 184, 0, 112, 154, 0, 5, 3, 172, 42, 180, 0, 85, 27, 28, 29, 21, 4, 153, 0, 7, 4, 167, 0, 4, 3, 42]
theorem kX11_report_1 (j : Nat) {b : UInt8} (hj : bX11_report_1[j]? = some b) : AtB cX11_report (32 + j) b := at_of32 (by decide +kernel) j hj
def bX11_report_2 : List UInt8 := [180, 0, 12, 180, 0, 145, 182, 0, 205, 2, 159, 0, 7, 4, 167, 0, 4, 3, 172]
theorem kX11_report_2 (j : Nat) {b : UInt8} (hj : bX11_report_2[j]? = some b) : AtB cX11_report (64 + j) b := at_of32 (by decide +kernel) j hj
theorem dX11_report_0 : decode cX11_report 0 = .ok (.aload_n 0, 1) := dq_42 (kX11_report_0 0 rfl)
theorem dX11_report_1 : decode cX11_report 1 = .ok (.iload_n 1, 1) := dq_27 (kX11_report_0 1 rfl)
theorem dX11_report_2 : decode cX11_report 2 = .ok (.iconst 1, 1) := dq_4 (kX11_report_0 2 rfl)
theorem dX11_report_3 : decode cX11_report 3 = .ok (.invokevirtual 169, 3) := dq_182 (kX11_report_0 3 rfl) (kX11_report_0 4 rfl) (kX11_report_0 5 rfl) rfl
theorem dX11_report_6 : decode cX11_report 6 = .ok (.ifnull 18, 3) := dq_198 (kX11_report_0 6 rfl) (kX11_report_0 7 rfl) (kX11_report_0 8 rfl) (by decide)
theorem dX11_report_9 : decode cX11_report 9 = .ok (.iload_n 2, 1) := dq_28 (kX11_report_0 9 rfl)
theorem dX11_report_10 : decode cX11_report 10 = .ok (.iconst 0, 1) := dq_3 (kX11_report_0 10 rfl)
theorem dX11_report_11 : decode cX11_report 11 = .ok (.aload_n 0, 1) := dq_42 (kX11_report_0 11 rfl)
theorem dX11_report_12 : decode cX11_report 12 = .ok (.getfield 12, 3) := dq_180 (kX11_report_0 12 rfl) (kX11_report_0 13 rfl) (kX11_report_0 14 rfl) rfl
theorem dX11_report_15 : decode cX11_report 15 = .ok (.getfield 145, 3) := dq_180 (kX11_report_0 15 rfl) (kX11_report_0 16 rfl) (kX11_report_0 17 rfl) rfl
theorem dX11_report_18 : decode cX11_report 18 = .ok (.invokestatic 112, 3) := dq_184 (kX11_report_0 18 rfl) (kX11_report_0 19 rfl) (kX11_report_0 20 rfl) rfl
theorem dX11_report_21 : decode cX11_report 21 = .ok (.ifCond .ne 5, 3) := dq_154 (kX11_report_0 21 rfl) (kX11_report_0 22 rfl) (kX11_report_0 23 rfl) (by decide)
theorem dX11_report_24 : decode cX11_report 24 = .ok (.iconst 0, 1) := dq_3 (kX11_report_0 24 rfl)
theorem dX11_report_25 : decode cX11_report 25 = .ok (.ireturn, 1) := dq_172 (kX11_report_0 25 rfl)
theorem dX11_report_26 : decode cX11_report 26 = .ok (.iload 4, 2) := dq_21 (kX11_report_0 26 rfl) (kX11_report_0 27 rfl) rfl
theorem dX11_report_28 : decode cX11_report 28 = .ok (.ifCond .eq 18, 3) := dq_153 (kX11_report_0 28 rfl) (kX11_report_0 29 rfl) (kX11_report_0 30 rfl) (by decide)
theorem dX11_report_31 : decode cX11_report 31 = .ok (.iload_n 3, 1) := dq_29 (kX11_report_0 31 rfl)
theorem dX11_report_32 : decode cX11_report 32 = .ok (.sipush (-1000), 3) := dq_17 (kX11_report_1 0 rfl) (kX11_report_1 1 rfl) (kX11_report_1 2 rfl) (by decide)
theorem dX11_report_35 : decode cX11_report 35 = .ok (.ldc_w 424, 3) := dq_19 (kX11_report_1 3 rfl) (kX11_report_1 4 rfl) (kX11_report_1 5 rfl) rfl
theorem dX11_report_38 : decode cX11_report 38 = .ok (.invokestatic 112, 3) := dq_184 (kX11_report_1 6 rfl) (kX11_report_1 7 rfl) (kX11_report_1 8 rfl) rfl
theorem dX11_report_41 : decode cX11_report 41 = .ok (.ifCond .ne 5, 3) := dq_154 (kX11_report_1 9 rfl) (kX11_report_1 10 rfl) (kX11_report_1 11 rfl) (by decide)
theorem dX11_report_44 : decode cX11_report 44 = .ok (.iconst 0, 1) := dq_3 (kX11_report_1 12 rfl)
theorem dX11_report_45 : decode cX11_report 45 = .ok (.ireturn, 1) := dq_172 (kX11_report_1 13 rfl)
theorem dX11_report_46 : decode cX11_report 46 = .ok (.aload_n 0, 1) := dq_42 (kX11_report_1 14 rfl)
theorem dX11_report_47 : decode cX11_report 47 = .ok (.getfield 85, 3) := dq_180 (kX11_report_1 15 rfl) (kX11_report_1 16 rfl) (kX11_report_1 17 rfl) rfl
theorem dX11_report_50 : decode cX11_report 50 = .ok (.iload_n 1, 1) := dq_27 (kX11_report_1 18 rfl)
theorem dX11_report_51 : decode cX11_report 51 = .ok (.iload_n 2, 1) := dq_28 (kX11_report_1 19 rfl)
theorem dX11_report_52 : decode cX11_report 52 = .ok (.iload_n 3, 1) := dq_29 (kX11_report_1 20 rfl)
theorem dX11_report_53 : decode cX11_report 53 = .ok (.iload 4, 2) := dq_21 (kX11_report_1 21 rfl) (kX11_report_1 22 rfl) rfl
theorem dX11_report_55 : decode cX11_report 55 = .ok (.ifCond .eq 7, 3) := dq_153 (kX11_report_1 23 rfl) (kX11_report_1 24 rfl) (kX11_report_1 25 rfl) (by decide)
theorem dX11_report_58 : decode cX11_report 58 = .ok (.iconst 1, 1) := dq_4 (kX11_report_1 26 rfl)
theorem dX11_report_59 : decode cX11_report 59 = .ok (.goto 4, 3) := dq_167 (kX11_report_1 27 rfl) (kX11_report_1 28 rfl) (kX11_report_1 29 rfl) (by decide)
theorem dX11_report_62 : decode cX11_report 62 = .ok (.iconst 0, 1) := dq_3 (kX11_report_1 30 rfl)
theorem dX11_report_63 : decode cX11_report 63 = .ok (.aload_n 0, 1) := dq_42 (kX11_report_1 31 rfl)
theorem dX11_report_64 : decode cX11_report 64 = .ok (.getfield 12, 3) := dq_180 (kX11_report_2 0 rfl) (kX11_report_2 1 rfl) (kX11_report_2 2 rfl) rfl
theorem dX11_report_67 : decode cX11_report 67 = .ok (.getfield 145, 3) := dq_180 (kX11_report_2 3 rfl) (kX11_report_2 4 rfl) (kX11_report_2 5 rfl) rfl
theorem dX11_report_70 : decode cX11_report 70 = .ok (.invokevirtual 205, 3) := dq_182 (kX11_report_2 6 rfl) (kX11_report_2 7 rfl) (kX11_report_2 8 rfl) rfl
theorem dX11_report_73 : decode cX11_report 73 = .ok (.iconst (-1), 1) := dq_2 (kX11_report_2 9 rfl)
theorem dX11_report_74 : decode cX11_report 74 = .ok (.if_icmp .eq 7, 3) := dq_159 (kX11_report_2 10 rfl) (kX11_report_2 11 rfl) (kX11_report_2 12 rfl) (by decide)
theorem dX11_report_77 : decode cX11_report 77 = .ok (.iconst 1, 1) := dq_4 (kX11_report_2 13 rfl)
theorem dX11_report_78 : decode cX11_report 78 = .ok (.goto 4, 3) := dq_167 (kX11_report_2 14 rfl) (kX11_report_2 15 rfl) (kX11_report_2 16 rfl) (by decide)
theorem dX11_report_81 : decode cX11_report 81 = .ok (.iconst 0, 1) := dq_3 (kX11_report_2 17 rfl)
theorem dX11_report_82 : decode cX11_report 82 = .ok (.ireturn, 1) := dq_172 (kX11_report_2 18 rfl)

def bX11_known_0 : List UInt8 := [42, 27, 4, 182, 0, 169, 198, 0, 17, 28, 184, 1, 20, 153, 0, 10, 29, 184, 1, 20, 154, 0, 7, 19, 2, 114, 172, 2, 54, 4, 2, 54]
theorem kX11_known_0 (j : Nat) {b : UInt8} (hj : bX11_known_0[j]? = some b) : AtB cX11_known (0 + j) b := at_of32 (by decide +kernel) j hj
def bX11_known_1 : List UInt8 := [5, 3, 54, 6, 21, 6, 42, 180, 0, 85, 180, 0, 199, 162, 0, 131, 42, 180, 0, 85, 21, 6, 3, 182, 0, 209, 27, 160, 0, 111, 42, 180]
theorem kX11_known_1 (j : Nat) {b : UInt8} (hj : bX11_known_1[j]? = some b) : AtB cX11_known (32 + j) b := at_of32 (by decide +kernel) j hj
def bX11_known_2 : List UInt8 := [0, 85, 21, 6, 7, 182, 0, 209, 29, 164, 0, 6, 167, 0, 94, 42, 180, 0, 85, 21, 6, 4, 182, 0, 209, 54, 7, 42, 180, 0, 85, 21]
theorem kX11_known_2 (j : Nat) {b : UInt8} (hj : bX11_known_2[j]? = some b) : AtB cX11_known (64 + j) b := at_of32 (by decide +kernel) j hj
def bX11_known_3 : List UInt8 := [6, 6, 182, 0, 209, 4, 160, 0, 7, 4, 167, 0, 4, 3, 54, 8, 21, 7, 28, 160, 0, 19, 21, 8, 153, 0, 8, 21, 6, 167, 0, 4]
theorem kX11_known_3 (j : Nat) {b : UInt8} (hj : bX11_known_3[j]? = some b) : AtB cX11_known (96 + j) b := at_of32 (by decide +kernel) j hj
def bX11_known_4 : List UInt8 := [2, 54, 4, 167, 0, 39, 21, 7, 28, 162, 0, 33, 21, 8, 153, 0, 28, 21, 5, 2, 159, 0, 18, 21, 7, 42, 180, 0, 85, 21, 5, 4]
theorem kX11_known_4 (j : Nat) {b : UInt8} (hj : bX11_known_4[j]? = some b) : AtB cX11_known (128 + j) b := at_of32 (by decide +kernel) j hj
def bX11_known_5 : List UInt8 := [182, 0, 209, 161, 0, 7, 21, 6, 54, 5, 132, 6, 1, 167, 255, 119, 21, 4, 2, 159, 0, 8, 21, 4, 167, 0, 5, 21, 5, 54, 6, 21]
theorem kX11_known_5 (j : Nat) {b : UInt8} (hj : bX11_known_5[j]? = some b) : AtB cX11_known (160 + j) b := at_of32 (by decide +kernel) j hj
def bX11_known_6 : List UInt8 := [6, 2, 160, 0, 9, 19, 2, 114, 167, 0, 13, 42, 180, 0, 85, 21, 6, 5, 182, 0, 209, 172]
theorem kX11_known_6 (j : Nat) {b : UInt8} (hj : bX11_known_6[j]? = some b) : AtB cX11_known (192 + j) b := at_of32 (by decide +kernel) j hj
theorem dX11_known_0 : decode cX11_known 0 = .ok (.aload_n 0, 1) := dq_42 (kX11_known_0 0 rfl)
theorem dX11_known_1 : decode cX11_known 1 = .ok (.iload_n 1, 1) := dq_27 (kX11_known_0 1 rfl)
theorem dX11_known_2 : decode cX11_known 2 = .ok (.iconst 1, 1) := dq_4 (kX11_known_0 2 rfl)
theorem dX11_known_3 : decode cX11_known 3 = .ok (.invokevirtual 169, 3) := dq_182 (kX11_known_0 3 rfl) (kX11_known_0 4 rfl) (kX11_known_0 5 rfl) rfl
theorem dX11_known_6 : decode cX11_known 6 = .ok (.ifnull 17, 3) := dq_198 (kX11_known_0 6 rfl) (kX11_known_0 7 rfl) (kX11_known_0 8 rfl) (by decide)
theorem dX11_known_9 : decode cX11_known 9 = .ok (.iload_n 2, 1) := dq_28 (kX11_known_0 9 rfl)
theorem dX11_known_10 : decode cX11_known 10 = .ok (.invokestatic 276, 3) := dq_184 (kX11_known_0 10 rfl) (kX11_known_0 11 rfl) (kX11_known_0 12 rfl) rfl
theorem dX11_known_13 : decode cX11_known 13 = .ok (.ifCond .eq 10, 3) := dq_153 (kX11_known_0 13 rfl) (kX11_known_0 14 rfl) (kX11_known_0 15 rfl) (by decide)
theorem dX11_known_16 : decode cX11_known 16 = .ok (.iload_n 3, 1) := dq_29 (kX11_known_0 16 rfl)
theorem dX11_known_17 : decode cX11_known 17 = .ok (.invokestatic 276, 3) := dq_184 (kX11_known_0 17 rfl) (kX11_known_0 18 rfl) (kX11_known_0 19 rfl) rfl
theorem dX11_known_20 : decode cX11_known 20 = .ok (.ifCond .ne 7, 3) := dq_154 (kX11_known_0 20 rfl) (kX11_known_0 21 rfl) (kX11_known_0 22 rfl) (by decide)
theorem dX11_known_23 : decode cX11_known 23 = .ok (.ldc_w 626, 3) := dq_19 (kX11_known_0 23 rfl) (kX11_known_0 24 rfl) (kX11_known_0 25 rfl) rfl
theorem dX11_known_26 : decode cX11_known 26 = .ok (.ireturn, 1) := dq_172 (kX11_known_0 26 rfl)
theorem dX11_known_27 : decode cX11_known 27 = .ok (.iconst (-1), 1) := dq_2 (kX11_known_0 27 rfl)
theorem dX11_known_28 : decode cX11_known 28 = .ok (.istore 4, 2) := dq_54 (kX11_known_0 28 rfl) (kX11_known_0 29 rfl) rfl
theorem dX11_known_30 : decode cX11_known 30 = .ok (.iconst (-1), 1) := dq_2 (kX11_known_0 30 rfl)
theorem dX11_known_31 : decode cX11_known 31 = .ok (.istore 5, 2) := dq_54 (kX11_known_0 31 rfl) (kX11_known_1 0 rfl) rfl
theorem dX11_known_33 : decode cX11_known 33 = .ok (.iconst 0, 1) := dq_3 (kX11_known_1 1 rfl)
theorem dX11_known_34 : decode cX11_known 34 = .ok (.istore 6, 2) := dq_54 (kX11_known_1 2 rfl) (kX11_known_1 3 rfl) rfl
theorem dX11_known_36 : decode cX11_known 36 = .ok (.iload 6, 2) := dq_21 (kX11_known_1 4 rfl) (kX11_known_1 5 rfl) rfl
theorem dX11_known_38 : decode cX11_known 38 = .ok (.aload_n 0, 1) := dq_42 (kX11_known_1 6 rfl)
theorem dX11_known_39 : decode cX11_known 39 = .ok (.getfield 85, 3) := dq_180 (kX11_known_1 7 rfl) (kX11_known_1 8 rfl) (kX11_known_1 9 rfl) rfl
theorem dX11_known_42 : decode cX11_known 42 = .ok (.getfield 199, 3) := dq_180 (kX11_known_1 10 rfl) (kX11_known_1 11 rfl) (kX11_known_1 12 rfl) rfl
theorem dX11_known_45 : decode cX11_known 45 = .ok (.if_icmp .ge 131, 3) := dq_162 (kX11_known_1 13 rfl) (kX11_known_1 14 rfl) (kX11_known_1 15 rfl) (by decide)
theorem dX11_known_48 : decode cX11_known 48 = .ok (.aload_n 0, 1) := dq_42 (kX11_known_1 16 rfl)
theorem dX11_known_49 : decode cX11_known 49 = .ok (.getfield 85, 3) := dq_180 (kX11_known_1 17 rfl) (kX11_known_1 18 rfl) (kX11_known_1 19 rfl) rfl
theorem dX11_known_52 : decode cX11_known 52 = .ok (.iload 6, 2) := dq_21 (kX11_known_1 20 rfl) (kX11_known_1 21 rfl) rfl
theorem dX11_known_54 : decode cX11_known 54 = .ok (.iconst 0, 1) := dq_3 (kX11_known_1 22 rfl)
theorem dX11_known_55 : decode cX11_known 55 = .ok (.invokevirtual 209, 3) := dq_182 (kX11_known_1 23 rfl) (kX11_known_1 24 rfl) (kX11_known_1 25 rfl) rfl
theorem dX11_known_58 : decode cX11_known 58 = .ok (.iload_n 1, 1) := dq_27 (kX11_known_1 26 rfl)
theorem dX11_known_59 : decode cX11_known 59 = .ok (.if_icmp .ne 111, 3) := dq_160 (kX11_known_1 27 rfl) (kX11_known_1 28 rfl) (kX11_known_1 29 rfl) (by decide)
theorem dX11_known_62 : decode cX11_known 62 = .ok (.aload_n 0, 1) := dq_42 (kX11_known_1 30 rfl)
theorem dX11_known_63 : decode cX11_known 63 = .ok (.getfield 85, 3) := dq_180 (kX11_known_1 31 rfl) (kX11_known_2 0 rfl) (kX11_known_2 1 rfl) rfl
theorem dX11_known_66 : decode cX11_known 66 = .ok (.iload 6, 2) := dq_21 (kX11_known_2 2 rfl) (kX11_known_2 3 rfl) rfl
theorem dX11_known_68 : decode cX11_known 68 = .ok (.iconst 4, 1) := dq_7 (kX11_known_2 4 rfl)
theorem dX11_known_69 : decode cX11_known 69 = .ok (.invokevirtual 209, 3) := dq_182 (kX11_known_2 5 rfl) (kX11_known_2 6 rfl) (kX11_known_2 7 rfl) rfl
theorem dX11_known_72 : decode cX11_known 72 = .ok (.iload_n 3, 1) := dq_29 (kX11_known_2 8 rfl)
theorem dX11_known_73 : decode cX11_known 73 = .ok (.if_icmp .le 6, 3) := dq_164 (kX11_known_2 9 rfl) (kX11_known_2 10 rfl) (kX11_known_2 11 rfl) (by decide)
theorem dX11_known_76 : decode cX11_known 76 = .ok (.goto 94, 3) := dq_167 (kX11_known_2 12 rfl) (kX11_known_2 13 rfl) (kX11_known_2 14 rfl) (by decide)
theorem dX11_known_79 : decode cX11_known 79 = .ok (.aload_n 0, 1) := dq_42 (kX11_known_2 15 rfl)
theorem dX11_known_80 : decode cX11_known 80 = .ok (.getfield 85, 3) := dq_180 (kX11_known_2 16 rfl) (kX11_known_2 17 rfl) (kX11_known_2 18 rfl) rfl
theorem dX11_known_83 : decode cX11_known 83 = .ok (.iload 6, 2) := dq_21 (kX11_known_2 19 rfl) (kX11_known_2 20 rfl) rfl
theorem dX11_known_85 : decode cX11_known 85 = .ok (.iconst 1, 1) := dq_4 (kX11_known_2 21 rfl)
theorem dX11_known_86 : decode cX11_known 86 = .ok (.invokevirtual 209, 3) := dq_182 (kX11_known_2 22 rfl) (kX11_known_2 23 rfl) (kX11_known_2 24 rfl) rfl
theorem dX11_known_89 : decode cX11_known 89 = .ok (.istore 7, 2) := dq_54 (kX11_known_2 25 rfl) (kX11_known_2 26 rfl) rfl
theorem dX11_known_91 : decode cX11_known 91 = .ok (.aload_n 0, 1) := dq_42 (kX11_known_2 27 rfl)
theorem dX11_known_92 : decode cX11_known 92 = .ok (.getfield 85, 3) := dq_180 (kX11_known_2 28 rfl) (kX11_known_2 29 rfl) (kX11_known_2 30 rfl) rfl
theorem dX11_known_95 : decode cX11_known 95 = .ok (.iload 6, 2) := dq_21 (kX11_known_2 31 rfl) (kX11_known_3 0 rfl) rfl
theorem dX11_known_97 : decode cX11_known 97 = .ok (.iconst 3, 1) := dq_6 (kX11_known_3 1 rfl)
theorem dX11_known_98 : decode cX11_known 98 = .ok (.invokevirtual 209, 3) := dq_182 (kX11_known_3 2 rfl) (kX11_known_3 3 rfl) (kX11_known_3 4 rfl) rfl
theorem dX11_known_101 : decode cX11_known 101 = .ok (.iconst 1, 1) := dq_4 (kX11_known_3 5 rfl)
theorem dX11_known_102 : decode cX11_known 102 = .ok (.if_icmp .ne 7, 3) := dq_160 (kX11_known_3 6 rfl) (kX11_known_3 7 rfl) (kX11_known_3 8 rfl) (by decide)
theorem dX11_known_105 : decode cX11_known 105 = .ok (.iconst 1, 1) := dq_4 (kX11_known_3 9 rfl)
theorem dX11_known_106 : decode cX11_known 106 = .ok (.goto 4, 3) := dq_167 (kX11_known_3 10 rfl) (kX11_known_3 11 rfl) (kX11_known_3 12 rfl) (by decide)
theorem dX11_known_109 : decode cX11_known 109 = .ok (.iconst 0, 1) := dq_3 (kX11_known_3 13 rfl)
theorem dX11_known_110 : decode cX11_known 110 = .ok (.istore 8, 2) := dq_54 (kX11_known_3 14 rfl) (kX11_known_3 15 rfl) rfl
theorem dX11_known_112 : decode cX11_known 112 = .ok (.iload 7, 2) := dq_21 (kX11_known_3 16 rfl) (kX11_known_3 17 rfl) rfl
theorem dX11_known_114 : decode cX11_known 114 = .ok (.iload_n 2, 1) := dq_28 (kX11_known_3 18 rfl)
theorem dX11_known_115 : decode cX11_known 115 = .ok (.if_icmp .ne 19, 3) := dq_160 (kX11_known_3 19 rfl) (kX11_known_3 20 rfl) (kX11_known_3 21 rfl) (by decide)
theorem dX11_known_118 : decode cX11_known 118 = .ok (.iload 8, 2) := dq_21 (kX11_known_3 22 rfl) (kX11_known_3 23 rfl) rfl
theorem dX11_known_120 : decode cX11_known 120 = .ok (.ifCond .eq 8, 3) := dq_153 (kX11_known_3 24 rfl) (kX11_known_3 25 rfl) (kX11_known_3 26 rfl) (by decide)
theorem dX11_known_123 : decode cX11_known 123 = .ok (.iload 6, 2) := dq_21 (kX11_known_3 27 rfl) (kX11_known_3 28 rfl) rfl
theorem dX11_known_125 : decode cX11_known 125 = .ok (.goto 4, 3) := dq_167 (kX11_known_3 29 rfl) (kX11_known_3 30 rfl) (kX11_known_3 31 rfl) (by decide)
theorem dX11_known_128 : decode cX11_known 128 = .ok (.iconst (-1), 1) := dq_2 (kX11_known_4 0 rfl)
theorem dX11_known_129 : decode cX11_known 129 = .ok (.istore 4, 2) := dq_54 (kX11_known_4 1 rfl) (kX11_known_4 2 rfl) rfl
theorem dX11_known_131 : decode cX11_known 131 = .ok (.goto 39, 3) := dq_167 (kX11_known_4 3 rfl) (kX11_known_4 4 rfl) (kX11_known_4 5 rfl) (by decide)
theorem dX11_known_134 : decode cX11_known 134 = .ok (.iload 7, 2) := dq_21 (kX11_known_4 6 rfl) (kX11_known_4 7 rfl) rfl
theorem dX11_known_136 : decode cX11_known 136 = .ok (.iload_n 2, 1) := dq_28 (kX11_known_4 8 rfl)
theorem dX11_known_137 : decode cX11_known 137 = .ok (.if_icmp .ge 33, 3) := dq_162 (kX11_known_4 9 rfl) (kX11_known_4 10 rfl) (kX11_known_4 11 rfl) (by decide)
theorem dX11_known_140 : decode cX11_known 140 = .ok (.iload 8, 2) := dq_21 (kX11_known_4 12 rfl) (kX11_known_4 13 rfl) rfl
theorem dX11_known_142 : decode cX11_known 142 = .ok (.ifCond .eq 28, 3) := dq_153 (kX11_known_4 14 rfl) (kX11_known_4 15 rfl) (kX11_known_4 16 rfl) (by decide)
theorem dX11_known_145 : decode cX11_known 145 = .ok (.iload 5, 2) := dq_21 (kX11_known_4 17 rfl) (kX11_known_4 18 rfl) rfl
theorem dX11_known_147 : decode cX11_known 147 = .ok (.iconst (-1), 1) := dq_2 (kX11_known_4 19 rfl)
theorem dX11_known_148 : decode cX11_known 148 = .ok (.if_icmp .eq 18, 3) := dq_159 (kX11_known_4 20 rfl) (kX11_known_4 21 rfl) (kX11_known_4 22 rfl) (by decide)
theorem dX11_known_151 : decode cX11_known 151 = .ok (.iload 7, 2) := dq_21 (kX11_known_4 23 rfl) (kX11_known_4 24 rfl) rfl
theorem dX11_known_153 : decode cX11_known 153 = .ok (.aload_n 0, 1) := dq_42 (kX11_known_4 25 rfl)
theorem dX11_known_154 : decode cX11_known 154 = .ok (.getfield 85, 3) := dq_180 (kX11_known_4 26 rfl) (kX11_known_4 27 rfl) (kX11_known_4 28 rfl) rfl
theorem dX11_known_157 : decode cX11_known 157 = .ok (.iload 5, 2) := dq_21 (kX11_known_4 29 rfl) (kX11_known_4 30 rfl) rfl
theorem dX11_known_159 : decode cX11_known 159 = .ok (.iconst 1, 1) := dq_4 (kX11_known_4 31 rfl)
theorem dX11_known_160 : decode cX11_known 160 = .ok (.invokevirtual 209, 3) := dq_182 (kX11_known_5 0 rfl) (kX11_known_5 1 rfl) (kX11_known_5 2 rfl) rfl
theorem dX11_known_163 : decode cX11_known 163 = .ok (.if_icmp .lt 7, 3) := dq_161 (kX11_known_5 3 rfl) (kX11_known_5 4 rfl) (kX11_known_5 5 rfl) (by decide)
theorem dX11_known_166 : decode cX11_known 166 = .ok (.iload 6, 2) := dq_21 (kX11_known_5 6 rfl) (kX11_known_5 7 rfl) rfl
theorem dX11_known_168 : decode cX11_known 168 = .ok (.istore 5, 2) := dq_54 (kX11_known_5 8 rfl) (kX11_known_5 9 rfl) rfl
theorem dX11_known_170 : decode cX11_known 170 = .ok (.iinc 6 1, 3) := dq_132 (kX11_known_5 10 rfl) (kX11_known_5 11 rfl) (kX11_known_5 12 rfl) rfl (by decide)
theorem dX11_known_173 : decode cX11_known 173 = .ok (.goto (-137), 3) := dq_167 (kX11_known_5 13 rfl) (kX11_known_5 14 rfl) (kX11_known_5 15 rfl) (by decide)
theorem dX11_known_176 : decode cX11_known 176 = .ok (.iload 4, 2) := dq_21 (kX11_known_5 16 rfl) (kX11_known_5 17 rfl) rfl
theorem dX11_known_178 : decode cX11_known 178 = .ok (.iconst (-1), 1) := dq_2 (kX11_known_5 18 rfl)
theorem dX11_known_179 : decode cX11_known 179 = .ok (.if_icmp .eq 8, 3) := dq_159 (kX11_known_5 19 rfl) (kX11_known_5 20 rfl) (kX11_known_5 21 rfl) (by decide)
theorem dX11_known_182 : decode cX11_known 182 = .ok (.iload 4, 2) := dq_21 (kX11_known_5 22 rfl) (kX11_known_5 23 rfl) rfl
theorem dX11_known_184 : decode cX11_known 184 = .ok (.goto 5, 3) := dq_167 (kX11_known_5 24 rfl) (kX11_known_5 25 rfl) (kX11_known_5 26 rfl) (by decide)
theorem dX11_known_187 : decode cX11_known 187 = .ok (.iload 5, 2) := dq_21 (kX11_known_5 27 rfl) (kX11_known_5 28 rfl) rfl
theorem dX11_known_189 : decode cX11_known 189 = .ok (.istore 6, 2) := dq_54 (kX11_known_5 29 rfl) (kX11_known_5 30 rfl) rfl
theorem dX11_known_191 : decode cX11_known 191 = .ok (.iload 6, 2) := dq_21 (kX11_known_5 31 rfl) (kX11_known_6 0 rfl) rfl
theorem dX11_known_193 : decode cX11_known 193 = .ok (.iconst (-1), 1) := dq_2 (kX11_known_6 1 rfl)
theorem dX11_known_194 : decode cX11_known 194 = .ok (.if_icmp .ne 9, 3) := dq_160 (kX11_known_6 2 rfl) (kX11_known_6 3 rfl) (kX11_known_6 4 rfl) (by decide)
theorem dX11_known_197 : decode cX11_known 197 = .ok (.ldc_w 626, 3) := dq_19 (kX11_known_6 5 rfl) (kX11_known_6 6 rfl) (kX11_known_6 7 rfl) rfl
theorem dX11_known_200 : decode cX11_known 200 = .ok (.goto 13, 3) := dq_167 (kX11_known_6 8 rfl) (kX11_known_6 9 rfl) (kX11_known_6 10 rfl) (by decide)
theorem dX11_known_203 : decode cX11_known 203 = .ok (.aload_n 0, 1) := dq_42 (kX11_known_6 11 rfl)
theorem dX11_known_204 : decode cX11_known 204 = .ok (.getfield 85, 3) := dq_180 (kX11_known_6 12 rfl) (kX11_known_6 13 rfl) (kX11_known_6 14 rfl) rfl
theorem dX11_known_207 : decode cX11_known 207 = .ok (.iload 6, 2) := dq_21 (kX11_known_6 15 rfl) (kX11_known_6 16 rfl) rfl
theorem dX11_known_209 : decode cX11_known 209 = .ok (.iconst 2, 1) := dq_5 (kX11_known_6 17 rfl)
theorem dX11_known_210 : decode cX11_known 210 = .ok (.invokevirtual 209, 3) := dq_182 (kX11_known_6 18 rfl) (kX11_known_6 19 rfl) (kX11_known_6 20 rfl) rfl
theorem dX11_known_213 : decode cX11_known 213 = .ok (.ireturn, 1) := dq_172 (kX11_known_6 21 rfl)

def bX11_check_0 : List UInt8 := [27, 155, 0, 17, 27, 42, 180, 0, 91, 180, 0, 199, 16, 8, 108, 164, 0, 6, 16, 254, 172, 42, 5, 27, 104, 182, 2, 115, 61, 42, 180, 0]
theorem kX11_check_0 (j : Nat) {b : UInt8} (hj : bX11_check_0[j]? = some b) : AtB cX11_check (0 + j) b := at_of32 (by decide +kernel) j hj
def bX11_check_1 : List UInt8 := [91, 3, 181, 0, 199, 28, 172]
theorem kX11_check_1 (j : Nat) {b : UInt8} (hj : bX11_check_1[j]? = some b) : AtB cX11_check (32 + j) b := at_of32 (by decide +kernel) j hj
theorem dX11_check_0 : decode cX11_check 0 = .ok (.iload_n 1, 1) := dq_27 (kX11_check_0 0 rfl)
theorem dX11_check_1 : decode cX11_check 1 = .ok (.ifCond .lt 17, 3) := dq_155 (kX11_check_0 1 rfl) (kX11_check_0 2 rfl) (kX11_check_0 3 rfl) (by decide)
theorem dX11_check_4 : decode cX11_check 4 = .ok (.iload_n 1, 1) := dq_27 (kX11_check_0 4 rfl)
theorem dX11_check_5 : decode cX11_check 5 = .ok (.aload_n 0, 1) := dq_42 (kX11_check_0 5 rfl)
theorem dX11_check_6 : decode cX11_check 6 = .ok (.getfield 91, 3) := dq_180 (kX11_check_0 6 rfl) (kX11_check_0 7 rfl) (kX11_check_0 8 rfl) rfl
theorem dX11_check_9 : decode cX11_check 9 = .ok (.getfield 199, 3) := dq_180 (kX11_check_0 9 rfl) (kX11_check_0 10 rfl) (kX11_check_0 11 rfl) rfl
theorem dX11_check_12 : decode cX11_check 12 = .ok (.bipush 8, 2) := dq_16 (kX11_check_0 12 rfl) (kX11_check_0 13 rfl) (by decide)
theorem dX11_check_14 : decode cX11_check 14 = .ok (.idiv, 1) := dq_108 (kX11_check_0 14 rfl)
theorem dX11_check_15 : decode cX11_check 15 = .ok (.if_icmp .le 6, 3) := dq_164 (kX11_check_0 15 rfl) (kX11_check_0 16 rfl) (kX11_check_0 17 rfl) (by decide)
theorem dX11_check_18 : decode cX11_check 18 = .ok (.bipush (-2), 2) := dq_16 (kX11_check_0 18 rfl) (kX11_check_0 19 rfl) (by decide)
theorem dX11_check_20 : decode cX11_check 20 = .ok (.ireturn, 1) := dq_172 (kX11_check_0 20 rfl)
theorem dX11_check_21 : decode cX11_check 21 = .ok (.aload_n 0, 1) := dq_42 (kX11_check_0 21 rfl)
theorem dX11_check_22 : decode cX11_check 22 = .ok (.iconst 2, 1) := dq_5 (kX11_check_0 22 rfl)
theorem dX11_check_23 : decode cX11_check 23 = .ok (.iload_n 1, 1) := dq_27 (kX11_check_0 23 rfl)
theorem dX11_check_24 : decode cX11_check 24 = .ok (.imul, 1) := dq_104 (kX11_check_0 24 rfl)
theorem dX11_check_25 : decode cX11_check 25 = .ok (.invokevirtual 627, 3) := dq_182 (kX11_check_0 25 rfl) (kX11_check_0 26 rfl) (kX11_check_0 27 rfl) rfl
theorem dX11_check_28 : decode cX11_check 28 = .ok (.istore_n 2, 1) := dq_61 (kX11_check_0 28 rfl)
theorem dX11_check_29 : decode cX11_check 29 = .ok (.aload_n 0, 1) := dq_42 (kX11_check_0 29 rfl)
theorem dX11_check_30 : decode cX11_check 30 = .ok (.getfield 91, 3) := dq_180 (kX11_check_0 30 rfl) (kX11_check_0 31 rfl) (kX11_check_1 0 rfl) rfl
theorem dX11_check_33 : decode cX11_check 33 = .ok (.iconst 0, 1) := dq_3 (kX11_check_1 1 rfl)
theorem dX11_check_34 : decode cX11_check 34 = .ok (.putfield 199, 3) := dq_181 (kX11_check_1 2 rfl) (kX11_check_1 3 rfl) (kX11_check_1 4 rfl) rfl
theorem dX11_check_37 : decode cX11_check 37 = .ok (.iload_n 2, 1) := dq_28 (kX11_check_1 5 rfl)
theorem dX11_check_38 : decode cX11_check 38 = .ok (.ireturn, 1) := dq_172 (kX11_check_1 6 rfl)

def bX11_firstWrong_0 : List UInt8 := [3, 61, 3, 62, 29, 42, 180, 0, 46, 162, 0, 68, 42, 29, 182, 0, 195, 58, 4, 25, 4, 199, 0, 6, 167, 0, 47, 28, 27, 162, 0, 12]
theorem kX11_firstWrong_0 (j : Nat) {b : UInt8} (hj : bX11_firstWrong_0[j]? = some b) : AtB cX11_firstWrong (0 + j) b := at_of32 (by decide +kernel) j hj
def bX11_firstWrong_1 : List UInt8 := [42, 28, 182, 2, 118, 29, 159, 0, 5, 28, 172, 42, 28, 4, 96, 182, 2, 118, 25, 4, 180, 0, 186, 25, 4, 180, 1, 165, 96, 159, 0, 7]
theorem kX11_firstWrong_1 (j : Nat) {b : UInt8} (hj : bX11_firstWrong_1[j]? = some b) : AtB cX11_firstWrong (32 + j) b := at_of32 (by decide +kernel) j hj
def bX11_firstWrong_2 : List UInt8 := [28, 4, 96, 172, 132, 2, 2, 132, 3, 1, 167, 255, 186, 28, 27, 162, 0, 7, 28, 167, 0, 4, 2, 172]
theorem kX11_firstWrong_2 (j : Nat) {b : UInt8} (hj : bX11_firstWrong_2[j]? = some b) : AtB cX11_firstWrong (64 + j) b := at_of32 (by decide +kernel) j hj
theorem dX11_firstWrong_0 : decode cX11_firstWrong 0 = .ok (.iconst 0, 1) := dq_3 (kX11_firstWrong_0 0 rfl)
theorem dX11_firstWrong_1 : decode cX11_firstWrong 1 = .ok (.istore_n 2, 1) := dq_61 (kX11_firstWrong_0 1 rfl)
theorem dX11_firstWrong_2 : decode cX11_firstWrong 2 = .ok (.iconst 0, 1) := dq_3 (kX11_firstWrong_0 2 rfl)
theorem dX11_firstWrong_3 : decode cX11_firstWrong 3 = .ok (.istore_n 3, 1) := dq_62 (kX11_firstWrong_0 3 rfl)
theorem dX11_firstWrong_4 : decode cX11_firstWrong 4 = .ok (.iload_n 3, 1) := dq_29 (kX11_firstWrong_0 4 rfl)
theorem dX11_firstWrong_5 : decode cX11_firstWrong 5 = .ok (.aload_n 0, 1) := dq_42 (kX11_firstWrong_0 5 rfl)
theorem dX11_firstWrong_6 : decode cX11_firstWrong 6 = .ok (.getfield 46, 3) := dq_180 (kX11_firstWrong_0 6 rfl) (kX11_firstWrong_0 7 rfl) (kX11_firstWrong_0 8 rfl) rfl
theorem dX11_firstWrong_9 : decode cX11_firstWrong 9 = .ok (.if_icmp .ge 68, 3) := dq_162 (kX11_firstWrong_0 9 rfl) (kX11_firstWrong_0 10 rfl) (kX11_firstWrong_0 11 rfl) (by decide)
theorem dX11_firstWrong_12 : decode cX11_firstWrong 12 = .ok (.aload_n 0, 1) := dq_42 (kX11_firstWrong_0 12 rfl)
theorem dX11_firstWrong_13 : decode cX11_firstWrong 13 = .ok (.iload_n 3, 1) := dq_29 (kX11_firstWrong_0 13 rfl)
theorem dX11_firstWrong_14 : decode cX11_firstWrong 14 = .ok (.invokevirtual 195, 3) := dq_182 (kX11_firstWrong_0 14 rfl) (kX11_firstWrong_0 15 rfl) (kX11_firstWrong_0 16 rfl) rfl
theorem dX11_firstWrong_17 : decode cX11_firstWrong 17 = .ok (.astore 4, 2) := dq_58 (kX11_firstWrong_0 17 rfl) (kX11_firstWrong_0 18 rfl) rfl
theorem dX11_firstWrong_19 : decode cX11_firstWrong 19 = .ok (.aload 4, 2) := dq_25 (kX11_firstWrong_0 19 rfl) (kX11_firstWrong_0 20 rfl) rfl
theorem dX11_firstWrong_21 : decode cX11_firstWrong 21 = .ok (.ifnonnull 6, 3) := dq_199 (kX11_firstWrong_0 21 rfl) (kX11_firstWrong_0 22 rfl) (kX11_firstWrong_0 23 rfl) (by decide)
theorem dX11_firstWrong_24 : decode cX11_firstWrong 24 = .ok (.goto 47, 3) := dq_167 (kX11_firstWrong_0 24 rfl) (kX11_firstWrong_0 25 rfl) (kX11_firstWrong_0 26 rfl) (by decide)
theorem dX11_firstWrong_27 : decode cX11_firstWrong 27 = .ok (.iload_n 2, 1) := dq_28 (kX11_firstWrong_0 27 rfl)
theorem dX11_firstWrong_28 : decode cX11_firstWrong 28 = .ok (.iload_n 1, 1) := dq_27 (kX11_firstWrong_0 28 rfl)
theorem dX11_firstWrong_29 : decode cX11_firstWrong 29 = .ok (.if_icmp .ge 12, 3) := dq_162 (kX11_firstWrong_0 29 rfl) (kX11_firstWrong_0 30 rfl) (kX11_firstWrong_0 31 rfl) (by decide)
theorem dX11_firstWrong_32 : decode cX11_firstWrong 32 = .ok (.aload_n 0, 1) := dq_42 (kX11_firstWrong_1 0 rfl)
theorem dX11_firstWrong_33 : decode cX11_firstWrong 33 = .ok (.iload_n 2, 1) := dq_28 (kX11_firstWrong_1 1 rfl)
theorem dX11_firstWrong_34 : decode cX11_firstWrong 34 = .ok (.invokevirtual 630, 3) := dq_182 (kX11_firstWrong_1 2 rfl) (kX11_firstWrong_1 3 rfl) (kX11_firstWrong_1 4 rfl) rfl
theorem dX11_firstWrong_37 : decode cX11_firstWrong 37 = .ok (.iload_n 3, 1) := dq_29 (kX11_firstWrong_1 5 rfl)
theorem dX11_firstWrong_38 : decode cX11_firstWrong 38 = .ok (.if_icmp .eq 5, 3) := dq_159 (kX11_firstWrong_1 6 rfl) (kX11_firstWrong_1 7 rfl) (kX11_firstWrong_1 8 rfl) (by decide)
theorem dX11_firstWrong_41 : decode cX11_firstWrong 41 = .ok (.iload_n 2, 1) := dq_28 (kX11_firstWrong_1 9 rfl)
theorem dX11_firstWrong_42 : decode cX11_firstWrong 42 = .ok (.ireturn, 1) := dq_172 (kX11_firstWrong_1 10 rfl)
theorem dX11_firstWrong_43 : decode cX11_firstWrong 43 = .ok (.aload_n 0, 1) := dq_42 (kX11_firstWrong_1 11 rfl)
theorem dX11_firstWrong_44 : decode cX11_firstWrong 44 = .ok (.iload_n 2, 1) := dq_28 (kX11_firstWrong_1 12 rfl)
theorem dX11_firstWrong_45 : decode cX11_firstWrong 45 = .ok (.iconst 1, 1) := dq_4 (kX11_firstWrong_1 13 rfl)
theorem dX11_firstWrong_46 : decode cX11_firstWrong 46 = .ok (.iadd, 1) := dq_96 (kX11_firstWrong_1 14 rfl)
theorem dX11_firstWrong_47 : decode cX11_firstWrong 47 = .ok (.invokevirtual 630, 3) := dq_182 (kX11_firstWrong_1 15 rfl) (kX11_firstWrong_1 16 rfl) (kX11_firstWrong_1 17 rfl) rfl
theorem dX11_firstWrong_50 : decode cX11_firstWrong 50 = .ok (.aload 4, 2) := dq_25 (kX11_firstWrong_1 18 rfl) (kX11_firstWrong_1 19 rfl) rfl
theorem dX11_firstWrong_52 : decode cX11_firstWrong 52 = .ok (.getfield 186, 3) := dq_180 (kX11_firstWrong_1 20 rfl) (kX11_firstWrong_1 21 rfl) (kX11_firstWrong_1 22 rfl) rfl
theorem dX11_firstWrong_55 : decode cX11_firstWrong 55 = .ok (.aload 4, 2) := dq_25 (kX11_firstWrong_1 23 rfl) (kX11_firstWrong_1 24 rfl) rfl
theorem dX11_firstWrong_57 : decode cX11_firstWrong 57 = .ok (.getfield 421, 3) := dq_180 (kX11_firstWrong_1 25 rfl) (kX11_firstWrong_1 26 rfl) (kX11_firstWrong_1 27 rfl) rfl
theorem dX11_firstWrong_60 : decode cX11_firstWrong 60 = .ok (.iadd, 1) := dq_96 (kX11_firstWrong_1 28 rfl)
theorem dX11_firstWrong_61 : decode cX11_firstWrong 61 = .ok (.if_icmp .eq 7, 3) := dq_159 (kX11_firstWrong_1 29 rfl) (kX11_firstWrong_1 30 rfl) (kX11_firstWrong_1 31 rfl) (by decide)
theorem dX11_firstWrong_64 : decode cX11_firstWrong 64 = .ok (.iload_n 2, 1) := dq_28 (kX11_firstWrong_2 0 rfl)
theorem dX11_firstWrong_65 : decode cX11_firstWrong 65 = .ok (.iconst 1, 1) := dq_4 (kX11_firstWrong_2 1 rfl)
theorem dX11_firstWrong_66 : decode cX11_firstWrong 66 = .ok (.iadd, 1) := dq_96 (kX11_firstWrong_2 2 rfl)
theorem dX11_firstWrong_67 : decode cX11_firstWrong 67 = .ok (.ireturn, 1) := dq_172 (kX11_firstWrong_2 3 rfl)
theorem dX11_firstWrong_68 : decode cX11_firstWrong 68 = .ok (.iinc 2 2, 3) := dq_132 (kX11_firstWrong_2 4 rfl) (kX11_firstWrong_2 5 rfl) (kX11_firstWrong_2 6 rfl) rfl (by decide)
theorem dX11_firstWrong_71 : decode cX11_firstWrong 71 = .ok (.iinc 3 1, 3) := dq_132 (kX11_firstWrong_2 7 rfl) (kX11_firstWrong_2 8 rfl) (kX11_firstWrong_2 9 rfl) rfl (by decide)
theorem dX11_firstWrong_74 : decode cX11_firstWrong 74 = .ok (.goto (-70), 3) := dq_167 (kX11_firstWrong_2 10 rfl) (kX11_firstWrong_2 11 rfl) (kX11_firstWrong_2 12 rfl) (by decide)
theorem dX11_firstWrong_77 : decode cX11_firstWrong 77 = .ok (.iload_n 2, 1) := dq_28 (kX11_firstWrong_2 13 rfl)
theorem dX11_firstWrong_78 : decode cX11_firstWrong 78 = .ok (.iload_n 1, 1) := dq_27 (kX11_firstWrong_2 14 rfl)
theorem dX11_firstWrong_79 : decode cX11_firstWrong 79 = .ok (.if_icmp .ge 7, 3) := dq_162 (kX11_firstWrong_2 15 rfl) (kX11_firstWrong_2 16 rfl) (kX11_firstWrong_2 17 rfl) (by decide)
theorem dX11_firstWrong_82 : decode cX11_firstWrong 82 = .ok (.iload_n 2, 1) := dq_28 (kX11_firstWrong_2 18 rfl)
theorem dX11_firstWrong_83 : decode cX11_firstWrong 83 = .ok (.goto 4, 3) := dq_167 (kX11_firstWrong_2 19 rfl) (kX11_firstWrong_2 20 rfl) (kX11_firstWrong_2 21 rfl) (by decide)
theorem dX11_firstWrong_86 : decode cX11_firstWrong 86 = .ok (.iconst (-1), 1) := dq_2 (kX11_firstWrong_2 22 rfl)
theorem dX11_firstWrong_87 : decode cX11_firstWrong 87 = .ok (.ireturn, 1) := dq_172 (kX11_firstWrong_2 23 rfl)

def bX11_look_0 : List UInt8 := [42, 27, 182, 1, 128, 78, 45, 199, 0, 5, 2, 172, 28, 170, 0, 0, 0, 0, 0, 77, 0, 0, 0, 0, 0, 0, 0, 5, 0, 0, 0, 39]
theorem kX11_look_0 (j : Nat) {b : UInt8} (hj : bX11_look_0[j]? = some b) : AtB cX11_look (0 + j) b := at_of32 (by decide +kernel) j hj
def bX11_look_1 : List UInt8 := [0, 0, 0, 44, 0, 0, 0, 49, 0, 0, 0, 54, 0, 0, 0, 59, 0, 0, 0, 64, 45, 180, 1, 131, 172, 45, 180, 0, 173, 172, 45, 180]
theorem kX11_look_1 (j : Nat) {b : UInt8} (hj : bX11_look_1[j]? = some b) : AtB cX11_look (32 + j) b := at_of32 (by decide +kernel) j hj
def bX11_look_2 : List UInt8 := [1, 88, 172, 45, 180, 1, 91, 172, 45, 180, 0, 176, 172, 45, 180, 1, 255, 153, 0, 7, 4, 167, 0, 4, 3, 172, 45, 180, 1, 131, 4, 160]
theorem kX11_look_2 (j : Nat) {b : UInt8} (hj : bX11_look_2[j]? = some b) : AtB cX11_look (64 + j) b := at_of32 (by decide +kernel) j hj
def bX11_look_3 : List UInt8 := [0, 12, 42, 45, 28, 182, 2, 121, 167, 0, 4, 2, 172]
theorem kX11_look_3 (j : Nat) {b : UInt8} (hj : bX11_look_3[j]? = some b) : AtB cX11_look (96 + j) b := at_of32 (by decide +kernel) j hj
theorem dX11_look_0 : decode cX11_look 0 = .ok (.aload_n 0, 1) := dq_42 (kX11_look_0 0 rfl)
theorem dX11_look_1 : decode cX11_look 1 = .ok (.iload_n 1, 1) := dq_27 (kX11_look_0 1 rfl)
theorem dX11_look_2 : decode cX11_look 2 = .ok (.invokevirtual 384, 3) := dq_182 (kX11_look_0 2 rfl) (kX11_look_0 3 rfl) (kX11_look_0 4 rfl) rfl
theorem dX11_look_5 : decode cX11_look 5 = .ok (.astore_n 3, 1) := dq_78 (kX11_look_0 5 rfl)
theorem dX11_look_6 : decode cX11_look 6 = .ok (.aload_n 3, 1) := dq_45 (kX11_look_0 6 rfl)
theorem dX11_look_7 : decode cX11_look 7 = .ok (.ifnonnull 5, 3) := dq_199 (kX11_look_0 7 rfl) (kX11_look_0 8 rfl) (kX11_look_0 9 rfl) (by decide)
theorem dX11_look_10 : decode cX11_look 10 = .ok (.iconst (-1), 1) := dq_2 (kX11_look_0 10 rfl)
theorem dX11_look_11 : decode cX11_look 11 = .ok (.ireturn, 1) := dq_172 (kX11_look_0 11 rfl)
theorem dX11_look_12 : decode cX11_look 12 = .ok (.iload_n 2, 1) := dq_28 (kX11_look_0 12 rfl)
theorem dX11_look_52 : decode cX11_look 52 = .ok (.aload_n 3, 1) := dq_45 (kX11_look_1 20 rfl)
theorem dX11_look_53 : decode cX11_look 53 = .ok (.getfield 387, 3) := dq_180 (kX11_look_1 21 rfl) (kX11_look_1 22 rfl) (kX11_look_1 23 rfl) rfl
theorem dX11_look_56 : decode cX11_look 56 = .ok (.ireturn, 1) := dq_172 (kX11_look_1 24 rfl)
theorem dX11_look_57 : decode cX11_look 57 = .ok (.aload_n 3, 1) := dq_45 (kX11_look_1 25 rfl)
theorem dX11_look_58 : decode cX11_look 58 = .ok (.getfield 173, 3) := dq_180 (kX11_look_1 26 rfl) (kX11_look_1 27 rfl) (kX11_look_1 28 rfl) rfl
theorem dX11_look_61 : decode cX11_look 61 = .ok (.ireturn, 1) := dq_172 (kX11_look_1 29 rfl)
theorem dX11_look_62 : decode cX11_look 62 = .ok (.aload_n 3, 1) := dq_45 (kX11_look_1 30 rfl)
theorem dX11_look_63 : decode cX11_look 63 = .ok (.getfield 344, 3) := dq_180 (kX11_look_1 31 rfl) (kX11_look_2 0 rfl) (kX11_look_2 1 rfl) rfl
theorem dX11_look_66 : decode cX11_look 66 = .ok (.ireturn, 1) := dq_172 (kX11_look_2 2 rfl)
theorem dX11_look_67 : decode cX11_look 67 = .ok (.aload_n 3, 1) := dq_45 (kX11_look_2 3 rfl)
theorem dX11_look_68 : decode cX11_look 68 = .ok (.getfield 347, 3) := dq_180 (kX11_look_2 4 rfl) (kX11_look_2 5 rfl) (kX11_look_2 6 rfl) rfl
theorem dX11_look_71 : decode cX11_look 71 = .ok (.ireturn, 1) := dq_172 (kX11_look_2 7 rfl)
theorem dX11_look_72 : decode cX11_look 72 = .ok (.aload_n 3, 1) := dq_45 (kX11_look_2 8 rfl)
theorem dX11_look_73 : decode cX11_look 73 = .ok (.getfield 176, 3) := dq_180 (kX11_look_2 9 rfl) (kX11_look_2 10 rfl) (kX11_look_2 11 rfl) rfl
theorem dX11_look_76 : decode cX11_look 76 = .ok (.ireturn, 1) := dq_172 (kX11_look_2 12 rfl)
theorem dX11_look_77 : decode cX11_look 77 = .ok (.aload_n 3, 1) := dq_45 (kX11_look_2 13 rfl)
theorem dX11_look_78 : decode cX11_look 78 = .ok (.getfield 511, 3) := dq_180 (kX11_look_2 14 rfl) (kX11_look_2 15 rfl) (kX11_look_2 16 rfl) rfl
theorem dX11_look_81 : decode cX11_look 81 = .ok (.ifCond .eq 7, 3) := dq_153 (kX11_look_2 17 rfl) (kX11_look_2 18 rfl) (kX11_look_2 19 rfl) (by decide)
theorem dX11_look_84 : decode cX11_look 84 = .ok (.iconst 1, 1) := dq_4 (kX11_look_2 20 rfl)
theorem dX11_look_85 : decode cX11_look 85 = .ok (.goto 4, 3) := dq_167 (kX11_look_2 21 rfl) (kX11_look_2 22 rfl) (kX11_look_2 23 rfl) (by decide)
theorem dX11_look_88 : decode cX11_look 88 = .ok (.iconst 0, 1) := dq_3 (kX11_look_2 24 rfl)
theorem dX11_look_89 : decode cX11_look 89 = .ok (.ireturn, 1) := dq_172 (kX11_look_2 25 rfl)
theorem dX11_look_90 : decode cX11_look 90 = .ok (.aload_n 3, 1) := dq_45 (kX11_look_2 26 rfl)
theorem dX11_look_91 : decode cX11_look 91 = .ok (.getfield 387, 3) := dq_180 (kX11_look_2 27 rfl) (kX11_look_2 28 rfl) (kX11_look_2 29 rfl) rfl
theorem dX11_look_94 : decode cX11_look 94 = .ok (.iconst 1, 1) := dq_4 (kX11_look_2 30 rfl)
theorem dX11_look_95 : decode cX11_look 95 = .ok (.if_icmp .ne 12, 3) := dq_160 (kX11_look_2 31 rfl) (kX11_look_3 0 rfl) (kX11_look_3 1 rfl) (by decide)
theorem dX11_look_98 : decode cX11_look 98 = .ok (.aload_n 0, 1) := dq_42 (kX11_look_3 2 rfl)
theorem dX11_look_99 : decode cX11_look 99 = .ok (.aload_n 3, 1) := dq_45 (kX11_look_3 3 rfl)
theorem dX11_look_100 : decode cX11_look 100 = .ok (.iload_n 2, 1) := dq_28 (kX11_look_3 4 rfl)
theorem dX11_look_101 : decode cX11_look 101 = .ok (.invokevirtual 633, 3) := dq_182 (kX11_look_3 5 rfl) (kX11_look_3 6 rfl) (kX11_look_3 7 rfl) rfl
theorem dX11_look_104 : decode cX11_look 104 = .ok (.goto 4, 3) := dq_167 (kX11_look_3 8 rfl) (kX11_look_3 9 rfl) (kX11_look_3 10 rfl) (by decide)
theorem dX11_look_107 : decode cX11_look 107 = .ok (.iconst (-1), 1) := dq_2 (kX11_look_3 11 rfl)
theorem dX11_look_108 : decode cX11_look 108 = .ok (.ireturn, 1) := dq_172 (kX11_look_3 12 rfl)
def LX11_look : List (Nat × Instr × Nat) := [(13, .tableswitch 77 0 5 #[39, 44, 49, 54, 59, 64], 39)]
theorem kkX11_look : chkB cX11_look LX11_look = true := by decide +kernel
theorem dX11_look_13 : decode cX11_look 13 = .ok (.tableswitch 77 0 5 #[39, 44, 49, 54, 59, 64], 39) := getB' kkX11_look 0 rfl

def bX11_lookAtStation_0 : List UInt8 := [28, 170, 0, 0, 0, 0, 0, 51, 0, 0, 0, 6, 0, 0, 0, 9, 0, 0, 0, 31, 0, 0, 0, 36, 0, 0, 0, 41, 0, 0, 0, 46]
theorem kX11_lookAtStation_0 (j : Nat) {b : UInt8} (hj : bX11_lookAtStation_0[j]? = some b) : AtB cX11_lookAtStation (0 + j) b := at_of32 (by decide +kernel) j hj
def bX11_lookAtStation_1 : List UInt8 := [43, 180, 0, 183, 172, 43, 180, 0, 186, 172, 43, 180, 1, 165, 172, 43, 180, 1, 245, 172, 28, 16, 10, 16, 13, 184, 0, 112, 153, 0, 17, 43]
theorem kX11_lookAtStation_1 (j : Nat) {b : UInt8} (hj : bX11_lookAtStation_1[j]? = some b) : AtB cX11_lookAtStation (32 + j) b := at_of32 (by decide +kernel) j hj
def bX11_lookAtStation_2 : List UInt8 := [180, 1, 235, 28, 16, 10, 100, 184, 0, 253, 167, 0, 4, 2, 172]
theorem kX11_lookAtStation_2 (j : Nat) {b : UInt8} (hj : bX11_lookAtStation_2[j]? = some b) : AtB cX11_lookAtStation (64 + j) b := at_of32 (by decide +kernel) j hj
theorem dX11_lookAtStation_0 : decode cX11_lookAtStation 0 = .ok (.iload_n 2, 1) := dq_28 (kX11_lookAtStation_0 0 rfl)
theorem dX11_lookAtStation_32 : decode cX11_lookAtStation 32 = .ok (.aload_n 1, 1) := dq_43 (kX11_lookAtStation_1 0 rfl)
theorem dX11_lookAtStation_33 : decode cX11_lookAtStation 33 = .ok (.getfield 183, 3) := dq_180 (kX11_lookAtStation_1 1 rfl) (kX11_lookAtStation_1 2 rfl) (kX11_lookAtStation_1 3 rfl) rfl
theorem dX11_lookAtStation_36 : decode cX11_lookAtStation 36 = .ok (.ireturn, 1) := dq_172 (kX11_lookAtStation_1 4 rfl)
theorem dX11_lookAtStation_37 : decode cX11_lookAtStation 37 = .ok (.aload_n 1, 1) := dq_43 (kX11_lookAtStation_1 5 rfl)
theorem dX11_lookAtStation_38 : decode cX11_lookAtStation 38 = .ok (.getfield 186, 3) := dq_180 (kX11_lookAtStation_1 6 rfl) (kX11_lookAtStation_1 7 rfl) (kX11_lookAtStation_1 8 rfl) rfl
theorem dX11_lookAtStation_41 : decode cX11_lookAtStation 41 = .ok (.ireturn, 1) := dq_172 (kX11_lookAtStation_1 9 rfl)
theorem dX11_lookAtStation_42 : decode cX11_lookAtStation 42 = .ok (.aload_n 1, 1) := dq_43 (kX11_lookAtStation_1 10 rfl)
theorem dX11_lookAtStation_43 : decode cX11_lookAtStation 43 = .ok (.getfield 421, 3) := dq_180 (kX11_lookAtStation_1 11 rfl) (kX11_lookAtStation_1 12 rfl) (kX11_lookAtStation_1 13 rfl) rfl
theorem dX11_lookAtStation_46 : decode cX11_lookAtStation 46 = .ok (.ireturn, 1) := dq_172 (kX11_lookAtStation_1 14 rfl)
theorem dX11_lookAtStation_47 : decode cX11_lookAtStation 47 = .ok (.aload_n 1, 1) := dq_43 (kX11_lookAtStation_1 15 rfl)
theorem dX11_lookAtStation_48 : decode cX11_lookAtStation 48 = .ok (.getfield 501, 3) := dq_180 (kX11_lookAtStation_1 16 rfl) (kX11_lookAtStation_1 17 rfl) (kX11_lookAtStation_1 18 rfl) rfl
theorem dX11_lookAtStation_51 : decode cX11_lookAtStation 51 = .ok (.ireturn, 1) := dq_172 (kX11_lookAtStation_1 19 rfl)
theorem dX11_lookAtStation_52 : decode cX11_lookAtStation 52 = .ok (.iload_n 2, 1) := dq_28 (kX11_lookAtStation_1 20 rfl)
theorem dX11_lookAtStation_53 : decode cX11_lookAtStation 53 = .ok (.bipush 10, 2) := dq_16 (kX11_lookAtStation_1 21 rfl) (kX11_lookAtStation_1 22 rfl) (by decide)
theorem dX11_lookAtStation_55 : decode cX11_lookAtStation 55 = .ok (.bipush 13, 2) := dq_16 (kX11_lookAtStation_1 23 rfl) (kX11_lookAtStation_1 24 rfl) (by decide)
theorem dX11_lookAtStation_57 : decode cX11_lookAtStation 57 = .ok (.invokestatic 112, 3) := dq_184 (kX11_lookAtStation_1 25 rfl) (kX11_lookAtStation_1 26 rfl) (kX11_lookAtStation_1 27 rfl) rfl
theorem dX11_lookAtStation_60 : decode cX11_lookAtStation 60 = .ok (.ifCond .eq 17, 3) := dq_153 (kX11_lookAtStation_1 28 rfl) (kX11_lookAtStation_1 29 rfl) (kX11_lookAtStation_1 30 rfl) (by decide)
theorem dX11_lookAtStation_63 : decode cX11_lookAtStation 63 = .ok (.aload_n 1, 1) := dq_43 (kX11_lookAtStation_1 31 rfl)
theorem dX11_lookAtStation_64 : decode cX11_lookAtStation 64 = .ok (.getfield 491, 3) := dq_180 (kX11_lookAtStation_2 0 rfl) (kX11_lookAtStation_2 1 rfl) (kX11_lookAtStation_2 2 rfl) rfl
theorem dX11_lookAtStation_67 : decode cX11_lookAtStation 67 = .ok (.iload_n 2, 1) := dq_28 (kX11_lookAtStation_2 3 rfl)
theorem dX11_lookAtStation_68 : decode cX11_lookAtStation 68 = .ok (.bipush 10, 2) := dq_16 (kX11_lookAtStation_2 4 rfl) (kX11_lookAtStation_2 5 rfl) (by decide)
theorem dX11_lookAtStation_70 : decode cX11_lookAtStation 70 = .ok (.isub, 1) := dq_100 (kX11_lookAtStation_2 6 rfl)
theorem dX11_lookAtStation_71 : decode cX11_lookAtStation 71 = .ok (.invokestatic 253, 3) := dq_184 (kX11_lookAtStation_2 7 rfl) (kX11_lookAtStation_2 8 rfl) (kX11_lookAtStation_2 9 rfl) rfl
theorem dX11_lookAtStation_74 : decode cX11_lookAtStation 74 = .ok (.goto 4, 3) := dq_167 (kX11_lookAtStation_2 10 rfl) (kX11_lookAtStation_2 11 rfl) (kX11_lookAtStation_2 12 rfl) (by decide)
theorem dX11_lookAtStation_77 : decode cX11_lookAtStation 77 = .ok (.iconst (-1), 1) := dq_2 (kX11_lookAtStation_2 13 rfl)
theorem dX11_lookAtStation_78 : decode cX11_lookAtStation 78 = .ok (.ireturn, 1) := dq_172 (kX11_lookAtStation_2 14 rfl)
def LX11_lookAtStation : List (Nat × Instr × Nat) := [(1, .tableswitch 51 6 9 #[31, 36, 41, 46], 31)]
theorem kkX11_lookAtStation : chkB cX11_lookAtStation LX11_lookAtStation = true := by decide +kernel
theorem dX11_lookAtStation_1 : decode cX11_lookAtStation 1 = .ok (.tableswitch 51 6 9 #[31, 36, 41, 46], 31) := getB' kkX11_lookAtStation 0 rfl

def bX11_at_0 : List UInt8 := [42, 27, 182, 1, 147, 78, 45, 199, 0, 5, 2, 172, 28, 170, 0, 0, 0, 0, 0, 80, 0, 0, 0, 0, 0, 0, 0, 4, 0, 0, 0, 35]
theorem kX11_at_0 (j : Nat) {b : UInt8} (hj : bX11_at_0[j]? = some b) : AtB cX11_at (0 + j) b := at_of32 (by decide +kernel) j hj
def bX11_at_1 : List UInt8 := [0, 0, 0, 40, 0, 0, 0, 45, 0, 0, 0, 50, 0, 0, 0, 75, 45, 180, 1, 154, 172, 45, 180, 2, 40, 172, 45, 180, 2, 41, 172, 45]
theorem kX11_at_1 (j : Nat) {b : UInt8} (hj : bX11_at_1[j]? = some b) : AtB cX11_at (32 + j) b := at_of32 (by decide +kernel) j hj
def bX11_at_2 : List UInt8 := [180, 1, 154, 4, 159, 0, 11, 45, 180, 1, 154, 6, 160, 0, 10, 45, 180, 2, 10, 167, 0, 4, 2, 172, 45, 180, 2, 34, 172, 2, 172]
theorem kX11_at_2 (j : Nat) {b : UInt8} (hj : bX11_at_2[j]? = some b) : AtB cX11_at (64 + j) b := at_of32 (by decide +kernel) j hj
theorem dX11_at_0 : decode cX11_at 0 = .ok (.aload_n 0, 1) := dq_42 (kX11_at_0 0 rfl)
theorem dX11_at_1 : decode cX11_at 1 = .ok (.iload_n 1, 1) := dq_27 (kX11_at_0 1 rfl)
theorem dX11_at_2 : decode cX11_at 2 = .ok (.invokevirtual 403, 3) := dq_182 (kX11_at_0 2 rfl) (kX11_at_0 3 rfl) (kX11_at_0 4 rfl) rfl
theorem dX11_at_5 : decode cX11_at 5 = .ok (.astore_n 3, 1) := dq_78 (kX11_at_0 5 rfl)
theorem dX11_at_6 : decode cX11_at 6 = .ok (.aload_n 3, 1) := dq_45 (kX11_at_0 6 rfl)
theorem dX11_at_7 : decode cX11_at 7 = .ok (.ifnonnull 5, 3) := dq_199 (kX11_at_0 7 rfl) (kX11_at_0 8 rfl) (kX11_at_0 9 rfl) (by decide)
theorem dX11_at_10 : decode cX11_at 10 = .ok (.iconst (-1), 1) := dq_2 (kX11_at_0 10 rfl)
theorem dX11_at_11 : decode cX11_at 11 = .ok (.ireturn, 1) := dq_172 (kX11_at_0 11 rfl)
theorem dX11_at_12 : decode cX11_at 12 = .ok (.iload_n 2, 1) := dq_28 (kX11_at_0 12 rfl)
theorem dX11_at_48 : decode cX11_at 48 = .ok (.aload_n 3, 1) := dq_45 (kX11_at_1 16 rfl)
theorem dX11_at_49 : decode cX11_at 49 = .ok (.getfield 410, 3) := dq_180 (kX11_at_1 17 rfl) (kX11_at_1 18 rfl) (kX11_at_1 19 rfl) rfl
theorem dX11_at_52 : decode cX11_at 52 = .ok (.ireturn, 1) := dq_172 (kX11_at_1 20 rfl)
theorem dX11_at_53 : decode cX11_at 53 = .ok (.aload_n 3, 1) := dq_45 (kX11_at_1 21 rfl)
theorem dX11_at_54 : decode cX11_at 54 = .ok (.getfield 552, 3) := dq_180 (kX11_at_1 22 rfl) (kX11_at_1 23 rfl) (kX11_at_1 24 rfl) rfl
theorem dX11_at_57 : decode cX11_at 57 = .ok (.ireturn, 1) := dq_172 (kX11_at_1 25 rfl)
theorem dX11_at_58 : decode cX11_at 58 = .ok (.aload_n 3, 1) := dq_45 (kX11_at_1 26 rfl)
theorem dX11_at_59 : decode cX11_at 59 = .ok (.getfield 553, 3) := dq_180 (kX11_at_1 27 rfl) (kX11_at_1 28 rfl) (kX11_at_1 29 rfl) rfl
theorem dX11_at_62 : decode cX11_at 62 = .ok (.ireturn, 1) := dq_172 (kX11_at_1 30 rfl)
theorem dX11_at_63 : decode cX11_at 63 = .ok (.aload_n 3, 1) := dq_45 (kX11_at_1 31 rfl)
theorem dX11_at_64 : decode cX11_at 64 = .ok (.getfield 410, 3) := dq_180 (kX11_at_2 0 rfl) (kX11_at_2 1 rfl) (kX11_at_2 2 rfl) rfl
theorem dX11_at_67 : decode cX11_at 67 = .ok (.iconst 1, 1) := dq_4 (kX11_at_2 3 rfl)
theorem dX11_at_68 : decode cX11_at 68 = .ok (.if_icmp .eq 11, 3) := dq_159 (kX11_at_2 4 rfl) (kX11_at_2 5 rfl) (kX11_at_2 6 rfl) (by decide)
theorem dX11_at_71 : decode cX11_at 71 = .ok (.aload_n 3, 1) := dq_45 (kX11_at_2 7 rfl)
theorem dX11_at_72 : decode cX11_at 72 = .ok (.getfield 410, 3) := dq_180 (kX11_at_2 8 rfl) (kX11_at_2 9 rfl) (kX11_at_2 10 rfl) rfl
theorem dX11_at_75 : decode cX11_at 75 = .ok (.iconst 3, 1) := dq_6 (kX11_at_2 11 rfl)
theorem dX11_at_76 : decode cX11_at 76 = .ok (.if_icmp .ne 10, 3) := dq_160 (kX11_at_2 12 rfl) (kX11_at_2 13 rfl) (kX11_at_2 14 rfl) (by decide)
theorem dX11_at_79 : decode cX11_at 79 = .ok (.aload_n 3, 1) := dq_45 (kX11_at_2 15 rfl)
theorem dX11_at_80 : decode cX11_at 80 = .ok (.getfield 522, 3) := dq_180 (kX11_at_2 16 rfl) (kX11_at_2 17 rfl) (kX11_at_2 18 rfl) rfl
theorem dX11_at_83 : decode cX11_at 83 = .ok (.goto 4, 3) := dq_167 (kX11_at_2 19 rfl) (kX11_at_2 20 rfl) (kX11_at_2 21 rfl) (by decide)
theorem dX11_at_86 : decode cX11_at 86 = .ok (.iconst (-1), 1) := dq_2 (kX11_at_2 22 rfl)
theorem dX11_at_87 : decode cX11_at 87 = .ok (.ireturn, 1) := dq_172 (kX11_at_2 23 rfl)
theorem dX11_at_88 : decode cX11_at 88 = .ok (.aload_n 3, 1) := dq_45 (kX11_at_2 24 rfl)
theorem dX11_at_89 : decode cX11_at 89 = .ok (.getfield 546, 3) := dq_180 (kX11_at_2 25 rfl) (kX11_at_2 26 rfl) (kX11_at_2 27 rfl) rfl
theorem dX11_at_92 : decode cX11_at 92 = .ok (.ireturn, 1) := dq_172 (kX11_at_2 28 rfl)
theorem dX11_at_93 : decode cX11_at 93 = .ok (.iconst (-1), 1) := dq_2 (kX11_at_2 29 rfl)
theorem dX11_at_94 : decode cX11_at 94 = .ok (.ireturn, 1) := dq_172 (kX11_at_2 30 rfl)
def LX11_at : List (Nat × Instr × Nat) := [(13, .tableswitch 80 0 4 #[35, 40, 45, 50, 75], 35)]
theorem kkX11_at : chkB cX11_at LX11_at = true := by decide +kernel
theorem dX11_at_13 : decode cX11_at 13 = .ok (.tableswitch 80 0 4 #[35, 40, 45, 50, 75], 35) := getB' kkX11_at 0 rfl

def bX11_about_0 : List UInt8 := [42, 27, 182, 1, 53, 78, 45, 199, 0, 5, 2, 172, 28, 170, 0, 0, 0, 0, 0, 114, 0, 0, 0, 0, 0, 0, 0, 10, 0, 0, 0, 59]
theorem kX11_about_0 (j : Nat) {b : UInt8} (hj : bX11_about_0[j]? = some b) : AtB cX11_about (0 + j) b := at_of32 (by decide +kernel) j hj
def bX11_about_1 : List UInt8 := [0, 0, 0, 64, 0, 0, 0, 69, 0, 0, 0, 74, 0, 0, 0, 79, 0, 0, 0, 84, 0, 0, 0, 89, 0, 0, 0, 94, 0, 0, 0, 99]
theorem kX11_about_1 (j : Nat) {b : UInt8} (hj : bX11_about_1[j]? = some b) : AtB cX11_about (32 + j) b := at_of32 (by decide +kernel) j hj
def bX11_about_2 : List UInt8 := [0, 0, 0, 104, 0, 0, 0, 109, 45, 180, 1, 119, 172, 45, 180, 1, 97, 172, 45, 180, 1, 122, 172, 45, 180, 1, 196, 172, 45, 180, 1, 199]
theorem kX11_about_2 (j : Nat) {b : UInt8} (hj : bX11_about_2[j]? = some b) : AtB cX11_about (64 + j) b := at_of32 (by decide +kernel) j hj
def bX11_about_3 : List UInt8 := [172, 45, 180, 1, 205, 172, 45, 180, 1, 202, 172, 45, 180, 1, 57, 172, 45, 180, 1, 60, 172, 45, 180, 1, 63, 172, 45, 180, 1, 66, 172, 2]
theorem kX11_about_3 (j : Nat) {b : UInt8} (hj : bX11_about_3[j]? = some b) : AtB cX11_about (96 + j) b := at_of32 (by decide +kernel) j hj
def bX11_about_4 : List UInt8 := [172]
theorem kX11_about_4 (j : Nat) {b : UInt8} (hj : bX11_about_4[j]? = some b) : AtB cX11_about (128 + j) b := at_of32 (by decide +kernel) j hj
theorem dX11_about_0 : decode cX11_about 0 = .ok (.aload_n 0, 1) := dq_42 (kX11_about_0 0 rfl)
theorem dX11_about_1 : decode cX11_about 1 = .ok (.iload_n 1, 1) := dq_27 (kX11_about_0 1 rfl)
theorem dX11_about_2 : decode cX11_about 2 = .ok (.invokevirtual 309, 3) := dq_182 (kX11_about_0 2 rfl) (kX11_about_0 3 rfl) (kX11_about_0 4 rfl) rfl
theorem dX11_about_5 : decode cX11_about 5 = .ok (.astore_n 3, 1) := dq_78 (kX11_about_0 5 rfl)
theorem dX11_about_6 : decode cX11_about 6 = .ok (.aload_n 3, 1) := dq_45 (kX11_about_0 6 rfl)
theorem dX11_about_7 : decode cX11_about 7 = .ok (.ifnonnull 5, 3) := dq_199 (kX11_about_0 7 rfl) (kX11_about_0 8 rfl) (kX11_about_0 9 rfl) (by decide)
theorem dX11_about_10 : decode cX11_about 10 = .ok (.iconst (-1), 1) := dq_2 (kX11_about_0 10 rfl)
theorem dX11_about_11 : decode cX11_about 11 = .ok (.ireturn, 1) := dq_172 (kX11_about_0 11 rfl)
theorem dX11_about_12 : decode cX11_about 12 = .ok (.iload_n 2, 1) := dq_28 (kX11_about_0 12 rfl)
theorem dX11_about_72 : decode cX11_about 72 = .ok (.aload_n 3, 1) := dq_45 (kX11_about_2 8 rfl)
theorem dX11_about_73 : decode cX11_about 73 = .ok (.getfield 375, 3) := dq_180 (kX11_about_2 9 rfl) (kX11_about_2 10 rfl) (kX11_about_2 11 rfl) rfl
theorem dX11_about_76 : decode cX11_about 76 = .ok (.ireturn, 1) := dq_172 (kX11_about_2 12 rfl)
theorem dX11_about_77 : decode cX11_about 77 = .ok (.aload_n 3, 1) := dq_45 (kX11_about_2 13 rfl)
theorem dX11_about_78 : decode cX11_about 78 = .ok (.getfield 353, 3) := dq_180 (kX11_about_2 14 rfl) (kX11_about_2 15 rfl) (kX11_about_2 16 rfl) rfl
theorem dX11_about_81 : decode cX11_about 81 = .ok (.ireturn, 1) := dq_172 (kX11_about_2 17 rfl)
theorem dX11_about_82 : decode cX11_about 82 = .ok (.aload_n 3, 1) := dq_45 (kX11_about_2 18 rfl)
theorem dX11_about_83 : decode cX11_about 83 = .ok (.getfield 378, 3) := dq_180 (kX11_about_2 19 rfl) (kX11_about_2 20 rfl) (kX11_about_2 21 rfl) rfl
theorem dX11_about_86 : decode cX11_about 86 = .ok (.ireturn, 1) := dq_172 (kX11_about_2 22 rfl)
theorem dX11_about_87 : decode cX11_about 87 = .ok (.aload_n 3, 1) := dq_45 (kX11_about_2 23 rfl)
theorem dX11_about_88 : decode cX11_about 88 = .ok (.getfield 452, 3) := dq_180 (kX11_about_2 24 rfl) (kX11_about_2 25 rfl) (kX11_about_2 26 rfl) rfl
theorem dX11_about_91 : decode cX11_about 91 = .ok (.ireturn, 1) := dq_172 (kX11_about_2 27 rfl)
theorem dX11_about_92 : decode cX11_about 92 = .ok (.aload_n 3, 1) := dq_45 (kX11_about_2 28 rfl)
theorem dX11_about_93 : decode cX11_about 93 = .ok (.getfield 455, 3) := dq_180 (kX11_about_2 29 rfl) (kX11_about_2 30 rfl) (kX11_about_2 31 rfl) rfl
theorem dX11_about_96 : decode cX11_about 96 = .ok (.ireturn, 1) := dq_172 (kX11_about_3 0 rfl)
theorem dX11_about_97 : decode cX11_about 97 = .ok (.aload_n 3, 1) := dq_45 (kX11_about_3 1 rfl)
theorem dX11_about_98 : decode cX11_about 98 = .ok (.getfield 461, 3) := dq_180 (kX11_about_3 2 rfl) (kX11_about_3 3 rfl) (kX11_about_3 4 rfl) rfl
theorem dX11_about_101 : decode cX11_about 101 = .ok (.ireturn, 1) := dq_172 (kX11_about_3 5 rfl)
theorem dX11_about_102 : decode cX11_about 102 = .ok (.aload_n 3, 1) := dq_45 (kX11_about_3 6 rfl)
theorem dX11_about_103 : decode cX11_about 103 = .ok (.getfield 458, 3) := dq_180 (kX11_about_3 7 rfl) (kX11_about_3 8 rfl) (kX11_about_3 9 rfl) rfl
theorem dX11_about_106 : decode cX11_about 106 = .ok (.ireturn, 1) := dq_172 (kX11_about_3 10 rfl)
theorem dX11_about_107 : decode cX11_about 107 = .ok (.aload_n 3, 1) := dq_45 (kX11_about_3 11 rfl)
theorem dX11_about_108 : decode cX11_about 108 = .ok (.getfield 313, 3) := dq_180 (kX11_about_3 12 rfl) (kX11_about_3 13 rfl) (kX11_about_3 14 rfl) rfl
theorem dX11_about_111 : decode cX11_about 111 = .ok (.ireturn, 1) := dq_172 (kX11_about_3 15 rfl)
theorem dX11_about_112 : decode cX11_about 112 = .ok (.aload_n 3, 1) := dq_45 (kX11_about_3 16 rfl)
theorem dX11_about_113 : decode cX11_about 113 = .ok (.getfield 316, 3) := dq_180 (kX11_about_3 17 rfl) (kX11_about_3 18 rfl) (kX11_about_3 19 rfl) rfl
theorem dX11_about_116 : decode cX11_about 116 = .ok (.ireturn, 1) := dq_172 (kX11_about_3 20 rfl)
theorem dX11_about_117 : decode cX11_about 117 = .ok (.aload_n 3, 1) := dq_45 (kX11_about_3 21 rfl)
theorem dX11_about_118 : decode cX11_about 118 = .ok (.getfield 319, 3) := dq_180 (kX11_about_3 22 rfl) (kX11_about_3 23 rfl) (kX11_about_3 24 rfl) rfl
theorem dX11_about_121 : decode cX11_about 121 = .ok (.ireturn, 1) := dq_172 (kX11_about_3 25 rfl)
theorem dX11_about_122 : decode cX11_about 122 = .ok (.aload_n 3, 1) := dq_45 (kX11_about_3 26 rfl)
theorem dX11_about_123 : decode cX11_about 123 = .ok (.getfield 322, 3) := dq_180 (kX11_about_3 27 rfl) (kX11_about_3 28 rfl) (kX11_about_3 29 rfl) rfl
theorem dX11_about_126 : decode cX11_about 126 = .ok (.ireturn, 1) := dq_172 (kX11_about_3 30 rfl)
theorem dX11_about_127 : decode cX11_about 127 = .ok (.iconst (-1), 1) := dq_2 (kX11_about_3 31 rfl)
theorem dX11_about_128 : decode cX11_about 128 = .ok (.ireturn, 1) := dq_172 (kX11_about_4 0 rfl)
def LX11_about : List (Nat × Instr × Nat) := [(13, .tableswitch 114 0 10 #[59, 64, 69, 74, 79, 84, 89, 94, 99, 104, 109], 59)]
theorem kkX11_about : chkB cX11_about LX11_about = true := by decide +kernel
theorem dX11_about_13 : decode cX11_about 13 = .ok (.tableswitch 114 0 10 #[59, 64, 69, 74, 79, 84, 89, 94, 99, 104, 109], 59) := getB' kkX11_about 0 rfl

def bX11_sum_0 : List UInt8 := [27, 155, 0, 19, 27, 42, 180, 0, 98, 190, 162, 0, 10, 42, 180, 0, 98, 27, 47, 173, 27, 16, 10, 16, 18, 184, 0, 112, 153, 0, 28, 42]
theorem kX11_sum_0 (j : Nat) {b : UInt8} (hj : bX11_sum_0[j]? = some b) : AtB cX11_sum (0 + j) b := at_of32 (by decide +kernel) j hj
def bX11_sum_1 : List UInt8 := [27, 16, 10, 100, 182, 0, 151, 77, 44, 199, 0, 9, 20, 2, 125, 167, 0, 8, 44, 180, 1, 208, 133, 173, 27, 16, 20, 161, 0, 33, 42, 180]
theorem kX11_sum_1 (j : Nat) {b : UInt8} (hj : bX11_sum_1[j]? = some b) : AtB cX11_sum (32 + j) b := at_of32 (by decide +kernel) j hj
def bX11_sum_2 : List UInt8 := [0, 79, 27, 16, 20, 100, 182, 1, 175, 153, 0, 19, 42, 180, 0, 79, 27, 16, 20, 100, 5, 182, 0, 209, 133, 167, 0, 6, 20, 2, 125, 173]
theorem kX11_sum_2 (j : Nat) {b : UInt8} (hj : bX11_sum_2[j]? = some b) : AtB cX11_sum (64 + j) b := at_of32 (by decide +kernel) j hj
theorem dX11_sum_0 : decode cX11_sum 0 = .ok (.iload_n 1, 1) := dq_27 (kX11_sum_0 0 rfl)
theorem dX11_sum_1 : decode cX11_sum 1 = .ok (.ifCond .lt 19, 3) := dq_155 (kX11_sum_0 1 rfl) (kX11_sum_0 2 rfl) (kX11_sum_0 3 rfl) (by decide)
theorem dX11_sum_4 : decode cX11_sum 4 = .ok (.iload_n 1, 1) := dq_27 (kX11_sum_0 4 rfl)
theorem dX11_sum_5 : decode cX11_sum 5 = .ok (.aload_n 0, 1) := dq_42 (kX11_sum_0 5 rfl)
theorem dX11_sum_6 : decode cX11_sum 6 = .ok (.getfield 98, 3) := dq_180 (kX11_sum_0 6 rfl) (kX11_sum_0 7 rfl) (kX11_sum_0 8 rfl) rfl
theorem dX11_sum_9 : decode cX11_sum 9 = .ok (.arraylength, 1) := dq_190 (kX11_sum_0 9 rfl)
theorem dX11_sum_10 : decode cX11_sum 10 = .ok (.if_icmp .ge 10, 3) := dq_162 (kX11_sum_0 10 rfl) (kX11_sum_0 11 rfl) (kX11_sum_0 12 rfl) (by decide)
theorem dX11_sum_13 : decode cX11_sum 13 = .ok (.aload_n 0, 1) := dq_42 (kX11_sum_0 13 rfl)
theorem dX11_sum_14 : decode cX11_sum 14 = .ok (.getfield 98, 3) := dq_180 (kX11_sum_0 14 rfl) (kX11_sum_0 15 rfl) (kX11_sum_0 16 rfl) rfl
theorem dX11_sum_17 : decode cX11_sum 17 = .ok (.iload_n 1, 1) := dq_27 (kX11_sum_0 17 rfl)
theorem dX11_sum_18 : decode cX11_sum 18 = .ok (.laload, 1) := dq_47 (kX11_sum_0 18 rfl)
theorem dX11_sum_19 : decode cX11_sum 19 = .ok (.lreturn, 1) := dq_173 (kX11_sum_0 19 rfl)
theorem dX11_sum_20 : decode cX11_sum 20 = .ok (.iload_n 1, 1) := dq_27 (kX11_sum_0 20 rfl)
theorem dX11_sum_21 : decode cX11_sum 21 = .ok (.bipush 10, 2) := dq_16 (kX11_sum_0 21 rfl) (kX11_sum_0 22 rfl) (by decide)
theorem dX11_sum_23 : decode cX11_sum 23 = .ok (.bipush 18, 2) := dq_16 (kX11_sum_0 23 rfl) (kX11_sum_0 24 rfl) (by decide)
theorem dX11_sum_25 : decode cX11_sum 25 = .ok (.invokestatic 112, 3) := dq_184 (kX11_sum_0 25 rfl) (kX11_sum_0 26 rfl) (kX11_sum_0 27 rfl) rfl
theorem dX11_sum_28 : decode cX11_sum 28 = .ok (.ifCond .eq 28, 3) := dq_153 (kX11_sum_0 28 rfl) (kX11_sum_0 29 rfl) (kX11_sum_0 30 rfl) (by decide)
theorem dX11_sum_31 : decode cX11_sum 31 = .ok (.aload_n 0, 1) := dq_42 (kX11_sum_0 31 rfl)
theorem dX11_sum_32 : decode cX11_sum 32 = .ok (.iload_n 1, 1) := dq_27 (kX11_sum_1 0 rfl)
theorem dX11_sum_33 : decode cX11_sum 33 = .ok (.bipush 10, 2) := dq_16 (kX11_sum_1 1 rfl) (kX11_sum_1 2 rfl) (by decide)
theorem dX11_sum_35 : decode cX11_sum 35 = .ok (.isub, 1) := dq_100 (kX11_sum_1 3 rfl)
theorem dX11_sum_36 : decode cX11_sum 36 = .ok (.invokevirtual 151, 3) := dq_182 (kX11_sum_1 4 rfl) (kX11_sum_1 5 rfl) (kX11_sum_1 6 rfl) rfl
theorem dX11_sum_39 : decode cX11_sum 39 = .ok (.astore_n 2, 1) := dq_77 (kX11_sum_1 7 rfl)
theorem dX11_sum_40 : decode cX11_sum 40 = .ok (.aload_n 2, 1) := dq_44 (kX11_sum_1 8 rfl)
theorem dX11_sum_41 : decode cX11_sum 41 = .ok (.ifnonnull 9, 3) := dq_199 (kX11_sum_1 9 rfl) (kX11_sum_1 10 rfl) (kX11_sum_1 11 rfl) (by decide)
theorem dX11_sum_44 : decode cX11_sum 44 = .ok (.ldc2_w 637, 3) := dq_20 (kX11_sum_1 12 rfl) (kX11_sum_1 13 rfl) (kX11_sum_1 14 rfl) rfl
theorem dX11_sum_47 : decode cX11_sum 47 = .ok (.goto 8, 3) := dq_167 (kX11_sum_1 15 rfl) (kX11_sum_1 16 rfl) (kX11_sum_1 17 rfl) (by decide)
theorem dX11_sum_50 : decode cX11_sum 50 = .ok (.aload_n 2, 1) := dq_44 (kX11_sum_1 18 rfl)
theorem dX11_sum_51 : decode cX11_sum 51 = .ok (.getfield 464, 3) := dq_180 (kX11_sum_1 19 rfl) (kX11_sum_1 20 rfl) (kX11_sum_1 21 rfl) rfl
theorem dX11_sum_54 : decode cX11_sum 54 = .ok (.i2l, 1) := dq_133 (kX11_sum_1 22 rfl)
theorem dX11_sum_55 : decode cX11_sum 55 = .ok (.lreturn, 1) := dq_173 (kX11_sum_1 23 rfl)
theorem dX11_sum_56 : decode cX11_sum 56 = .ok (.iload_n 1, 1) := dq_27 (kX11_sum_1 24 rfl)
theorem dX11_sum_57 : decode cX11_sum 57 = .ok (.bipush 20, 2) := dq_16 (kX11_sum_1 25 rfl) (kX11_sum_1 26 rfl) (by decide)
theorem dX11_sum_59 : decode cX11_sum 59 = .ok (.if_icmp .lt 33, 3) := dq_161 (kX11_sum_1 27 rfl) (kX11_sum_1 28 rfl) (kX11_sum_1 29 rfl) (by decide)
theorem dX11_sum_62 : decode cX11_sum 62 = .ok (.aload_n 0, 1) := dq_42 (kX11_sum_1 30 rfl)
theorem dX11_sum_63 : decode cX11_sum 63 = .ok (.getfield 79, 3) := dq_180 (kX11_sum_1 31 rfl) (kX11_sum_2 0 rfl) (kX11_sum_2 1 rfl) rfl
theorem dX11_sum_66 : decode cX11_sum 66 = .ok (.iload_n 1, 1) := dq_27 (kX11_sum_2 2 rfl)
theorem dX11_sum_67 : decode cX11_sum 67 = .ok (.bipush 20, 2) := dq_16 (kX11_sum_2 3 rfl) (kX11_sum_2 4 rfl) (by decide)
theorem dX11_sum_69 : decode cX11_sum 69 = .ok (.isub, 1) := dq_100 (kX11_sum_2 5 rfl)
theorem dX11_sum_70 : decode cX11_sum 70 = .ok (.invokevirtual 431, 3) := dq_182 (kX11_sum_2 6 rfl) (kX11_sum_2 7 rfl) (kX11_sum_2 8 rfl) rfl
theorem dX11_sum_73 : decode cX11_sum 73 = .ok (.ifCond .eq 19, 3) := dq_153 (kX11_sum_2 9 rfl) (kX11_sum_2 10 rfl) (kX11_sum_2 11 rfl) (by decide)
theorem dX11_sum_76 : decode cX11_sum 76 = .ok (.aload_n 0, 1) := dq_42 (kX11_sum_2 12 rfl)
theorem dX11_sum_77 : decode cX11_sum 77 = .ok (.getfield 79, 3) := dq_180 (kX11_sum_2 13 rfl) (kX11_sum_2 14 rfl) (kX11_sum_2 15 rfl) rfl
theorem dX11_sum_80 : decode cX11_sum 80 = .ok (.iload_n 1, 1) := dq_27 (kX11_sum_2 16 rfl)
theorem dX11_sum_81 : decode cX11_sum 81 = .ok (.bipush 20, 2) := dq_16 (kX11_sum_2 17 rfl) (kX11_sum_2 18 rfl) (by decide)
theorem dX11_sum_83 : decode cX11_sum 83 = .ok (.isub, 1) := dq_100 (kX11_sum_2 19 rfl)
theorem dX11_sum_84 : decode cX11_sum 84 = .ok (.iconst 2, 1) := dq_5 (kX11_sum_2 20 rfl)
theorem dX11_sum_85 : decode cX11_sum 85 = .ok (.invokevirtual 209, 3) := dq_182 (kX11_sum_2 21 rfl) (kX11_sum_2 22 rfl) (kX11_sum_2 23 rfl) rfl
theorem dX11_sum_88 : decode cX11_sum 88 = .ok (.i2l, 1) := dq_133 (kX11_sum_2 24 rfl)
theorem dX11_sum_89 : decode cX11_sum 89 = .ok (.goto 6, 3) := dq_167 (kX11_sum_2 25 rfl) (kX11_sum_2 26 rfl) (kX11_sum_2 27 rfl) (by decide)
theorem dX11_sum_92 : decode cX11_sum 92 = .ok (.ldc2_w 637, 3) := dq_20 (kX11_sum_2 28 rfl) (kX11_sum_2 29 rfl) (kX11_sum_2 30 rfl) rfl
theorem dX11_sum_95 : decode cX11_sum 95 = .ok (.lreturn, 1) := dq_173 (kX11_sum_2 31 rfl)

def bX11_count_0 : List UInt8 := [27, 170, 0, 0, 0, 0, 0, 210, 0, 0, 0, 0, 0, 0, 0, 16, 0, 0, 0, 83, 0, 0, 0, 91, 0, 0, 0, 99, 0, 0, 0, 107]
theorem kX11_count_0 (j : Nat) {b : UInt8} (hj : bX11_count_0[j]? = some b) : AtB cX11_count (0 + j) b := at_of32 (by decide +kernel) j hj
def bX11_count_1 : List UInt8 := [0, 0, 0, 112, 0, 0, 0, 117, 0, 0, 0, 125, 0, 0, 0, 136, 0, 0, 0, 141, 0, 0, 0, 146, 0, 0, 0, 151, 0, 0, 0, 159]
theorem kX11_count_1 (j : Nat) {b : UInt8} (hj : bX11_count_1[j]? = some b) : AtB cX11_count (32 + j) b := at_of32 (by decide +kernel) j hj
def bX11_count_2 : List UInt8 := [0, 0, 0, 167, 0, 0, 0, 175, 0, 0, 0, 183, 0, 0, 0, 194, 0, 0, 0, 202, 42, 180, 0, 12, 180, 0, 145, 172, 42, 180, 0, 12]
theorem kX11_count_2 (j : Nat) {b : UInt8} (hj : bX11_count_2[j]? = some b) : AtB cX11_count (64 + j) b := at_of32 (by decide +kernel) j hj
def bX11_count_3 : List UInt8 := [180, 2, 127, 172, 42, 180, 0, 12, 180, 2, 130, 172, 42, 180, 0, 36, 172, 42, 180, 0, 46, 172, 42, 180, 0, 19, 180, 0, 216, 172, 42, 180]
theorem kX11_count_3 (j : Nat) {b : UInt8} (hj : bX11_count_3[j]? = some b) : AtB cX11_count (96 + j) b := at_of32 (by decide +kernel) j hj
def bX11_count_4 : List UInt8 := [0, 19, 180, 1, 6, 180, 0, 199, 172, 42, 180, 0, 55, 172, 42, 180, 0, 64, 172, 42, 182, 2, 132, 172, 42, 180, 0, 76, 180, 0, 199, 172]
theorem kX11_count_4 (j : Nat) {b : UInt8} (hj : bX11_count_4[j]? = some b) : AtB cX11_count (128 + j) b := at_of32 (by decide +kernel) j hj
def bX11_count_5 : List UInt8 := [42, 180, 0, 79, 180, 0, 199, 172, 42, 180, 0, 82, 180, 0, 199, 172, 42, 180, 0, 88, 180, 0, 199, 172, 42, 180, 0, 26, 180, 2, 81, 180]
theorem kX11_count_5 (j : Nat) {b : UInt8} (hj : bX11_count_5[j]? = some b) : AtB cX11_count (160 + j) b := at_of32 (by decide +kernel) j hj
def bX11_count_6 : List UInt8 := [0, 199, 172, 42, 180, 0, 85, 180, 0, 199, 172, 42, 180, 0, 91, 180, 0, 199, 172, 42, 27, 182, 2, 135, 172]
theorem kX11_count_6 (j : Nat) {b : UInt8} (hj : bX11_count_6[j]? = some b) : AtB cX11_count (192 + j) b := at_of32 (by decide +kernel) j hj
theorem dX11_count_0 : decode cX11_count 0 = .ok (.iload_n 1, 1) := dq_27 (kX11_count_0 0 rfl)
theorem dX11_count_84 : decode cX11_count 84 = .ok (.aload_n 0, 1) := dq_42 (kX11_count_2 20 rfl)
theorem dX11_count_85 : decode cX11_count 85 = .ok (.getfield 12, 3) := dq_180 (kX11_count_2 21 rfl) (kX11_count_2 22 rfl) (kX11_count_2 23 rfl) rfl
theorem dX11_count_88 : decode cX11_count 88 = .ok (.getfield 145, 3) := dq_180 (kX11_count_2 24 rfl) (kX11_count_2 25 rfl) (kX11_count_2 26 rfl) rfl
theorem dX11_count_91 : decode cX11_count 91 = .ok (.ireturn, 1) := dq_172 (kX11_count_2 27 rfl)
theorem dX11_count_92 : decode cX11_count 92 = .ok (.aload_n 0, 1) := dq_42 (kX11_count_2 28 rfl)
theorem dX11_count_93 : decode cX11_count 93 = .ok (.getfield 12, 3) := dq_180 (kX11_count_2 29 rfl) (kX11_count_2 30 rfl) (kX11_count_2 31 rfl) rfl
theorem dX11_count_96 : decode cX11_count 96 = .ok (.getfield 639, 3) := dq_180 (kX11_count_3 0 rfl) (kX11_count_3 1 rfl) (kX11_count_3 2 rfl) rfl
theorem dX11_count_99 : decode cX11_count 99 = .ok (.ireturn, 1) := dq_172 (kX11_count_3 3 rfl)
theorem dX11_count_100 : decode cX11_count 100 = .ok (.aload_n 0, 1) := dq_42 (kX11_count_3 4 rfl)
theorem dX11_count_101 : decode cX11_count 101 = .ok (.getfield 12, 3) := dq_180 (kX11_count_3 5 rfl) (kX11_count_3 6 rfl) (kX11_count_3 7 rfl) rfl
theorem dX11_count_104 : decode cX11_count 104 = .ok (.getfield 642, 3) := dq_180 (kX11_count_3 8 rfl) (kX11_count_3 9 rfl) (kX11_count_3 10 rfl) rfl
theorem dX11_count_107 : decode cX11_count 107 = .ok (.ireturn, 1) := dq_172 (kX11_count_3 11 rfl)
theorem dX11_count_108 : decode cX11_count 108 = .ok (.aload_n 0, 1) := dq_42 (kX11_count_3 12 rfl)
theorem dX11_count_109 : decode cX11_count 109 = .ok (.getfield 36, 3) := dq_180 (kX11_count_3 13 rfl) (kX11_count_3 14 rfl) (kX11_count_3 15 rfl) rfl
theorem dX11_count_112 : decode cX11_count 112 = .ok (.ireturn, 1) := dq_172 (kX11_count_3 16 rfl)
theorem dX11_count_113 : decode cX11_count 113 = .ok (.aload_n 0, 1) := dq_42 (kX11_count_3 17 rfl)
theorem dX11_count_114 : decode cX11_count 114 = .ok (.getfield 46, 3) := dq_180 (kX11_count_3 18 rfl) (kX11_count_3 19 rfl) (kX11_count_3 20 rfl) rfl
theorem dX11_count_117 : decode cX11_count 117 = .ok (.ireturn, 1) := dq_172 (kX11_count_3 21 rfl)
theorem dX11_count_118 : decode cX11_count 118 = .ok (.aload_n 0, 1) := dq_42 (kX11_count_3 22 rfl)
theorem dX11_count_119 : decode cX11_count 119 = .ok (.getfield 19, 3) := dq_180 (kX11_count_3 23 rfl) (kX11_count_3 24 rfl) (kX11_count_3 25 rfl) rfl
theorem dX11_count_122 : decode cX11_count 122 = .ok (.getfield 216, 3) := dq_180 (kX11_count_3 26 rfl) (kX11_count_3 27 rfl) (kX11_count_3 28 rfl) rfl
theorem dX11_count_125 : decode cX11_count 125 = .ok (.ireturn, 1) := dq_172 (kX11_count_3 29 rfl)
theorem dX11_count_126 : decode cX11_count 126 = .ok (.aload_n 0, 1) := dq_42 (kX11_count_3 30 rfl)
theorem dX11_count_127 : decode cX11_count 127 = .ok (.getfield 19, 3) := dq_180 (kX11_count_3 31 rfl) (kX11_count_4 0 rfl) (kX11_count_4 1 rfl) rfl
theorem dX11_count_130 : decode cX11_count 130 = .ok (.getfield 262, 3) := dq_180 (kX11_count_4 2 rfl) (kX11_count_4 3 rfl) (kX11_count_4 4 rfl) rfl
theorem dX11_count_133 : decode cX11_count 133 = .ok (.getfield 199, 3) := dq_180 (kX11_count_4 5 rfl) (kX11_count_4 6 rfl) (kX11_count_4 7 rfl) rfl
theorem dX11_count_136 : decode cX11_count 136 = .ok (.ireturn, 1) := dq_172 (kX11_count_4 8 rfl)
theorem dX11_count_137 : decode cX11_count 137 = .ok (.aload_n 0, 1) := dq_42 (kX11_count_4 9 rfl)
theorem dX11_count_138 : decode cX11_count 138 = .ok (.getfield 55, 3) := dq_180 (kX11_count_4 10 rfl) (kX11_count_4 11 rfl) (kX11_count_4 12 rfl) rfl
theorem dX11_count_141 : decode cX11_count 141 = .ok (.ireturn, 1) := dq_172 (kX11_count_4 13 rfl)
theorem dX11_count_142 : decode cX11_count 142 = .ok (.aload_n 0, 1) := dq_42 (kX11_count_4 14 rfl)
theorem dX11_count_143 : decode cX11_count 143 = .ok (.getfield 64, 3) := dq_180 (kX11_count_4 15 rfl) (kX11_count_4 16 rfl) (kX11_count_4 17 rfl) rfl
theorem dX11_count_146 : decode cX11_count 146 = .ok (.ireturn, 1) := dq_172 (kX11_count_4 18 rfl)
theorem dX11_count_147 : decode cX11_count 147 = .ok (.aload_n 0, 1) := dq_42 (kX11_count_4 19 rfl)
theorem dX11_count_148 : decode cX11_count 148 = .ok (.invokevirtual 644, 3) := dq_182 (kX11_count_4 20 rfl) (kX11_count_4 21 rfl) (kX11_count_4 22 rfl) rfl
theorem dX11_count_151 : decode cX11_count 151 = .ok (.ireturn, 1) := dq_172 (kX11_count_4 23 rfl)
theorem dX11_count_152 : decode cX11_count 152 = .ok (.aload_n 0, 1) := dq_42 (kX11_count_4 24 rfl)
theorem dX11_count_153 : decode cX11_count 153 = .ok (.getfield 76, 3) := dq_180 (kX11_count_4 25 rfl) (kX11_count_4 26 rfl) (kX11_count_4 27 rfl) rfl
theorem dX11_count_156 : decode cX11_count 156 = .ok (.getfield 199, 3) := dq_180 (kX11_count_4 28 rfl) (kX11_count_4 29 rfl) (kX11_count_4 30 rfl) rfl
theorem dX11_count_159 : decode cX11_count 159 = .ok (.ireturn, 1) := dq_172 (kX11_count_4 31 rfl)
theorem dX11_count_160 : decode cX11_count 160 = .ok (.aload_n 0, 1) := dq_42 (kX11_count_5 0 rfl)
theorem dX11_count_161 : decode cX11_count 161 = .ok (.getfield 79, 3) := dq_180 (kX11_count_5 1 rfl) (kX11_count_5 2 rfl) (kX11_count_5 3 rfl) rfl
theorem dX11_count_164 : decode cX11_count 164 = .ok (.getfield 199, 3) := dq_180 (kX11_count_5 4 rfl) (kX11_count_5 5 rfl) (kX11_count_5 6 rfl) rfl
theorem dX11_count_167 : decode cX11_count 167 = .ok (.ireturn, 1) := dq_172 (kX11_count_5 7 rfl)
theorem dX11_count_168 : decode cX11_count 168 = .ok (.aload_n 0, 1) := dq_42 (kX11_count_5 8 rfl)
theorem dX11_count_169 : decode cX11_count 169 = .ok (.getfield 82, 3) := dq_180 (kX11_count_5 9 rfl) (kX11_count_5 10 rfl) (kX11_count_5 11 rfl) rfl
theorem dX11_count_172 : decode cX11_count 172 = .ok (.getfield 199, 3) := dq_180 (kX11_count_5 12 rfl) (kX11_count_5 13 rfl) (kX11_count_5 14 rfl) rfl
theorem dX11_count_175 : decode cX11_count 175 = .ok (.ireturn, 1) := dq_172 (kX11_count_5 15 rfl)
theorem dX11_count_176 : decode cX11_count 176 = .ok (.aload_n 0, 1) := dq_42 (kX11_count_5 16 rfl)
theorem dX11_count_177 : decode cX11_count 177 = .ok (.getfield 88, 3) := dq_180 (kX11_count_5 17 rfl) (kX11_count_5 18 rfl) (kX11_count_5 19 rfl) rfl
theorem dX11_count_180 : decode cX11_count 180 = .ok (.getfield 199, 3) := dq_180 (kX11_count_5 20 rfl) (kX11_count_5 21 rfl) (kX11_count_5 22 rfl) rfl
theorem dX11_count_183 : decode cX11_count 183 = .ok (.ireturn, 1) := dq_172 (kX11_count_5 23 rfl)
theorem dX11_count_184 : decode cX11_count 184 = .ok (.aload_n 0, 1) := dq_42 (kX11_count_5 24 rfl)
theorem dX11_count_185 : decode cX11_count 185 = .ok (.getfield 26, 3) := dq_180 (kX11_count_5 25 rfl) (kX11_count_5 26 rfl) (kX11_count_5 27 rfl) rfl
theorem dX11_count_188 : decode cX11_count 188 = .ok (.getfield 593, 3) := dq_180 (kX11_count_5 28 rfl) (kX11_count_5 29 rfl) (kX11_count_5 30 rfl) rfl
theorem dX11_count_191 : decode cX11_count 191 = .ok (.getfield 199, 3) := dq_180 (kX11_count_5 31 rfl) (kX11_count_6 0 rfl) (kX11_count_6 1 rfl) rfl
theorem dX11_count_194 : decode cX11_count 194 = .ok (.ireturn, 1) := dq_172 (kX11_count_6 2 rfl)
theorem dX11_count_195 : decode cX11_count 195 = .ok (.aload_n 0, 1) := dq_42 (kX11_count_6 3 rfl)
theorem dX11_count_196 : decode cX11_count 196 = .ok (.getfield 85, 3) := dq_180 (kX11_count_6 4 rfl) (kX11_count_6 5 rfl) (kX11_count_6 6 rfl) rfl
theorem dX11_count_199 : decode cX11_count 199 = .ok (.getfield 199, 3) := dq_180 (kX11_count_6 7 rfl) (kX11_count_6 8 rfl) (kX11_count_6 9 rfl) rfl
theorem dX11_count_202 : decode cX11_count 202 = .ok (.ireturn, 1) := dq_172 (kX11_count_6 10 rfl)
theorem dX11_count_203 : decode cX11_count 203 = .ok (.aload_n 0, 1) := dq_42 (kX11_count_6 11 rfl)
theorem dX11_count_204 : decode cX11_count 204 = .ok (.getfield 91, 3) := dq_180 (kX11_count_6 12 rfl) (kX11_count_6 13 rfl) (kX11_count_6 14 rfl) rfl
theorem dX11_count_207 : decode cX11_count 207 = .ok (.getfield 199, 3) := dq_180 (kX11_count_6 15 rfl) (kX11_count_6 16 rfl) (kX11_count_6 17 rfl) rfl
theorem dX11_count_210 : decode cX11_count 210 = .ok (.ireturn, 1) := dq_172 (kX11_count_6 18 rfl)
theorem dX11_count_211 : decode cX11_count 211 = .ok (.aload_n 0, 1) := dq_42 (kX11_count_6 19 rfl)
theorem dX11_count_212 : decode cX11_count 212 = .ok (.iload_n 1, 1) := dq_27 (kX11_count_6 20 rfl)
theorem dX11_count_213 : decode cX11_count 213 = .ok (.invokevirtual 647, 3) := dq_182 (kX11_count_6 21 rfl) (kX11_count_6 22 rfl) (kX11_count_6 23 rfl) rfl
theorem dX11_count_216 : decode cX11_count 216 = .ok (.ireturn, 1) := dq_172 (kX11_count_6 24 rfl)
def LX11_count : List (Nat × Instr × Nat) := [(1, .tableswitch 210 0 16 #[83, 91, 99, 107, 112, 117, 125, 136, 141, 146, 151, 159, 167, 175, 183, 194, 202], 83)]
theorem kkX11_count : chkB cX11_count LX11_count = true := by decide +kernel
theorem dX11_count_1 : decode cX11_count 1 = .ok (.tableswitch 210 0 16 #[83, 91, 99, 107, 112, 117, 125, 136, 141, 146, 151, 159, 167, 175, 183, 194, 202], 83) := getB' kkX11_count 0 rfl

def bX11_decidesFrom_0 : List UInt8 := [27, 16, 20, 16, 28, 184, 0, 112, 153, 0, 14, 42, 27, 16, 20, 100, 182, 0, 151, 167, 0, 4, 1, 77, 44, 199, 0, 7, 2, 167, 0, 7]
theorem kX11_decidesFrom_0 (j : Nat) {b : UInt8} (hj : bX11_decidesFrom_0[j]? = some b) : AtB cX11_decidesFrom (0 + j) b := at_of32 (by decide +kernel) j hj
def bX11_decidesFrom_1 : List UInt8 := [44, 180, 1, 85, 172]
theorem kX11_decidesFrom_1 (j : Nat) {b : UInt8} (hj : bX11_decidesFrom_1[j]? = some b) : AtB cX11_decidesFrom (32 + j) b := at_of32 (by decide +kernel) j hj
theorem dX11_decidesFrom_0 : decode cX11_decidesFrom 0 = .ok (.iload_n 1, 1) := dq_27 (kX11_decidesFrom_0 0 rfl)
theorem dX11_decidesFrom_1 : decode cX11_decidesFrom 1 = .ok (.bipush 20, 2) := dq_16 (kX11_decidesFrom_0 1 rfl) (kX11_decidesFrom_0 2 rfl) (by decide)
theorem dX11_decidesFrom_3 : decode cX11_decidesFrom 3 = .ok (.bipush 28, 2) := dq_16 (kX11_decidesFrom_0 3 rfl) (kX11_decidesFrom_0 4 rfl) (by decide)
theorem dX11_decidesFrom_5 : decode cX11_decidesFrom 5 = .ok (.invokestatic 112, 3) := dq_184 (kX11_decidesFrom_0 5 rfl) (kX11_decidesFrom_0 6 rfl) (kX11_decidesFrom_0 7 rfl) rfl
theorem dX11_decidesFrom_8 : decode cX11_decidesFrom 8 = .ok (.ifCond .eq 14, 3) := dq_153 (kX11_decidesFrom_0 8 rfl) (kX11_decidesFrom_0 9 rfl) (kX11_decidesFrom_0 10 rfl) (by decide)
theorem dX11_decidesFrom_11 : decode cX11_decidesFrom 11 = .ok (.aload_n 0, 1) := dq_42 (kX11_decidesFrom_0 11 rfl)
theorem dX11_decidesFrom_12 : decode cX11_decidesFrom 12 = .ok (.iload_n 1, 1) := dq_27 (kX11_decidesFrom_0 12 rfl)
theorem dX11_decidesFrom_13 : decode cX11_decidesFrom 13 = .ok (.bipush 20, 2) := dq_16 (kX11_decidesFrom_0 13 rfl) (kX11_decidesFrom_0 14 rfl) (by decide)
theorem dX11_decidesFrom_15 : decode cX11_decidesFrom 15 = .ok (.isub, 1) := dq_100 (kX11_decidesFrom_0 15 rfl)
theorem dX11_decidesFrom_16 : decode cX11_decidesFrom 16 = .ok (.invokevirtual 151, 3) := dq_182 (kX11_decidesFrom_0 16 rfl) (kX11_decidesFrom_0 17 rfl) (kX11_decidesFrom_0 18 rfl) rfl
theorem dX11_decidesFrom_19 : decode cX11_decidesFrom 19 = .ok (.goto 4, 3) := dq_167 (kX11_decidesFrom_0 19 rfl) (kX11_decidesFrom_0 20 rfl) (kX11_decidesFrom_0 21 rfl) (by decide)
theorem dX11_decidesFrom_22 : decode cX11_decidesFrom 22 = .ok (.aconst_null, 1) := dq_1 (kX11_decidesFrom_0 22 rfl)
theorem dX11_decidesFrom_23 : decode cX11_decidesFrom 23 = .ok (.astore_n 2, 1) := dq_77 (kX11_decidesFrom_0 23 rfl)
theorem dX11_decidesFrom_24 : decode cX11_decidesFrom 24 = .ok (.aload_n 2, 1) := dq_44 (kX11_decidesFrom_0 24 rfl)
theorem dX11_decidesFrom_25 : decode cX11_decidesFrom 25 = .ok (.ifnonnull 7, 3) := dq_199 (kX11_decidesFrom_0 25 rfl) (kX11_decidesFrom_0 26 rfl) (kX11_decidesFrom_0 27 rfl) (by decide)
theorem dX11_decidesFrom_28 : decode cX11_decidesFrom 28 = .ok (.iconst (-1), 1) := dq_2 (kX11_decidesFrom_0 28 rfl)
theorem dX11_decidesFrom_29 : decode cX11_decidesFrom 29 = .ok (.goto 7, 3) := dq_167 (kX11_decidesFrom_0 29 rfl) (kX11_decidesFrom_0 30 rfl) (kX11_decidesFrom_0 31 rfl) (by decide)
theorem dX11_decidesFrom_32 : decode cX11_decidesFrom 32 = .ok (.aload_n 2, 1) := dq_44 (kX11_decidesFrom_1 0 rfl)
theorem dX11_decidesFrom_33 : decode cX11_decidesFrom 33 = .ok (.getfield 341, 3) := dq_180 (kX11_decidesFrom_1 1 rfl) (kX11_decidesFrom_1 2 rfl) (kX11_decidesFrom_1 3 rfl) rfl
theorem dX11_decidesFrom_36 : decode cX11_decidesFrom 36 = .ok (.ireturn, 1) := dq_172 (kX11_decidesFrom_1 4 rfl)

def bX11_sledgesOnWay_0 : List UInt8 := [3, 60, 3, 61, 28, 42, 180, 0, 72, 180, 0, 199, 162, 0, 21, 27, 42, 180, 0, 72, 28, 7, 182, 0, 209, 96, 60, 132, 2, 1, 167, 255]
theorem kX11_sledgesOnWay_0 (j : Nat) {b : UInt8} (hj : bX11_sledgesOnWay_0[j]? = some b) : AtB cX11_sledgesOnWay (0 + j) b := at_of32 (by decide +kernel) j hj
def bX11_sledgesOnWay_1 : List UInt8 := [230, 27, 172]
theorem kX11_sledgesOnWay_1 (j : Nat) {b : UInt8} (hj : bX11_sledgesOnWay_1[j]? = some b) : AtB cX11_sledgesOnWay (32 + j) b := at_of32 (by decide +kernel) j hj
theorem dX11_sledgesOnWay_0 : decode cX11_sledgesOnWay 0 = .ok (.iconst 0, 1) := dq_3 (kX11_sledgesOnWay_0 0 rfl)
theorem dX11_sledgesOnWay_1 : decode cX11_sledgesOnWay 1 = .ok (.istore_n 1, 1) := dq_60 (kX11_sledgesOnWay_0 1 rfl)
theorem dX11_sledgesOnWay_2 : decode cX11_sledgesOnWay 2 = .ok (.iconst 0, 1) := dq_3 (kX11_sledgesOnWay_0 2 rfl)
theorem dX11_sledgesOnWay_3 : decode cX11_sledgesOnWay 3 = .ok (.istore_n 2, 1) := dq_61 (kX11_sledgesOnWay_0 3 rfl)
theorem dX11_sledgesOnWay_4 : decode cX11_sledgesOnWay 4 = .ok (.iload_n 2, 1) := dq_28 (kX11_sledgesOnWay_0 4 rfl)
theorem dX11_sledgesOnWay_5 : decode cX11_sledgesOnWay 5 = .ok (.aload_n 0, 1) := dq_42 (kX11_sledgesOnWay_0 5 rfl)
theorem dX11_sledgesOnWay_6 : decode cX11_sledgesOnWay 6 = .ok (.getfield 72, 3) := dq_180 (kX11_sledgesOnWay_0 6 rfl) (kX11_sledgesOnWay_0 7 rfl) (kX11_sledgesOnWay_0 8 rfl) rfl
theorem dX11_sledgesOnWay_9 : decode cX11_sledgesOnWay 9 = .ok (.getfield 199, 3) := dq_180 (kX11_sledgesOnWay_0 9 rfl) (kX11_sledgesOnWay_0 10 rfl) (kX11_sledgesOnWay_0 11 rfl) rfl
theorem dX11_sledgesOnWay_12 : decode cX11_sledgesOnWay 12 = .ok (.if_icmp .ge 21, 3) := dq_162 (kX11_sledgesOnWay_0 12 rfl) (kX11_sledgesOnWay_0 13 rfl) (kX11_sledgesOnWay_0 14 rfl) (by decide)
theorem dX11_sledgesOnWay_15 : decode cX11_sledgesOnWay 15 = .ok (.iload_n 1, 1) := dq_27 (kX11_sledgesOnWay_0 15 rfl)
theorem dX11_sledgesOnWay_16 : decode cX11_sledgesOnWay 16 = .ok (.aload_n 0, 1) := dq_42 (kX11_sledgesOnWay_0 16 rfl)
theorem dX11_sledgesOnWay_17 : decode cX11_sledgesOnWay 17 = .ok (.getfield 72, 3) := dq_180 (kX11_sledgesOnWay_0 17 rfl) (kX11_sledgesOnWay_0 18 rfl) (kX11_sledgesOnWay_0 19 rfl) rfl
theorem dX11_sledgesOnWay_20 : decode cX11_sledgesOnWay 20 = .ok (.iload_n 2, 1) := dq_28 (kX11_sledgesOnWay_0 20 rfl)
theorem dX11_sledgesOnWay_21 : decode cX11_sledgesOnWay 21 = .ok (.iconst 4, 1) := dq_7 (kX11_sledgesOnWay_0 21 rfl)
theorem dX11_sledgesOnWay_22 : decode cX11_sledgesOnWay 22 = .ok (.invokevirtual 209, 3) := dq_182 (kX11_sledgesOnWay_0 22 rfl) (kX11_sledgesOnWay_0 23 rfl) (kX11_sledgesOnWay_0 24 rfl) rfl
theorem dX11_sledgesOnWay_25 : decode cX11_sledgesOnWay 25 = .ok (.iadd, 1) := dq_96 (kX11_sledgesOnWay_0 25 rfl)
theorem dX11_sledgesOnWay_26 : decode cX11_sledgesOnWay 26 = .ok (.istore_n 1, 1) := dq_60 (kX11_sledgesOnWay_0 26 rfl)
theorem dX11_sledgesOnWay_27 : decode cX11_sledgesOnWay 27 = .ok (.iinc 2 1, 3) := dq_132 (kX11_sledgesOnWay_0 27 rfl) (kX11_sledgesOnWay_0 28 rfl) (kX11_sledgesOnWay_0 29 rfl) rfl (by decide)
theorem dX11_sledgesOnWay_30 : decode cX11_sledgesOnWay 30 = .ok (.goto (-26), 3) := dq_167 (kX11_sledgesOnWay_0 30 rfl) (kX11_sledgesOnWay_0 31 rfl) (kX11_sledgesOnWay_1 0 rfl) (by decide)
theorem dX11_sledgesOnWay_33 : decode cX11_sledgesOnWay 33 = .ok (.iload_n 1, 1) := dq_27 (kX11_sledgesOnWay_1 1 rfl)
theorem dX11_sledgesOnWay_34 : decode cX11_sledgesOnWay 34 = .ok (.ireturn, 1) := dq_172 (kX11_sledgesOnWay_1 2 rfl)

def bX11_partyOf_0 : List UInt8 := [27, 155, 0, 29, 27, 42, 180, 0, 36, 162, 0, 21, 27, 42, 180, 0, 32, 190, 162, 0, 12, 42, 180, 0, 32, 27, 50, 167, 0, 4, 1, 176]
theorem kX11_partyOf_0 (j : Nat) {b : UInt8} (hj : bX11_partyOf_0[j]? = some b) : AtB cX11_partyOf (0 + j) b := at_of32 (by decide +kernel) j hj
theorem dX11_partyOf_0 : decode cX11_partyOf 0 = .ok (.iload_n 1, 1) := dq_27 (kX11_partyOf_0 0 rfl)
theorem dX11_partyOf_1 : decode cX11_partyOf 1 = .ok (.ifCond .lt 29, 3) := dq_155 (kX11_partyOf_0 1 rfl) (kX11_partyOf_0 2 rfl) (kX11_partyOf_0 3 rfl) (by decide)
theorem dX11_partyOf_4 : decode cX11_partyOf 4 = .ok (.iload_n 1, 1) := dq_27 (kX11_partyOf_0 4 rfl)
theorem dX11_partyOf_5 : decode cX11_partyOf 5 = .ok (.aload_n 0, 1) := dq_42 (kX11_partyOf_0 5 rfl)
theorem dX11_partyOf_6 : decode cX11_partyOf 6 = .ok (.getfield 36, 3) := dq_180 (kX11_partyOf_0 6 rfl) (kX11_partyOf_0 7 rfl) (kX11_partyOf_0 8 rfl) rfl
theorem dX11_partyOf_9 : decode cX11_partyOf 9 = .ok (.if_icmp .ge 21, 3) := dq_162 (kX11_partyOf_0 9 rfl) (kX11_partyOf_0 10 rfl) (kX11_partyOf_0 11 rfl) (by decide)
theorem dX11_partyOf_12 : decode cX11_partyOf 12 = .ok (.iload_n 1, 1) := dq_27 (kX11_partyOf_0 12 rfl)
theorem dX11_partyOf_13 : decode cX11_partyOf 13 = .ok (.aload_n 0, 1) := dq_42 (kX11_partyOf_0 13 rfl)
theorem dX11_partyOf_14 : decode cX11_partyOf 14 = .ok (.getfield 32, 3) := dq_180 (kX11_partyOf_0 14 rfl) (kX11_partyOf_0 15 rfl) (kX11_partyOf_0 16 rfl) rfl
theorem dX11_partyOf_17 : decode cX11_partyOf 17 = .ok (.arraylength, 1) := dq_190 (kX11_partyOf_0 17 rfl)
theorem dX11_partyOf_18 : decode cX11_partyOf 18 = .ok (.if_icmp .ge 12, 3) := dq_162 (kX11_partyOf_0 18 rfl) (kX11_partyOf_0 19 rfl) (kX11_partyOf_0 20 rfl) (by decide)
theorem dX11_partyOf_21 : decode cX11_partyOf 21 = .ok (.aload_n 0, 1) := dq_42 (kX11_partyOf_0 21 rfl)
theorem dX11_partyOf_22 : decode cX11_partyOf 22 = .ok (.getfield 32, 3) := dq_180 (kX11_partyOf_0 22 rfl) (kX11_partyOf_0 23 rfl) (kX11_partyOf_0 24 rfl) rfl
theorem dX11_partyOf_25 : decode cX11_partyOf 25 = .ok (.iload_n 1, 1) := dq_27 (kX11_partyOf_0 25 rfl)
theorem dX11_partyOf_26 : decode cX11_partyOf 26 = .ok (.aaload, 1) := dq_50 (kX11_partyOf_0 26 rfl)
theorem dX11_partyOf_27 : decode cX11_partyOf 27 = .ok (.goto 4, 3) := dq_167 (kX11_partyOf_0 27 rfl) (kX11_partyOf_0 28 rfl) (kX11_partyOf_0 29 rfl) (by decide)
theorem dX11_partyOf_30 : decode cX11_partyOf 30 = .ok (.aconst_null, 1) := dq_1 (kX11_partyOf_0 30 rfl)
theorem dX11_partyOf_31 : decode cX11_partyOf 31 = .ok (.areturn, 1) := dq_176 (kX11_partyOf_0 31 rfl)

def bX11_anyPlace_0 : List UInt8 := [27, 155, 0, 29, 27, 42, 180, 0, 46, 162, 0, 21, 27, 42, 180, 0, 42, 190, 162, 0, 12, 42, 180, 0, 42, 27, 50, 167, 0, 4, 1, 176]
theorem kX11_anyPlace_0 (j : Nat) {b : UInt8} (hj : bX11_anyPlace_0[j]? = some b) : AtB cX11_anyPlace (0 + j) b := at_of32 (by decide +kernel) j hj
theorem dX11_anyPlace_0 : decode cX11_anyPlace 0 = .ok (.iload_n 1, 1) := dq_27 (kX11_anyPlace_0 0 rfl)
theorem dX11_anyPlace_1 : decode cX11_anyPlace 1 = .ok (.ifCond .lt 29, 3) := dq_155 (kX11_anyPlace_0 1 rfl) (kX11_anyPlace_0 2 rfl) (kX11_anyPlace_0 3 rfl) (by decide)
theorem dX11_anyPlace_4 : decode cX11_anyPlace 4 = .ok (.iload_n 1, 1) := dq_27 (kX11_anyPlace_0 4 rfl)
theorem dX11_anyPlace_5 : decode cX11_anyPlace 5 = .ok (.aload_n 0, 1) := dq_42 (kX11_anyPlace_0 5 rfl)
theorem dX11_anyPlace_6 : decode cX11_anyPlace 6 = .ok (.getfield 46, 3) := dq_180 (kX11_anyPlace_0 6 rfl) (kX11_anyPlace_0 7 rfl) (kX11_anyPlace_0 8 rfl) rfl
theorem dX11_anyPlace_9 : decode cX11_anyPlace 9 = .ok (.if_icmp .ge 21, 3) := dq_162 (kX11_anyPlace_0 9 rfl) (kX11_anyPlace_0 10 rfl) (kX11_anyPlace_0 11 rfl) (by decide)
theorem dX11_anyPlace_12 : decode cX11_anyPlace 12 = .ok (.iload_n 1, 1) := dq_27 (kX11_anyPlace_0 12 rfl)
theorem dX11_anyPlace_13 : decode cX11_anyPlace 13 = .ok (.aload_n 0, 1) := dq_42 (kX11_anyPlace_0 13 rfl)
theorem dX11_anyPlace_14 : decode cX11_anyPlace 14 = .ok (.getfield 42, 3) := dq_180 (kX11_anyPlace_0 14 rfl) (kX11_anyPlace_0 15 rfl) (kX11_anyPlace_0 16 rfl) rfl
theorem dX11_anyPlace_17 : decode cX11_anyPlace 17 = .ok (.arraylength, 1) := dq_190 (kX11_anyPlace_0 17 rfl)
theorem dX11_anyPlace_18 : decode cX11_anyPlace 18 = .ok (.if_icmp .ge 12, 3) := dq_162 (kX11_anyPlace_0 18 rfl) (kX11_anyPlace_0 19 rfl) (kX11_anyPlace_0 20 rfl) (by decide)
theorem dX11_anyPlace_21 : decode cX11_anyPlace 21 = .ok (.aload_n 0, 1) := dq_42 (kX11_anyPlace_0 21 rfl)
theorem dX11_anyPlace_22 : decode cX11_anyPlace 22 = .ok (.getfield 42, 3) := dq_180 (kX11_anyPlace_0 22 rfl) (kX11_anyPlace_0 23 rfl) (kX11_anyPlace_0 24 rfl) rfl
theorem dX11_anyPlace_25 : decode cX11_anyPlace 25 = .ok (.iload_n 1, 1) := dq_27 (kX11_anyPlace_0 25 rfl)
theorem dX11_anyPlace_26 : decode cX11_anyPlace 26 = .ok (.aaload, 1) := dq_50 (kX11_anyPlace_0 26 rfl)
theorem dX11_anyPlace_27 : decode cX11_anyPlace 27 = .ok (.goto 4, 3) := dq_167 (kX11_anyPlace_0 27 rfl) (kX11_anyPlace_0 28 rfl) (kX11_anyPlace_0 29 rfl) (by decide)
theorem dX11_anyPlace_30 : decode cX11_anyPlace 30 = .ok (.aconst_null, 1) := dq_1 (kX11_anyPlace_0 30 rfl)
theorem dX11_anyPlace_31 : decode cX11_anyPlace 31 = .ok (.areturn, 1) := dq_176 (kX11_anyPlace_0 31 rfl)

def bX11_placeOf_0 : List UInt8 := [42, 27, 182, 1, 128, 78, 45, 198, 0, 15, 45, 180, 1, 131, 28, 160, 0, 7, 45, 167, 0, 4, 1, 176]
theorem kX11_placeOf_0 (j : Nat) {b : UInt8} (hj : bX11_placeOf_0[j]? = some b) : AtB cX11_placeOf (0 + j) b := at_of32 (by decide +kernel) j hj
theorem dX11_placeOf_0 : decode cX11_placeOf 0 = .ok (.aload_n 0, 1) := dq_42 (kX11_placeOf_0 0 rfl)
theorem dX11_placeOf_1 : decode cX11_placeOf 1 = .ok (.iload_n 1, 1) := dq_27 (kX11_placeOf_0 1 rfl)
theorem dX11_placeOf_2 : decode cX11_placeOf 2 = .ok (.invokevirtual 384, 3) := dq_182 (kX11_placeOf_0 2 rfl) (kX11_placeOf_0 3 rfl) (kX11_placeOf_0 4 rfl) rfl
theorem dX11_placeOf_5 : decode cX11_placeOf 5 = .ok (.astore_n 3, 1) := dq_78 (kX11_placeOf_0 5 rfl)
theorem dX11_placeOf_6 : decode cX11_placeOf 6 = .ok (.aload_n 3, 1) := dq_45 (kX11_placeOf_0 6 rfl)
theorem dX11_placeOf_7 : decode cX11_placeOf 7 = .ok (.ifnull 15, 3) := dq_198 (kX11_placeOf_0 7 rfl) (kX11_placeOf_0 8 rfl) (kX11_placeOf_0 9 rfl) (by decide)
theorem dX11_placeOf_10 : decode cX11_placeOf 10 = .ok (.aload_n 3, 1) := dq_45 (kX11_placeOf_0 10 rfl)
theorem dX11_placeOf_11 : decode cX11_placeOf 11 = .ok (.getfield 387, 3) := dq_180 (kX11_placeOf_0 11 rfl) (kX11_placeOf_0 12 rfl) (kX11_placeOf_0 13 rfl) rfl
theorem dX11_placeOf_14 : decode cX11_placeOf 14 = .ok (.iload_n 2, 1) := dq_28 (kX11_placeOf_0 14 rfl)
theorem dX11_placeOf_15 : decode cX11_placeOf 15 = .ok (.if_icmp .ne 7, 3) := dq_160 (kX11_placeOf_0 15 rfl) (kX11_placeOf_0 16 rfl) (kX11_placeOf_0 17 rfl) (by decide)
theorem dX11_placeOf_18 : decode cX11_placeOf 18 = .ok (.aload_n 3, 1) := dq_45 (kX11_placeOf_0 18 rfl)
theorem dX11_placeOf_19 : decode cX11_placeOf 19 = .ok (.goto 4, 3) := dq_167 (kX11_placeOf_0 19 rfl) (kX11_placeOf_0 20 rfl) (kX11_placeOf_0 21 rfl) (by decide)
theorem dX11_placeOf_22 : decode cX11_placeOf 22 = .ok (.aconst_null, 1) := dq_1 (kX11_placeOf_0 22 rfl)
theorem dX11_placeOf_23 : decode cX11_placeOf 23 = .ok (.areturn, 1) := dq_176 (kX11_placeOf_0 23 rfl)

def bX11_standingStation_0 : List UInt8 := [42, 27, 4, 182, 0, 169, 77, 44, 198, 0, 14, 44, 180, 1, 255, 154, 0, 7, 44, 167, 0, 4, 1, 176]
theorem kX11_standingStation_0 (j : Nat) {b : UInt8} (hj : bX11_standingStation_0[j]? = some b) : AtB cX11_standingStation (0 + j) b := at_of32 (by decide +kernel) j hj
theorem dX11_standingStation_0 : decode cX11_standingStation 0 = .ok (.aload_n 0, 1) := dq_42 (kX11_standingStation_0 0 rfl)
theorem dX11_standingStation_1 : decode cX11_standingStation 1 = .ok (.iload_n 1, 1) := dq_27 (kX11_standingStation_0 1 rfl)
theorem dX11_standingStation_2 : decode cX11_standingStation 2 = .ok (.iconst 1, 1) := dq_4 (kX11_standingStation_0 2 rfl)
theorem dX11_standingStation_3 : decode cX11_standingStation 3 = .ok (.invokevirtual 169, 3) := dq_182 (kX11_standingStation_0 3 rfl) (kX11_standingStation_0 4 rfl) (kX11_standingStation_0 5 rfl) rfl
theorem dX11_standingStation_6 : decode cX11_standingStation 6 = .ok (.astore_n 2, 1) := dq_77 (kX11_standingStation_0 6 rfl)
theorem dX11_standingStation_7 : decode cX11_standingStation 7 = .ok (.aload_n 2, 1) := dq_44 (kX11_standingStation_0 7 rfl)
theorem dX11_standingStation_8 : decode cX11_standingStation 8 = .ok (.ifnull 14, 3) := dq_198 (kX11_standingStation_0 8 rfl) (kX11_standingStation_0 9 rfl) (kX11_standingStation_0 10 rfl) (by decide)
theorem dX11_standingStation_11 : decode cX11_standingStation 11 = .ok (.aload_n 2, 1) := dq_44 (kX11_standingStation_0 11 rfl)
theorem dX11_standingStation_12 : decode cX11_standingStation 12 = .ok (.getfield 511, 3) := dq_180 (kX11_standingStation_0 12 rfl) (kX11_standingStation_0 13 rfl) (kX11_standingStation_0 14 rfl) rfl
theorem dX11_standingStation_15 : decode cX11_standingStation 15 = .ok (.ifCond .ne 7, 3) := dq_154 (kX11_standingStation_0 15 rfl) (kX11_standingStation_0 16 rfl) (kX11_standingStation_0 17 rfl) (by decide)
theorem dX11_standingStation_18 : decode cX11_standingStation 18 = .ok (.aload_n 2, 1) := dq_44 (kX11_standingStation_0 18 rfl)
theorem dX11_standingStation_19 : decode cX11_standingStation 19 = .ok (.goto 4, 3) := dq_167 (kX11_standingStation_0 19 rfl) (kX11_standingStation_0 20 rfl) (kX11_standingStation_0 21 rfl) (by decide)
theorem dX11_standingStation_22 : decode cX11_standingStation 22 = .ok (.aconst_null, 1) := dq_1 (kX11_standingStation_0 22 rfl)
theorem dX11_standingStation_23 : decode cX11_standingStation 23 = .ok (.areturn, 1) := dq_176 (kX11_standingStation_0 23 rfl)

def bX11_workOf_0 : List UInt8 := [27, 155, 0, 29, 27, 42, 180, 0, 55, 162, 0, 21, 27, 42, 180, 0, 51, 190, 162, 0, 12, 42, 180, 0, 51, 27, 50, 167, 0, 4, 1, 176]
theorem kX11_workOf_0 (j : Nat) {b : UInt8} (hj : bX11_workOf_0[j]? = some b) : AtB cX11_workOf (0 + j) b := at_of32 (by decide +kernel) j hj
theorem dX11_workOf_0 : decode cX11_workOf 0 = .ok (.iload_n 1, 1) := dq_27 (kX11_workOf_0 0 rfl)
theorem dX11_workOf_1 : decode cX11_workOf 1 = .ok (.ifCond .lt 29, 3) := dq_155 (kX11_workOf_0 1 rfl) (kX11_workOf_0 2 rfl) (kX11_workOf_0 3 rfl) (by decide)
theorem dX11_workOf_4 : decode cX11_workOf 4 = .ok (.iload_n 1, 1) := dq_27 (kX11_workOf_0 4 rfl)
theorem dX11_workOf_5 : decode cX11_workOf 5 = .ok (.aload_n 0, 1) := dq_42 (kX11_workOf_0 5 rfl)
theorem dX11_workOf_6 : decode cX11_workOf 6 = .ok (.getfield 55, 3) := dq_180 (kX11_workOf_0 6 rfl) (kX11_workOf_0 7 rfl) (kX11_workOf_0 8 rfl) rfl
theorem dX11_workOf_9 : decode cX11_workOf 9 = .ok (.if_icmp .ge 21, 3) := dq_162 (kX11_workOf_0 9 rfl) (kX11_workOf_0 10 rfl) (kX11_workOf_0 11 rfl) (by decide)
theorem dX11_workOf_12 : decode cX11_workOf 12 = .ok (.iload_n 1, 1) := dq_27 (kX11_workOf_0 12 rfl)
theorem dX11_workOf_13 : decode cX11_workOf 13 = .ok (.aload_n 0, 1) := dq_42 (kX11_workOf_0 13 rfl)
theorem dX11_workOf_14 : decode cX11_workOf 14 = .ok (.getfield 51, 3) := dq_180 (kX11_workOf_0 14 rfl) (kX11_workOf_0 15 rfl) (kX11_workOf_0 16 rfl) rfl
theorem dX11_workOf_17 : decode cX11_workOf 17 = .ok (.arraylength, 1) := dq_190 (kX11_workOf_0 17 rfl)
theorem dX11_workOf_18 : decode cX11_workOf 18 = .ok (.if_icmp .ge 12, 3) := dq_162 (kX11_workOf_0 18 rfl) (kX11_workOf_0 19 rfl) (kX11_workOf_0 20 rfl) (by decide)
theorem dX11_workOf_21 : decode cX11_workOf 21 = .ok (.aload_n 0, 1) := dq_42 (kX11_workOf_0 21 rfl)
theorem dX11_workOf_22 : decode cX11_workOf 22 = .ok (.getfield 51, 3) := dq_180 (kX11_workOf_0 22 rfl) (kX11_workOf_0 23 rfl) (kX11_workOf_0 24 rfl) rfl
theorem dX11_workOf_25 : decode cX11_workOf 25 = .ok (.iload_n 1, 1) := dq_27 (kX11_workOf_0 25 rfl)
theorem dX11_workOf_26 : decode cX11_workOf 26 = .ok (.aaload, 1) := dq_50 (kX11_workOf_0 26 rfl)
theorem dX11_workOf_27 : decode cX11_workOf 27 = .ok (.goto 4, 3) := dq_167 (kX11_workOf_0 27 rfl) (kX11_workOf_0 28 rfl) (kX11_workOf_0 29 rfl) (by decide)
theorem dX11_workOf_30 : decode cX11_workOf 30 = .ok (.aconst_null, 1) := dq_1 (kX11_workOf_0 30 rfl)
theorem dX11_workOf_31 : decode cX11_workOf 31 = .ok (.areturn, 1) := dq_176 (kX11_workOf_0 31 rfl)

def bX11_shipOf_0 : List UInt8 := [27, 155, 0, 29, 27, 42, 180, 0, 64, 162, 0, 21, 27, 42, 180, 0, 60, 190, 162, 0, 12, 42, 180, 0, 60, 27, 50, 167, 0, 4, 1, 176]
theorem kX11_shipOf_0 (j : Nat) {b : UInt8} (hj : bX11_shipOf_0[j]? = some b) : AtB cX11_shipOf (0 + j) b := at_of32 (by decide +kernel) j hj
theorem dX11_shipOf_0 : decode cX11_shipOf 0 = .ok (.iload_n 1, 1) := dq_27 (kX11_shipOf_0 0 rfl)
theorem dX11_shipOf_1 : decode cX11_shipOf 1 = .ok (.ifCond .lt 29, 3) := dq_155 (kX11_shipOf_0 1 rfl) (kX11_shipOf_0 2 rfl) (kX11_shipOf_0 3 rfl) (by decide)
theorem dX11_shipOf_4 : decode cX11_shipOf 4 = .ok (.iload_n 1, 1) := dq_27 (kX11_shipOf_0 4 rfl)
theorem dX11_shipOf_5 : decode cX11_shipOf 5 = .ok (.aload_n 0, 1) := dq_42 (kX11_shipOf_0 5 rfl)
theorem dX11_shipOf_6 : decode cX11_shipOf 6 = .ok (.getfield 64, 3) := dq_180 (kX11_shipOf_0 6 rfl) (kX11_shipOf_0 7 rfl) (kX11_shipOf_0 8 rfl) rfl
theorem dX11_shipOf_9 : decode cX11_shipOf 9 = .ok (.if_icmp .ge 21, 3) := dq_162 (kX11_shipOf_0 9 rfl) (kX11_shipOf_0 10 rfl) (kX11_shipOf_0 11 rfl) (by decide)
theorem dX11_shipOf_12 : decode cX11_shipOf 12 = .ok (.iload_n 1, 1) := dq_27 (kX11_shipOf_0 12 rfl)
theorem dX11_shipOf_13 : decode cX11_shipOf 13 = .ok (.aload_n 0, 1) := dq_42 (kX11_shipOf_0 13 rfl)
theorem dX11_shipOf_14 : decode cX11_shipOf 14 = .ok (.getfield 60, 3) := dq_180 (kX11_shipOf_0 14 rfl) (kX11_shipOf_0 15 rfl) (kX11_shipOf_0 16 rfl) rfl
theorem dX11_shipOf_17 : decode cX11_shipOf 17 = .ok (.arraylength, 1) := dq_190 (kX11_shipOf_0 17 rfl)
theorem dX11_shipOf_18 : decode cX11_shipOf 18 = .ok (.if_icmp .ge 12, 3) := dq_162 (kX11_shipOf_0 18 rfl) (kX11_shipOf_0 19 rfl) (kX11_shipOf_0 20 rfl) (by decide)
theorem dX11_shipOf_21 : decode cX11_shipOf 21 = .ok (.aload_n 0, 1) := dq_42 (kX11_shipOf_0 21 rfl)
theorem dX11_shipOf_22 : decode cX11_shipOf 22 = .ok (.getfield 60, 3) := dq_180 (kX11_shipOf_0 22 rfl) (kX11_shipOf_0 23 rfl) (kX11_shipOf_0 24 rfl) rfl
theorem dX11_shipOf_25 : decode cX11_shipOf 25 = .ok (.iload_n 1, 1) := dq_27 (kX11_shipOf_0 25 rfl)
theorem dX11_shipOf_26 : decode cX11_shipOf 26 = .ok (.aaload, 1) := dq_50 (kX11_shipOf_0 26 rfl)
theorem dX11_shipOf_27 : decode cX11_shipOf 27 = .ok (.goto 4, 3) := dq_167 (kX11_shipOf_0 27 rfl) (kX11_shipOf_0 28 rfl) (kX11_shipOf_0 29 rfl) (by decide)
theorem dX11_shipOf_30 : decode cX11_shipOf 30 = .ok (.aconst_null, 1) := dq_1 (kX11_shipOf_0 30 rfl)
theorem dX11_shipOf_31 : decode cX11_shipOf 31 = .ok (.areturn, 1) := dq_176 (kX11_shipOf_0 31 rfl)

def bX11_tally_0 : List UInt8 := [27, 155, 0, 23, 27, 42, 180, 0, 98, 190, 162, 0, 14, 42, 180, 0, 98, 27, 92, 47, 28, 133, 97, 80, 177]
theorem kX11_tally_0 (j : Nat) {b : UInt8} (hj : bX11_tally_0[j]? = some b) : AtB cX11_tally (0 + j) b := at_of32 (by decide +kernel) j hj
theorem dX11_tally_0 : decode cX11_tally 0 = .ok (.iload_n 1, 1) := dq_27 (kX11_tally_0 0 rfl)
theorem dX11_tally_1 : decode cX11_tally 1 = .ok (.ifCond .lt 23, 3) := dq_155 (kX11_tally_0 1 rfl) (kX11_tally_0 2 rfl) (kX11_tally_0 3 rfl) (by decide)
theorem dX11_tally_4 : decode cX11_tally 4 = .ok (.iload_n 1, 1) := dq_27 (kX11_tally_0 4 rfl)
theorem dX11_tally_5 : decode cX11_tally 5 = .ok (.aload_n 0, 1) := dq_42 (kX11_tally_0 5 rfl)
theorem dX11_tally_6 : decode cX11_tally 6 = .ok (.getfield 98, 3) := dq_180 (kX11_tally_0 6 rfl) (kX11_tally_0 7 rfl) (kX11_tally_0 8 rfl) rfl
theorem dX11_tally_9 : decode cX11_tally 9 = .ok (.arraylength, 1) := dq_190 (kX11_tally_0 9 rfl)
theorem dX11_tally_10 : decode cX11_tally 10 = .ok (.if_icmp .ge 14, 3) := dq_162 (kX11_tally_0 10 rfl) (kX11_tally_0 11 rfl) (kX11_tally_0 12 rfl) (by decide)
theorem dX11_tally_13 : decode cX11_tally 13 = .ok (.aload_n 0, 1) := dq_42 (kX11_tally_0 13 rfl)
theorem dX11_tally_14 : decode cX11_tally 14 = .ok (.getfield 98, 3) := dq_180 (kX11_tally_0 14 rfl) (kX11_tally_0 15 rfl) (kX11_tally_0 16 rfl) rfl
theorem dX11_tally_17 : decode cX11_tally 17 = .ok (.iload_n 1, 1) := dq_27 (kX11_tally_0 17 rfl)
theorem dX11_tally_18 : decode cX11_tally 18 = .ok (.dup2, 1) := dq_92 (kX11_tally_0 18 rfl)
theorem dX11_tally_19 : decode cX11_tally 19 = .ok (.laload, 1) := dq_47 (kX11_tally_0 19 rfl)
theorem dX11_tally_20 : decode cX11_tally 20 = .ok (.iload_n 2, 1) := dq_28 (kX11_tally_0 20 rfl)
theorem dX11_tally_21 : decode cX11_tally 21 = .ok (.i2l, 1) := dq_133 (kX11_tally_0 21 rfl)
theorem dX11_tally_22 : decode cX11_tally 22 = .ok (.ladd, 1) := dq_97 (kX11_tally_0 22 rfl)
theorem dX11_tally_23 : decode cX11_tally 23 = .ok (.lastore, 1) := dq_80 (kX11_tally_0 23 rfl)
theorem dX11_tally_24 : decode cX11_tally 24 = .ok (.return_, 1) := dq_177 (kX11_tally_0 24 rfl)
