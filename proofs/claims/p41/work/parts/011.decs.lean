def bX12_swaps_0 : List UInt8 := [42, 180, 1, 84, 27, 46, 62, 42, 180, 1, 84, 27, 42, 180, 1, 84, 28, 46, 79, 42, 180, 1, 84, 28, 29, 79, 177]
theorem kX12_swaps_0 (j : Nat) {b : UInt8} (hj : bX12_swaps_0[j]? = some b) : AtB cX12_swaps (0 + j) b := at_of32 (by decide +kernel) j hj
theorem dX12_swaps_0 : decode cX12_swaps 0 = .ok (.aload_n 0, 1) := dq_42 (kX12_swaps_0 0 rfl)
theorem dX12_swaps_1 : decode cX12_swaps 1 = .ok (.getfield 340, 3) := dq_180 (kX12_swaps_0 1 rfl) (kX12_swaps_0 2 rfl) (kX12_swaps_0 3 rfl) rfl
theorem dX12_swaps_4 : decode cX12_swaps 4 = .ok (.iload_n 1, 1) := dq_27 (kX12_swaps_0 4 rfl)
theorem dX12_swaps_5 : decode cX12_swaps 5 = .ok (.iaload, 1) := dq_46 (kX12_swaps_0 5 rfl)
theorem dX12_swaps_6 : decode cX12_swaps 6 = .ok (.istore_n 3, 1) := dq_62 (kX12_swaps_0 6 rfl)
theorem dX12_swaps_7 : decode cX12_swaps 7 = .ok (.aload_n 0, 1) := dq_42 (kX12_swaps_0 7 rfl)
theorem dX12_swaps_8 : decode cX12_swaps 8 = .ok (.getfield 340, 3) := dq_180 (kX12_swaps_0 8 rfl) (kX12_swaps_0 9 rfl) (kX12_swaps_0 10 rfl) rfl
theorem dX12_swaps_11 : decode cX12_swaps 11 = .ok (.iload_n 1, 1) := dq_27 (kX12_swaps_0 11 rfl)
theorem dX12_swaps_12 : decode cX12_swaps 12 = .ok (.aload_n 0, 1) := dq_42 (kX12_swaps_0 12 rfl)
theorem dX12_swaps_13 : decode cX12_swaps 13 = .ok (.getfield 340, 3) := dq_180 (kX12_swaps_0 13 rfl) (kX12_swaps_0 14 rfl) (kX12_swaps_0 15 rfl) rfl
theorem dX12_swaps_16 : decode cX12_swaps 16 = .ok (.iload_n 2, 1) := dq_28 (kX12_swaps_0 16 rfl)
theorem dX12_swaps_17 : decode cX12_swaps 17 = .ok (.iaload, 1) := dq_46 (kX12_swaps_0 17 rfl)
theorem dX12_swaps_18 : decode cX12_swaps 18 = .ok (.iastore, 1) := dq_79 (kX12_swaps_0 18 rfl)
theorem dX12_swaps_19 : decode cX12_swaps 19 = .ok (.aload_n 0, 1) := dq_42 (kX12_swaps_0 19 rfl)
theorem dX12_swaps_20 : decode cX12_swaps 20 = .ok (.getfield 340, 3) := dq_180 (kX12_swaps_0 20 rfl) (kX12_swaps_0 21 rfl) (kX12_swaps_0 22 rfl) rfl
theorem dX12_swaps_23 : decode cX12_swaps 23 = .ok (.iload_n 2, 1) := dq_28 (kX12_swaps_0 23 rfl)
theorem dX12_swaps_24 : decode cX12_swaps 24 = .ok (.iload_n 3, 1) := dq_29 (kX12_swaps_0 24 rfl)
theorem dX12_swaps_25 : decode cX12_swaps 25 = .ok (.iastore, 1) := dq_79 (kX12_swaps_0 25 rfl)
theorem dX12_swaps_26 : decode cX12_swaps 26 = .ok (.return_, 1) := dq_177 (kX12_swaps_0 26 rfl)

def bX12_plans_0 : List UInt8 := [42, 2, 181, 2, 233, 3, 54, 4, 3, 54, 5, 21, 5, 42, 180, 2, 224, 162, 0, 30, 42, 180, 1, 84, 21, 5, 21, 5, 79, 21, 4, 42]
theorem kX12_plans_0 (j : Nat) {b : UInt8} (hj : bX12_plans_0[j]? = some b) : AtB cX12_plans (0 + j) b := at_of32 (by decide +kernel) j hj
def bX12_plans_1 : List UInt8 := [180, 1, 75, 21, 5, 46, 96, 54, 4, 132, 5, 1, 167, 255, 223, 42, 180, 2, 224, 158, 0, 18, 21, 4, 42, 180, 0, 211, 27, 46, 163, 0]
theorem kX12_plans_1 (j : Nat) {b : UInt8} (hj : bX12_plans_1[j]? = some b) : AtB cX12_plans (32 + j) b := at_of32 (by decide +kernel) j hj
def bX12_plans_2 : List UInt8 := [7, 4, 167, 0, 4, 3, 54, 5, 21, 5, 153, 0, 87, 42, 29, 42, 180, 0, 244, 28, 46, 96, 182, 2, 236, 54, 6, 21, 6, 2, 159, 0]
theorem kX12_plans_2 (j : Nat) {b : UInt8} (hj : bX12_plans_2[j]? = some b) : AtB cX12_plans (64 + j) b := at_of32 (by decide +kernel) j hj
def bX12_plans_3 : List UInt8 := [58, 42, 180, 2, 233, 2, 159, 0, 12, 21, 6, 42, 180, 2, 233, 162, 0, 41, 42, 21, 6, 181, 2, 233, 3, 54, 7, 21, 7, 42, 180, 2]
theorem kX12_plans_3 (j : Nat) {b : UInt8} (hj : bX12_plans_3[j]? = some b) : AtB cX12_plans (96 + j) b := at_of32 (by decide +kernel) j hj
def bX12_plans_4 : List UInt8 := [224, 162, 0, 23, 42, 180, 1, 87, 21, 7, 42, 180, 1, 84, 21, 7, 46, 79, 132, 7, 1, 167, 255, 230, 42, 182, 2, 239, 54, 5, 167, 255]
theorem kX12_plans_4 (j : Nat) {b : UInt8} (hj : bX12_plans_4[j]? = some b) : AtB cX12_plans (128 + j) b := at_of32 (by decide +kernel) j hj
def bX12_plans_5 : List UInt8 := [170, 177]
theorem kX12_plans_5 (j : Nat) {b : UInt8} (hj : bX12_plans_5[j]? = some b) : AtB cX12_plans (160 + j) b := at_of32 (by decide +kernel) j hj
theorem dX12_plans_0 : decode cX12_plans 0 = .ok (.aload_n 0, 1) := dq_42 (kX12_plans_0 0 rfl)
theorem dX12_plans_1 : decode cX12_plans 1 = .ok (.iconst (-1), 1) := dq_2 (kX12_plans_0 1 rfl)
theorem dX12_plans_2 : decode cX12_plans 2 = .ok (.putfield 745, 3) := dq_181 (kX12_plans_0 2 rfl) (kX12_plans_0 3 rfl) (kX12_plans_0 4 rfl) rfl
theorem dX12_plans_5 : decode cX12_plans 5 = .ok (.iconst 0, 1) := dq_3 (kX12_plans_0 5 rfl)
theorem dX12_plans_6 : decode cX12_plans 6 = .ok (.istore 4, 2) := dq_54 (kX12_plans_0 6 rfl) (kX12_plans_0 7 rfl) rfl
theorem dX12_plans_8 : decode cX12_plans 8 = .ok (.iconst 0, 1) := dq_3 (kX12_plans_0 8 rfl)
theorem dX12_plans_9 : decode cX12_plans 9 = .ok (.istore 5, 2) := dq_54 (kX12_plans_0 9 rfl) (kX12_plans_0 10 rfl) rfl
theorem dX12_plans_11 : decode cX12_plans 11 = .ok (.iload 5, 2) := dq_21 (kX12_plans_0 11 rfl) (kX12_plans_0 12 rfl) rfl
theorem dX12_plans_13 : decode cX12_plans 13 = .ok (.aload_n 0, 1) := dq_42 (kX12_plans_0 13 rfl)
theorem dX12_plans_14 : decode cX12_plans 14 = .ok (.getfield 736, 3) := dq_180 (kX12_plans_0 14 rfl) (kX12_plans_0 15 rfl) (kX12_plans_0 16 rfl) rfl
theorem dX12_plans_17 : decode cX12_plans 17 = .ok (.if_icmp .ge 30, 3) := dq_162 (kX12_plans_0 17 rfl) (kX12_plans_0 18 rfl) (kX12_plans_0 19 rfl) (by decide)
theorem dX12_plans_20 : decode cX12_plans 20 = .ok (.aload_n 0, 1) := dq_42 (kX12_plans_0 20 rfl)
theorem dX12_plans_21 : decode cX12_plans 21 = .ok (.getfield 340, 3) := dq_180 (kX12_plans_0 21 rfl) (kX12_plans_0 22 rfl) (kX12_plans_0 23 rfl) rfl
theorem dX12_plans_24 : decode cX12_plans 24 = .ok (.iload 5, 2) := dq_21 (kX12_plans_0 24 rfl) (kX12_plans_0 25 rfl) rfl
theorem dX12_plans_26 : decode cX12_plans 26 = .ok (.iload 5, 2) := dq_21 (kX12_plans_0 26 rfl) (kX12_plans_0 27 rfl) rfl
theorem dX12_plans_28 : decode cX12_plans 28 = .ok (.iastore, 1) := dq_79 (kX12_plans_0 28 rfl)
theorem dX12_plans_29 : decode cX12_plans 29 = .ok (.iload 4, 2) := dq_21 (kX12_plans_0 29 rfl) (kX12_plans_0 30 rfl) rfl
theorem dX12_plans_31 : decode cX12_plans 31 = .ok (.aload_n 0, 1) := dq_42 (kX12_plans_0 31 rfl)
theorem dX12_plans_32 : decode cX12_plans 32 = .ok (.getfield 331, 3) := dq_180 (kX12_plans_1 0 rfl) (kX12_plans_1 1 rfl) (kX12_plans_1 2 rfl) rfl
theorem dX12_plans_35 : decode cX12_plans 35 = .ok (.iload 5, 2) := dq_21 (kX12_plans_1 3 rfl) (kX12_plans_1 4 rfl) rfl
theorem dX12_plans_37 : decode cX12_plans 37 = .ok (.iaload, 1) := dq_46 (kX12_plans_1 5 rfl)
theorem dX12_plans_38 : decode cX12_plans 38 = .ok (.iadd, 1) := dq_96 (kX12_plans_1 6 rfl)
theorem dX12_plans_39 : decode cX12_plans 39 = .ok (.istore 4, 2) := dq_54 (kX12_plans_1 7 rfl) (kX12_plans_1 8 rfl) rfl
theorem dX12_plans_41 : decode cX12_plans 41 = .ok (.iinc 5 1, 3) := dq_132 (kX12_plans_1 9 rfl) (kX12_plans_1 10 rfl) (kX12_plans_1 11 rfl) rfl (by decide)
theorem dX12_plans_44 : decode cX12_plans 44 = .ok (.goto (-33), 3) := dq_167 (kX12_plans_1 12 rfl) (kX12_plans_1 13 rfl) (kX12_plans_1 14 rfl) (by decide)
theorem dX12_plans_47 : decode cX12_plans 47 = .ok (.aload_n 0, 1) := dq_42 (kX12_plans_1 15 rfl)
theorem dX12_plans_48 : decode cX12_plans 48 = .ok (.getfield 736, 3) := dq_180 (kX12_plans_1 16 rfl) (kX12_plans_1 17 rfl) (kX12_plans_1 18 rfl) rfl
theorem dX12_plans_51 : decode cX12_plans 51 = .ok (.ifCond .le 18, 3) := dq_158 (kX12_plans_1 19 rfl) (kX12_plans_1 20 rfl) (kX12_plans_1 21 rfl) (by decide)
theorem dX12_plans_54 : decode cX12_plans 54 = .ok (.iload 4, 2) := dq_21 (kX12_plans_1 22 rfl) (kX12_plans_1 23 rfl) rfl
theorem dX12_plans_56 : decode cX12_plans 56 = .ok (.aload_n 0, 1) := dq_42 (kX12_plans_1 24 rfl)
theorem dX12_plans_57 : decode cX12_plans 57 = .ok (.getfield 211, 3) := dq_180 (kX12_plans_1 25 rfl) (kX12_plans_1 26 rfl) (kX12_plans_1 27 rfl) rfl
theorem dX12_plans_60 : decode cX12_plans 60 = .ok (.iload_n 1, 1) := dq_27 (kX12_plans_1 28 rfl)
theorem dX12_plans_61 : decode cX12_plans 61 = .ok (.iaload, 1) := dq_46 (kX12_plans_1 29 rfl)
theorem dX12_plans_62 : decode cX12_plans 62 = .ok (.if_icmp .gt 7, 3) := dq_163 (kX12_plans_1 30 rfl) (kX12_plans_1 31 rfl) (kX12_plans_2 0 rfl) (by decide)
theorem dX12_plans_65 : decode cX12_plans 65 = .ok (.iconst 1, 1) := dq_4 (kX12_plans_2 1 rfl)
theorem dX12_plans_66 : decode cX12_plans 66 = .ok (.goto 4, 3) := dq_167 (kX12_plans_2 2 rfl) (kX12_plans_2 3 rfl) (kX12_plans_2 4 rfl) (by decide)
theorem dX12_plans_69 : decode cX12_plans 69 = .ok (.iconst 0, 1) := dq_3 (kX12_plans_2 5 rfl)
theorem dX12_plans_70 : decode cX12_plans 70 = .ok (.istore 5, 2) := dq_54 (kX12_plans_2 6 rfl) (kX12_plans_2 7 rfl) rfl
theorem dX12_plans_72 : decode cX12_plans 72 = .ok (.iload 5, 2) := dq_21 (kX12_plans_2 8 rfl) (kX12_plans_2 9 rfl) rfl
theorem dX12_plans_74 : decode cX12_plans 74 = .ok (.ifCond .eq 87, 3) := dq_153 (kX12_plans_2 10 rfl) (kX12_plans_2 11 rfl) (kX12_plans_2 12 rfl) (by decide)
theorem dX12_plans_77 : decode cX12_plans 77 = .ok (.aload_n 0, 1) := dq_42 (kX12_plans_2 13 rfl)
theorem dX12_plans_78 : decode cX12_plans 78 = .ok (.iload_n 3, 1) := dq_29 (kX12_plans_2 14 rfl)
theorem dX12_plans_79 : decode cX12_plans 79 = .ok (.aload_n 0, 1) := dq_42 (kX12_plans_2 15 rfl)
theorem dX12_plans_80 : decode cX12_plans 80 = .ok (.getfield 244, 3) := dq_180 (kX12_plans_2 16 rfl) (kX12_plans_2 17 rfl) (kX12_plans_2 18 rfl) rfl
theorem dX12_plans_83 : decode cX12_plans 83 = .ok (.iload_n 2, 1) := dq_28 (kX12_plans_2 19 rfl)
theorem dX12_plans_84 : decode cX12_plans 84 = .ok (.iaload, 1) := dq_46 (kX12_plans_2 20 rfl)
theorem dX12_plans_85 : decode cX12_plans 85 = .ok (.iadd, 1) := dq_96 (kX12_plans_2 21 rfl)
theorem dX12_plans_86 : decode cX12_plans 86 = .ok (.invokevirtual 748, 3) := dq_182 (kX12_plans_2 22 rfl) (kX12_plans_2 23 rfl) (kX12_plans_2 24 rfl) rfl
theorem dX12_plans_89 : decode cX12_plans 89 = .ok (.istore 6, 2) := dq_54 (kX12_plans_2 25 rfl) (kX12_plans_2 26 rfl) rfl
theorem dX12_plans_91 : decode cX12_plans 91 = .ok (.iload 6, 2) := dq_21 (kX12_plans_2 27 rfl) (kX12_plans_2 28 rfl) rfl
theorem dX12_plans_93 : decode cX12_plans 93 = .ok (.iconst (-1), 1) := dq_2 (kX12_plans_2 29 rfl)
theorem dX12_plans_94 : decode cX12_plans 94 = .ok (.if_icmp .eq 58, 3) := dq_159 (kX12_plans_2 30 rfl) (kX12_plans_2 31 rfl) (kX12_plans_3 0 rfl) (by decide)
theorem dX12_plans_97 : decode cX12_plans 97 = .ok (.aload_n 0, 1) := dq_42 (kX12_plans_3 1 rfl)
theorem dX12_plans_98 : decode cX12_plans 98 = .ok (.getfield 745, 3) := dq_180 (kX12_plans_3 2 rfl) (kX12_plans_3 3 rfl) (kX12_plans_3 4 rfl) rfl
theorem dX12_plans_101 : decode cX12_plans 101 = .ok (.iconst (-1), 1) := dq_2 (kX12_plans_3 5 rfl)
theorem dX12_plans_102 : decode cX12_plans 102 = .ok (.if_icmp .eq 12, 3) := dq_159 (kX12_plans_3 6 rfl) (kX12_plans_3 7 rfl) (kX12_plans_3 8 rfl) (by decide)
theorem dX12_plans_105 : decode cX12_plans 105 = .ok (.iload 6, 2) := dq_21 (kX12_plans_3 9 rfl) (kX12_plans_3 10 rfl) rfl
theorem dX12_plans_107 : decode cX12_plans 107 = .ok (.aload_n 0, 1) := dq_42 (kX12_plans_3 11 rfl)
theorem dX12_plans_108 : decode cX12_plans 108 = .ok (.getfield 745, 3) := dq_180 (kX12_plans_3 12 rfl) (kX12_plans_3 13 rfl) (kX12_plans_3 14 rfl) rfl
theorem dX12_plans_111 : decode cX12_plans 111 = .ok (.if_icmp .ge 41, 3) := dq_162 (kX12_plans_3 15 rfl) (kX12_plans_3 16 rfl) (kX12_plans_3 17 rfl) (by decide)
theorem dX12_plans_114 : decode cX12_plans 114 = .ok (.aload_n 0, 1) := dq_42 (kX12_plans_3 18 rfl)
theorem dX12_plans_115 : decode cX12_plans 115 = .ok (.iload 6, 2) := dq_21 (kX12_plans_3 19 rfl) (kX12_plans_3 20 rfl) rfl
theorem dX12_plans_117 : decode cX12_plans 117 = .ok (.putfield 745, 3) := dq_181 (kX12_plans_3 21 rfl) (kX12_plans_3 22 rfl) (kX12_plans_3 23 rfl) rfl
theorem dX12_plans_120 : decode cX12_plans 120 = .ok (.iconst 0, 1) := dq_3 (kX12_plans_3 24 rfl)
theorem dX12_plans_121 : decode cX12_plans 121 = .ok (.istore 7, 2) := dq_54 (kX12_plans_3 25 rfl) (kX12_plans_3 26 rfl) rfl
theorem dX12_plans_123 : decode cX12_plans 123 = .ok (.iload 7, 2) := dq_21 (kX12_plans_3 27 rfl) (kX12_plans_3 28 rfl) rfl
theorem dX12_plans_125 : decode cX12_plans 125 = .ok (.aload_n 0, 1) := dq_42 (kX12_plans_3 29 rfl)
theorem dX12_plans_126 : decode cX12_plans 126 = .ok (.getfield 736, 3) := dq_180 (kX12_plans_3 30 rfl) (kX12_plans_3 31 rfl) (kX12_plans_4 0 rfl) rfl
theorem dX12_plans_129 : decode cX12_plans 129 = .ok (.if_icmp .ge 23, 3) := dq_162 (kX12_plans_4 1 rfl) (kX12_plans_4 2 rfl) (kX12_plans_4 3 rfl) (by decide)
theorem dX12_plans_132 : decode cX12_plans 132 = .ok (.aload_n 0, 1) := dq_42 (kX12_plans_4 4 rfl)
theorem dX12_plans_133 : decode cX12_plans 133 = .ok (.getfield 343, 3) := dq_180 (kX12_plans_4 5 rfl) (kX12_plans_4 6 rfl) (kX12_plans_4 7 rfl) rfl
theorem dX12_plans_136 : decode cX12_plans 136 = .ok (.iload 7, 2) := dq_21 (kX12_plans_4 8 rfl) (kX12_plans_4 9 rfl) rfl
theorem dX12_plans_138 : decode cX12_plans 138 = .ok (.aload_n 0, 1) := dq_42 (kX12_plans_4 10 rfl)
theorem dX12_plans_139 : decode cX12_plans 139 = .ok (.getfield 340, 3) := dq_180 (kX12_plans_4 11 rfl) (kX12_plans_4 12 rfl) (kX12_plans_4 13 rfl) rfl
theorem dX12_plans_142 : decode cX12_plans 142 = .ok (.iload 7, 2) := dq_21 (kX12_plans_4 14 rfl) (kX12_plans_4 15 rfl) rfl
theorem dX12_plans_144 : decode cX12_plans 144 = .ok (.iaload, 1) := dq_46 (kX12_plans_4 16 rfl)
theorem dX12_plans_145 : decode cX12_plans 145 = .ok (.iastore, 1) := dq_79 (kX12_plans_4 17 rfl)
theorem dX12_plans_146 : decode cX12_plans 146 = .ok (.iinc 7 1, 3) := dq_132 (kX12_plans_4 18 rfl) (kX12_plans_4 19 rfl) (kX12_plans_4 20 rfl) rfl (by decide)
theorem dX12_plans_149 : decode cX12_plans 149 = .ok (.goto (-26), 3) := dq_167 (kX12_plans_4 21 rfl) (kX12_plans_4 22 rfl) (kX12_plans_4 23 rfl) (by decide)
theorem dX12_plans_152 : decode cX12_plans 152 = .ok (.aload_n 0, 1) := dq_42 (kX12_plans_4 24 rfl)
theorem dX12_plans_153 : decode cX12_plans 153 = .ok (.invokevirtual 751, 3) := dq_182 (kX12_plans_4 25 rfl) (kX12_plans_4 26 rfl) (kX12_plans_4 27 rfl) rfl
theorem dX12_plans_156 : decode cX12_plans 156 = .ok (.istore 5, 2) := dq_54 (kX12_plans_4 28 rfl) (kX12_plans_4 29 rfl) rfl
theorem dX12_plans_158 : decode cX12_plans 158 = .ok (.goto (-86), 3) := dq_167 (kX12_plans_4 30 rfl) (kX12_plans_4 31 rfl) (kX12_plans_5 0 rfl) (by decide)
theorem dX12_plans_161 : decode cX12_plans 161 = .ok (.return_, 1) := dq_177 (kX12_plans_5 1 rfl)

def bX12_plan_0 : List UInt8 := [42, 27, 182, 2, 106, 153, 0, 21, 28, 184, 2, 103, 153, 0, 14, 29, 3, 17, 1, 103, 184, 1, 115, 154, 0, 5, 2, 172, 42, 27, 28, 29]
theorem kX12_plan_0 (j : Nat) {b : UInt8} (hj : bX12_plan_0[j]? = some b) : AtB cX12_plan (0 + j) b := at_of32 (by decide +kernel) j hj
def bX12_plan_1 : List UInt8 := [182, 2, 242, 42, 180, 2, 233, 172]
theorem kX12_plan_1 (j : Nat) {b : UInt8} (hj : bX12_plan_1[j]? = some b) : AtB cX12_plan (32 + j) b := at_of32 (by decide +kernel) j hj
theorem dX12_plan_0 : decode cX12_plan 0 = .ok (.aload_n 0, 1) := dq_42 (kX12_plan_0 0 rfl)
theorem dX12_plan_1 : decode cX12_plan 1 = .ok (.iload_n 1, 1) := dq_27 (kX12_plan_0 1 rfl)
theorem dX12_plan_2 : decode cX12_plan 2 = .ok (.invokevirtual 618, 3) := dq_182 (kX12_plan_0 2 rfl) (kX12_plan_0 3 rfl) (kX12_plan_0 4 rfl) rfl
theorem dX12_plan_5 : decode cX12_plan 5 = .ok (.ifCond .eq 21, 3) := dq_153 (kX12_plan_0 5 rfl) (kX12_plan_0 6 rfl) (kX12_plan_0 7 rfl) (by decide)
theorem dX12_plan_8 : decode cX12_plan 8 = .ok (.iload_n 2, 1) := dq_28 (kX12_plan_0 8 rfl)
theorem dX12_plan_9 : decode cX12_plan 9 = .ok (.invokestatic 615, 3) := dq_184 (kX12_plan_0 9 rfl) (kX12_plan_0 10 rfl) (kX12_plan_0 11 rfl) rfl
theorem dX12_plan_12 : decode cX12_plan 12 = .ok (.ifCond .eq 14, 3) := dq_153 (kX12_plan_0 12 rfl) (kX12_plan_0 13 rfl) (kX12_plan_0 14 rfl) (by decide)
theorem dX12_plan_15 : decode cX12_plan 15 = .ok (.iload_n 3, 1) := dq_29 (kX12_plan_0 15 rfl)
theorem dX12_plan_16 : decode cX12_plan 16 = .ok (.iconst 0, 1) := dq_3 (kX12_plan_0 16 rfl)
theorem dX12_plan_17 : decode cX12_plan 17 = .ok (.sipush 359, 3) := dq_17 (kX12_plan_0 17 rfl) (kX12_plan_0 18 rfl) (kX12_plan_0 19 rfl) (by decide)
theorem dX12_plan_20 : decode cX12_plan 20 = .ok (.invokestatic 371, 3) := dq_184 (kX12_plan_0 20 rfl) (kX12_plan_0 21 rfl) (kX12_plan_0 22 rfl) rfl
theorem dX12_plan_23 : decode cX12_plan 23 = .ok (.ifCond .ne 5, 3) := dq_154 (kX12_plan_0 23 rfl) (kX12_plan_0 24 rfl) (kX12_plan_0 25 rfl) (by decide)
theorem dX12_plan_26 : decode cX12_plan 26 = .ok (.iconst (-1), 1) := dq_2 (kX12_plan_0 26 rfl)
theorem dX12_plan_27 : decode cX12_plan 27 = .ok (.ireturn, 1) := dq_172 (kX12_plan_0 27 rfl)
theorem dX12_plan_28 : decode cX12_plan 28 = .ok (.aload_n 0, 1) := dq_42 (kX12_plan_0 28 rfl)
theorem dX12_plan_29 : decode cX12_plan 29 = .ok (.iload_n 1, 1) := dq_27 (kX12_plan_0 29 rfl)
theorem dX12_plan_30 : decode cX12_plan 30 = .ok (.iload_n 2, 1) := dq_28 (kX12_plan_0 30 rfl)
theorem dX12_plan_31 : decode cX12_plan 31 = .ok (.iload_n 3, 1) := dq_29 (kX12_plan_0 31 rfl)
theorem dX12_plan_32 : decode cX12_plan 32 = .ok (.invokevirtual 754, 3) := dq_182 (kX12_plan_1 0 rfl) (kX12_plan_1 1 rfl) (kX12_plan_1 2 rfl) rfl
theorem dX12_plan_35 : decode cX12_plan 35 = .ok (.aload_n 0, 1) := dq_42 (kX12_plan_1 3 rfl)
theorem dX12_plan_36 : decode cX12_plan 36 = .ok (.getfield 745, 3) := dq_180 (kX12_plan_1 4 rfl) (kX12_plan_1 5 rfl) (kX12_plan_1 6 rfl) rfl
theorem dX12_plan_39 : decode cX12_plan 39 = .ok (.ireturn, 1) := dq_172 (kX12_plan_1 7 rfl)

def bX12_planned_0 : List UInt8 := [42, 27, 28, 29, 182, 2, 246, 2, 159, 0, 17, 21, 4, 155, 0, 12, 21, 4, 42, 180, 2, 224, 161, 0, 5, 2, 172, 42, 180, 1, 87, 21]
theorem kX12_planned_0 (j : Nat) {b : UInt8} (hj : bX12_planned_0[j]? = some b) : AtB cX12_planned (0 + j) b := at_of32 (by decide +kernel) j hj
def bX12_planned_1 : List UInt8 := [4, 46, 172]
theorem kX12_planned_1 (j : Nat) {b : UInt8} (hj : bX12_planned_1[j]? = some b) : AtB cX12_planned (32 + j) b := at_of32 (by decide +kernel) j hj
theorem dX12_planned_0 : decode cX12_planned 0 = .ok (.aload_n 0, 1) := dq_42 (kX12_planned_0 0 rfl)
theorem dX12_planned_1 : decode cX12_planned 1 = .ok (.iload_n 1, 1) := dq_27 (kX12_planned_0 1 rfl)
theorem dX12_planned_2 : decode cX12_planned 2 = .ok (.iload_n 2, 1) := dq_28 (kX12_planned_0 2 rfl)
theorem dX12_planned_3 : decode cX12_planned 3 = .ok (.iload_n 3, 1) := dq_29 (kX12_planned_0 3 rfl)
theorem dX12_planned_4 : decode cX12_planned 4 = .ok (.invokevirtual 758, 3) := dq_182 (kX12_planned_0 4 rfl) (kX12_planned_0 5 rfl) (kX12_planned_0 6 rfl) rfl
theorem dX12_planned_7 : decode cX12_planned 7 = .ok (.iconst (-1), 1) := dq_2 (kX12_planned_0 7 rfl)
theorem dX12_planned_8 : decode cX12_planned 8 = .ok (.if_icmp .eq 17, 3) := dq_159 (kX12_planned_0 8 rfl) (kX12_planned_0 9 rfl) (kX12_planned_0 10 rfl) (by decide)
theorem dX12_planned_11 : decode cX12_planned 11 = .ok (.iload 4, 2) := dq_21 (kX12_planned_0 11 rfl) (kX12_planned_0 12 rfl) rfl
theorem dX12_planned_13 : decode cX12_planned 13 = .ok (.ifCond .lt 12, 3) := dq_155 (kX12_planned_0 13 rfl) (kX12_planned_0 14 rfl) (kX12_planned_0 15 rfl) (by decide)
theorem dX12_planned_16 : decode cX12_planned 16 = .ok (.iload 4, 2) := dq_21 (kX12_planned_0 16 rfl) (kX12_planned_0 17 rfl) rfl
theorem dX12_planned_18 : decode cX12_planned 18 = .ok (.aload_n 0, 1) := dq_42 (kX12_planned_0 18 rfl)
theorem dX12_planned_19 : decode cX12_planned 19 = .ok (.getfield 736, 3) := dq_180 (kX12_planned_0 19 rfl) (kX12_planned_0 20 rfl) (kX12_planned_0 21 rfl) rfl
theorem dX12_planned_22 : decode cX12_planned 22 = .ok (.if_icmp .lt 5, 3) := dq_161 (kX12_planned_0 22 rfl) (kX12_planned_0 23 rfl) (kX12_planned_0 24 rfl) (by decide)
theorem dX12_planned_25 : decode cX12_planned 25 = .ok (.iconst (-1), 1) := dq_2 (kX12_planned_0 25 rfl)
theorem dX12_planned_26 : decode cX12_planned 26 = .ok (.ireturn, 1) := dq_172 (kX12_planned_0 26 rfl)
theorem dX12_planned_27 : decode cX12_planned 27 = .ok (.aload_n 0, 1) := dq_42 (kX12_planned_0 27 rfl)
theorem dX12_planned_28 : decode cX12_planned 28 = .ok (.getfield 343, 3) := dq_180 (kX12_planned_0 28 rfl) (kX12_planned_0 29 rfl) (kX12_planned_0 30 rfl) rfl
theorem dX12_planned_31 : decode cX12_planned 31 = .ok (.iload 4, 2) := dq_21 (kX12_planned_0 31 rfl) (kX12_planned_1 0 rfl) rfl
theorem dX12_planned_33 : decode cX12_planned 33 = .ok (.iaload, 1) := dq_46 (kX12_planned_1 1 rfl)
theorem dX12_planned_34 : decode cX12_planned 34 = .ok (.ireturn, 1) := dq_172 (kX12_planned_1 2 rfl)

def bX12_report_0 : List UInt8 := [42, 27, 182, 1, 147, 153, 0, 38, 28, 3, 42, 180, 1, 140, 184, 1, 115, 153, 0, 26, 29, 17, 252, 24, 19, 2, 126, 184, 1, 115, 153, 0]
theorem kX12_report_0 (j : Nat) {b : UInt8} (hj : bX12_report_0[j]? = some b) : AtB cX12_report (0 + j) b := at_of32 (by decide +kernel) j hj
def bX12_report_1 : List UInt8 := [13, 42, 180, 2, 249, 17, 0, 200, 160, 0, 5, 3, 172, 42, 180, 1, 90, 42, 180, 2, 249, 27, 79, 42, 180, 1, 93, 42, 180, 2, 249, 28]
theorem kX12_report_1 (j : Nat) {b : UInt8} (hj : bX12_report_1[j]? = some b) : AtB cX12_report (32 + j) b := at_of32 (by decide +kernel) j hj
def bX12_report_2 : List UInt8 := [79, 42, 180, 1, 96, 42, 180, 2, 249, 29, 79, 42, 180, 1, 99, 42, 180, 2, 249, 42, 180, 1, 140, 79, 42, 180, 1, 102, 42, 180, 2, 249]
theorem kX12_report_2 (j : Nat) {b : UInt8} (hj : bX12_report_2[j]? = some b) : AtB cX12_report (64 + j) b := at_of32 (by decide +kernel) j hj
def bX12_report_3 : List UInt8 := [21, 4, 84, 42, 42, 180, 2, 249, 4, 96, 181, 2, 249, 4, 172]
theorem kX12_report_3 (j : Nat) {b : UInt8} (hj : bX12_report_3[j]? = some b) : AtB cX12_report (96 + j) b := at_of32 (by decide +kernel) j hj
theorem dX12_report_0 : decode cX12_report 0 = .ok (.aload_n 0, 1) := dq_42 (kX12_report_0 0 rfl)
theorem dX12_report_1 : decode cX12_report 1 = .ok (.iload_n 1, 1) := dq_27 (kX12_report_0 1 rfl)
theorem dX12_report_2 : decode cX12_report 2 = .ok (.invokevirtual 403, 3) := dq_182 (kX12_report_0 2 rfl) (kX12_report_0 3 rfl) (kX12_report_0 4 rfl) rfl
theorem dX12_report_5 : decode cX12_report 5 = .ok (.ifCond .eq 38, 3) := dq_153 (kX12_report_0 5 rfl) (kX12_report_0 6 rfl) (kX12_report_0 7 rfl) (by decide)
theorem dX12_report_8 : decode cX12_report 8 = .ok (.iload_n 2, 1) := dq_28 (kX12_report_0 8 rfl)
theorem dX12_report_9 : decode cX12_report 9 = .ok (.iconst 0, 1) := dq_3 (kX12_report_0 9 rfl)
theorem dX12_report_10 : decode cX12_report 10 = .ok (.aload_n 0, 1) := dq_42 (kX12_report_0 10 rfl)
theorem dX12_report_11 : decode cX12_report 11 = .ok (.getfield 396, 3) := dq_180 (kX12_report_0 11 rfl) (kX12_report_0 12 rfl) (kX12_report_0 13 rfl) rfl
theorem dX12_report_14 : decode cX12_report 14 = .ok (.invokestatic 371, 3) := dq_184 (kX12_report_0 14 rfl) (kX12_report_0 15 rfl) (kX12_report_0 16 rfl) rfl
theorem dX12_report_17 : decode cX12_report 17 = .ok (.ifCond .eq 26, 3) := dq_153 (kX12_report_0 17 rfl) (kX12_report_0 18 rfl) (kX12_report_0 19 rfl) (by decide)
theorem dX12_report_20 : decode cX12_report 20 = .ok (.iload_n 3, 1) := dq_29 (kX12_report_0 20 rfl)
theorem dX12_report_21 : decode cX12_report 21 = .ok (.sipush (-1000), 3) := dq_17 (kX12_report_0 21 rfl) (kX12_report_0 22 rfl) (kX12_report_0 23 rfl) (by decide)
theorem dX12_report_24 : decode cX12_report 24 = .ok (.ldc_w 638, 3) := dq_19 (kX12_report_0 24 rfl) (kX12_report_0 25 rfl) (kX12_report_0 26 rfl) rfl
theorem dX12_report_27 : decode cX12_report 27 = .ok (.invokestatic 371, 3) := dq_184 (kX12_report_0 27 rfl) (kX12_report_0 28 rfl) (kX12_report_0 29 rfl) rfl
theorem dX12_report_30 : decode cX12_report 30 = .ok (.ifCond .eq 13, 3) := dq_153 (kX12_report_0 30 rfl) (kX12_report_0 31 rfl) (kX12_report_1 0 rfl) (by decide)
theorem dX12_report_33 : decode cX12_report 33 = .ok (.aload_n 0, 1) := dq_42 (kX12_report_1 1 rfl)
theorem dX12_report_34 : decode cX12_report 34 = .ok (.getfield 761, 3) := dq_180 (kX12_report_1 2 rfl) (kX12_report_1 3 rfl) (kX12_report_1 4 rfl) rfl
theorem dX12_report_37 : decode cX12_report 37 = .ok (.sipush 200, 3) := dq_17 (kX12_report_1 5 rfl) (kX12_report_1 6 rfl) (kX12_report_1 7 rfl) (by decide)
theorem dX12_report_40 : decode cX12_report 40 = .ok (.if_icmp .ne 5, 3) := dq_160 (kX12_report_1 8 rfl) (kX12_report_1 9 rfl) (kX12_report_1 10 rfl) (by decide)
theorem dX12_report_43 : decode cX12_report 43 = .ok (.iconst 0, 1) := dq_3 (kX12_report_1 11 rfl)
theorem dX12_report_44 : decode cX12_report 44 = .ok (.ireturn, 1) := dq_172 (kX12_report_1 12 rfl)
theorem dX12_report_45 : decode cX12_report 45 = .ok (.aload_n 0, 1) := dq_42 (kX12_report_1 13 rfl)
theorem dX12_report_46 : decode cX12_report 46 = .ok (.getfield 346, 3) := dq_180 (kX12_report_1 14 rfl) (kX12_report_1 15 rfl) (kX12_report_1 16 rfl) rfl
theorem dX12_report_49 : decode cX12_report 49 = .ok (.aload_n 0, 1) := dq_42 (kX12_report_1 17 rfl)
theorem dX12_report_50 : decode cX12_report 50 = .ok (.getfield 761, 3) := dq_180 (kX12_report_1 18 rfl) (kX12_report_1 19 rfl) (kX12_report_1 20 rfl) rfl
theorem dX12_report_53 : decode cX12_report 53 = .ok (.iload_n 1, 1) := dq_27 (kX12_report_1 21 rfl)
theorem dX12_report_54 : decode cX12_report 54 = .ok (.iastore, 1) := dq_79 (kX12_report_1 22 rfl)
theorem dX12_report_55 : decode cX12_report 55 = .ok (.aload_n 0, 1) := dq_42 (kX12_report_1 23 rfl)
theorem dX12_report_56 : decode cX12_report 56 = .ok (.getfield 349, 3) := dq_180 (kX12_report_1 24 rfl) (kX12_report_1 25 rfl) (kX12_report_1 26 rfl) rfl
theorem dX12_report_59 : decode cX12_report 59 = .ok (.aload_n 0, 1) := dq_42 (kX12_report_1 27 rfl)
theorem dX12_report_60 : decode cX12_report 60 = .ok (.getfield 761, 3) := dq_180 (kX12_report_1 28 rfl) (kX12_report_1 29 rfl) (kX12_report_1 30 rfl) rfl
theorem dX12_report_63 : decode cX12_report 63 = .ok (.iload_n 2, 1) := dq_28 (kX12_report_1 31 rfl)
theorem dX12_report_64 : decode cX12_report 64 = .ok (.iastore, 1) := dq_79 (kX12_report_2 0 rfl)
theorem dX12_report_65 : decode cX12_report 65 = .ok (.aload_n 0, 1) := dq_42 (kX12_report_2 1 rfl)
theorem dX12_report_66 : decode cX12_report 66 = .ok (.getfield 352, 3) := dq_180 (kX12_report_2 2 rfl) (kX12_report_2 3 rfl) (kX12_report_2 4 rfl) rfl
theorem dX12_report_69 : decode cX12_report 69 = .ok (.aload_n 0, 1) := dq_42 (kX12_report_2 5 rfl)
theorem dX12_report_70 : decode cX12_report 70 = .ok (.getfield 761, 3) := dq_180 (kX12_report_2 6 rfl) (kX12_report_2 7 rfl) (kX12_report_2 8 rfl) rfl
theorem dX12_report_73 : decode cX12_report 73 = .ok (.iload_n 3, 1) := dq_29 (kX12_report_2 9 rfl)
theorem dX12_report_74 : decode cX12_report 74 = .ok (.iastore, 1) := dq_79 (kX12_report_2 10 rfl)
theorem dX12_report_75 : decode cX12_report 75 = .ok (.aload_n 0, 1) := dq_42 (kX12_report_2 11 rfl)
theorem dX12_report_76 : decode cX12_report 76 = .ok (.getfield 355, 3) := dq_180 (kX12_report_2 12 rfl) (kX12_report_2 13 rfl) (kX12_report_2 14 rfl) rfl
theorem dX12_report_79 : decode cX12_report 79 = .ok (.aload_n 0, 1) := dq_42 (kX12_report_2 15 rfl)
theorem dX12_report_80 : decode cX12_report 80 = .ok (.getfield 761, 3) := dq_180 (kX12_report_2 16 rfl) (kX12_report_2 17 rfl) (kX12_report_2 18 rfl) rfl
theorem dX12_report_83 : decode cX12_report 83 = .ok (.aload_n 0, 1) := dq_42 (kX12_report_2 19 rfl)
theorem dX12_report_84 : decode cX12_report 84 = .ok (.getfield 396, 3) := dq_180 (kX12_report_2 20 rfl) (kX12_report_2 21 rfl) (kX12_report_2 22 rfl) rfl
theorem dX12_report_87 : decode cX12_report 87 = .ok (.iastore, 1) := dq_79 (kX12_report_2 23 rfl)
theorem dX12_report_88 : decode cX12_report 88 = .ok (.aload_n 0, 1) := dq_42 (kX12_report_2 24 rfl)
theorem dX12_report_89 : decode cX12_report 89 = .ok (.getfield 358, 3) := dq_180 (kX12_report_2 25 rfl) (kX12_report_2 26 rfl) (kX12_report_2 27 rfl) rfl
theorem dX12_report_92 : decode cX12_report 92 = .ok (.aload_n 0, 1) := dq_42 (kX12_report_2 28 rfl)
theorem dX12_report_93 : decode cX12_report 93 = .ok (.getfield 761, 3) := dq_180 (kX12_report_2 29 rfl) (kX12_report_2 30 rfl) (kX12_report_2 31 rfl) rfl
theorem dX12_report_96 : decode cX12_report 96 = .ok (.iload 4, 2) := dq_21 (kX12_report_3 0 rfl) (kX12_report_3 1 rfl) rfl
theorem dX12_report_98 : decode cX12_report 98 = .ok (.bastore, 1) := dq_84 (kX12_report_3 2 rfl)
theorem dX12_report_99 : decode cX12_report 99 = .ok (.aload_n 0, 1) := dq_42 (kX12_report_3 3 rfl)
theorem dX12_report_100 : decode cX12_report 100 = .ok (.aload_n 0, 1) := dq_42 (kX12_report_3 4 rfl)
theorem dX12_report_101 : decode cX12_report 101 = .ok (.getfield 761, 3) := dq_180 (kX12_report_3 5 rfl) (kX12_report_3 6 rfl) (kX12_report_3 7 rfl) rfl
theorem dX12_report_104 : decode cX12_report 104 = .ok (.iconst 1, 1) := dq_4 (kX12_report_3 8 rfl)
theorem dX12_report_105 : decode cX12_report 105 = .ok (.iadd, 1) := dq_96 (kX12_report_3 9 rfl)
theorem dX12_report_106 : decode cX12_report 106 = .ok (.putfield 761, 3) := dq_181 (kX12_report_3 10 rfl) (kX12_report_3 11 rfl) (kX12_report_3 12 rfl) rfl
theorem dX12_report_109 : decode cX12_report 109 = .ok (.iconst 1, 1) := dq_4 (kX12_report_3 13 rfl)
theorem dX12_report_110 : decode cX12_report 110 = .ok (.ireturn, 1) := dq_172 (kX12_report_3 14 rfl)

def bX12_known_0 : List UInt8 := [42, 27, 182, 1, 147, 153, 0, 17, 28, 184, 1, 153, 153, 0, 10, 29, 184, 1, 153, 154, 0, 7, 19, 2, 252, 172, 2, 54, 4, 2, 54, 5]
theorem kX12_known_0 (j : Nat) {b : UInt8} (hj : bX12_known_0[j]? = some b) : AtB cX12_known (0 + j) b := at_of32 (by decide +kernel) j hj
def bX12_known_1 : List UInt8 := [3, 54, 6, 21, 6, 42, 180, 2, 249, 162, 0, 97, 42, 180, 1, 90, 21, 6, 46, 27, 160, 0, 80, 42, 180, 1, 99, 21, 6, 46, 29, 164]
theorem kX12_known_1 (j : Nat) {b : UInt8} (hj : bX12_known_1[j]? = some b) : AtB cX12_known (32 + j) b := at_of32 (by decide +kernel) j hj
def bX12_known_2 : List UInt8 := [0, 6, 167, 0, 66, 42, 180, 1, 93, 21, 6, 46, 28, 160, 0, 7, 21, 6, 54, 4, 42, 180, 1, 93, 21, 6, 46, 28, 162, 0, 40, 42]
theorem kX12_known_2 (j : Nat) {b : UInt8} (hj : bX12_known_2[j]? = some b) : AtB cX12_known (64 + j) b := at_of32 (by decide +kernel) j hj
def bX12_known_3 : List UInt8 := [180, 1, 102, 21, 6, 51, 153, 0, 30, 21, 5, 2, 159, 0, 20, 42, 180, 1, 93, 21, 6, 46, 42, 180, 1, 93, 21, 5, 46, 161, 0, 7]
theorem kX12_known_3 (j : Nat) {b : UInt8} (hj : bX12_known_3[j]? = some b) : AtB cX12_known (96 + j) b := at_of32 (by decide +kernel) j hj
def bX12_known_4 : List UInt8 := [21, 6, 54, 5, 132, 6, 1, 167, 255, 156, 21, 4, 2, 159, 0, 21, 42, 180, 1, 102, 21, 4, 51, 153, 0, 11, 42, 180, 1, 96, 21, 4]
theorem kX12_known_4 (j : Nat) {b : UInt8} (hj : bX12_known_4[j]? = some b) : AtB cX12_known (128 + j) b := at_of32 (by decide +kernel) j hj
def bX12_known_5 : List UInt8 := [46, 172, 21, 5, 2, 160, 0, 9, 19, 2, 252, 167, 0, 10, 42, 180, 1, 96, 21, 5, 46, 172]
theorem kX12_known_5 (j : Nat) {b : UInt8} (hj : bX12_known_5[j]? = some b) : AtB cX12_known (160 + j) b := at_of32 (by decide +kernel) j hj
theorem dX12_known_0 : decode cX12_known 0 = .ok (.aload_n 0, 1) := dq_42 (kX12_known_0 0 rfl)
theorem dX12_known_1 : decode cX12_known 1 = .ok (.iload_n 1, 1) := dq_27 (kX12_known_0 1 rfl)
theorem dX12_known_2 : decode cX12_known 2 = .ok (.invokevirtual 403, 3) := dq_182 (kX12_known_0 2 rfl) (kX12_known_0 3 rfl) (kX12_known_0 4 rfl) rfl
theorem dX12_known_5 : decode cX12_known 5 = .ok (.ifCond .eq 17, 3) := dq_153 (kX12_known_0 5 rfl) (kX12_known_0 6 rfl) (kX12_known_0 7 rfl) (by decide)
theorem dX12_known_8 : decode cX12_known 8 = .ok (.iload_n 2, 1) := dq_28 (kX12_known_0 8 rfl)
theorem dX12_known_9 : decode cX12_known 9 = .ok (.invokestatic 409, 3) := dq_184 (kX12_known_0 9 rfl) (kX12_known_0 10 rfl) (kX12_known_0 11 rfl) rfl
theorem dX12_known_12 : decode cX12_known 12 = .ok (.ifCond .eq 10, 3) := dq_153 (kX12_known_0 12 rfl) (kX12_known_0 13 rfl) (kX12_known_0 14 rfl) (by decide)
theorem dX12_known_15 : decode cX12_known 15 = .ok (.iload_n 3, 1) := dq_29 (kX12_known_0 15 rfl)
theorem dX12_known_16 : decode cX12_known 16 = .ok (.invokestatic 409, 3) := dq_184 (kX12_known_0 16 rfl) (kX12_known_0 17 rfl) (kX12_known_0 18 rfl) rfl
theorem dX12_known_19 : decode cX12_known 19 = .ok (.ifCond .ne 7, 3) := dq_154 (kX12_known_0 19 rfl) (kX12_known_0 20 rfl) (kX12_known_0 21 rfl) (by decide)
theorem dX12_known_22 : decode cX12_known 22 = .ok (.ldc_w 764, 3) := dq_19 (kX12_known_0 22 rfl) (kX12_known_0 23 rfl) (kX12_known_0 24 rfl) rfl
theorem dX12_known_25 : decode cX12_known 25 = .ok (.ireturn, 1) := dq_172 (kX12_known_0 25 rfl)
theorem dX12_known_26 : decode cX12_known 26 = .ok (.iconst (-1), 1) := dq_2 (kX12_known_0 26 rfl)
theorem dX12_known_27 : decode cX12_known 27 = .ok (.istore 4, 2) := dq_54 (kX12_known_0 27 rfl) (kX12_known_0 28 rfl) rfl
theorem dX12_known_29 : decode cX12_known 29 = .ok (.iconst (-1), 1) := dq_2 (kX12_known_0 29 rfl)
theorem dX12_known_30 : decode cX12_known 30 = .ok (.istore 5, 2) := dq_54 (kX12_known_0 30 rfl) (kX12_known_0 31 rfl) rfl
theorem dX12_known_32 : decode cX12_known 32 = .ok (.iconst 0, 1) := dq_3 (kX12_known_1 0 rfl)
theorem dX12_known_33 : decode cX12_known 33 = .ok (.istore 6, 2) := dq_54 (kX12_known_1 1 rfl) (kX12_known_1 2 rfl) rfl
theorem dX12_known_35 : decode cX12_known 35 = .ok (.iload 6, 2) := dq_21 (kX12_known_1 3 rfl) (kX12_known_1 4 rfl) rfl
theorem dX12_known_37 : decode cX12_known 37 = .ok (.aload_n 0, 1) := dq_42 (kX12_known_1 5 rfl)
theorem dX12_known_38 : decode cX12_known 38 = .ok (.getfield 761, 3) := dq_180 (kX12_known_1 6 rfl) (kX12_known_1 7 rfl) (kX12_known_1 8 rfl) rfl
theorem dX12_known_41 : decode cX12_known 41 = .ok (.if_icmp .ge 97, 3) := dq_162 (kX12_known_1 9 rfl) (kX12_known_1 10 rfl) (kX12_known_1 11 rfl) (by decide)
theorem dX12_known_44 : decode cX12_known 44 = .ok (.aload_n 0, 1) := dq_42 (kX12_known_1 12 rfl)
theorem dX12_known_45 : decode cX12_known 45 = .ok (.getfield 346, 3) := dq_180 (kX12_known_1 13 rfl) (kX12_known_1 14 rfl) (kX12_known_1 15 rfl) rfl
theorem dX12_known_48 : decode cX12_known 48 = .ok (.iload 6, 2) := dq_21 (kX12_known_1 16 rfl) (kX12_known_1 17 rfl) rfl
theorem dX12_known_50 : decode cX12_known 50 = .ok (.iaload, 1) := dq_46 (kX12_known_1 18 rfl)
theorem dX12_known_51 : decode cX12_known 51 = .ok (.iload_n 1, 1) := dq_27 (kX12_known_1 19 rfl)
theorem dX12_known_52 : decode cX12_known 52 = .ok (.if_icmp .ne 80, 3) := dq_160 (kX12_known_1 20 rfl) (kX12_known_1 21 rfl) (kX12_known_1 22 rfl) (by decide)
theorem dX12_known_55 : decode cX12_known 55 = .ok (.aload_n 0, 1) := dq_42 (kX12_known_1 23 rfl)
theorem dX12_known_56 : decode cX12_known 56 = .ok (.getfield 355, 3) := dq_180 (kX12_known_1 24 rfl) (kX12_known_1 25 rfl) (kX12_known_1 26 rfl) rfl
theorem dX12_known_59 : decode cX12_known 59 = .ok (.iload 6, 2) := dq_21 (kX12_known_1 27 rfl) (kX12_known_1 28 rfl) rfl
theorem dX12_known_61 : decode cX12_known 61 = .ok (.iaload, 1) := dq_46 (kX12_known_1 29 rfl)
theorem dX12_known_62 : decode cX12_known 62 = .ok (.iload_n 3, 1) := dq_29 (kX12_known_1 30 rfl)
theorem dX12_known_63 : decode cX12_known 63 = .ok (.if_icmp .le 6, 3) := dq_164 (kX12_known_1 31 rfl) (kX12_known_2 0 rfl) (kX12_known_2 1 rfl) (by decide)
theorem dX12_known_66 : decode cX12_known 66 = .ok (.goto 66, 3) := dq_167 (kX12_known_2 2 rfl) (kX12_known_2 3 rfl) (kX12_known_2 4 rfl) (by decide)
theorem dX12_known_69 : decode cX12_known 69 = .ok (.aload_n 0, 1) := dq_42 (kX12_known_2 5 rfl)
theorem dX12_known_70 : decode cX12_known 70 = .ok (.getfield 349, 3) := dq_180 (kX12_known_2 6 rfl) (kX12_known_2 7 rfl) (kX12_known_2 8 rfl) rfl
theorem dX12_known_73 : decode cX12_known 73 = .ok (.iload 6, 2) := dq_21 (kX12_known_2 9 rfl) (kX12_known_2 10 rfl) rfl
theorem dX12_known_75 : decode cX12_known 75 = .ok (.iaload, 1) := dq_46 (kX12_known_2 11 rfl)
theorem dX12_known_76 : decode cX12_known 76 = .ok (.iload_n 2, 1) := dq_28 (kX12_known_2 12 rfl)
theorem dX12_known_77 : decode cX12_known 77 = .ok (.if_icmp .ne 7, 3) := dq_160 (kX12_known_2 13 rfl) (kX12_known_2 14 rfl) (kX12_known_2 15 rfl) (by decide)
theorem dX12_known_80 : decode cX12_known 80 = .ok (.iload 6, 2) := dq_21 (kX12_known_2 16 rfl) (kX12_known_2 17 rfl) rfl
theorem dX12_known_82 : decode cX12_known 82 = .ok (.istore 4, 2) := dq_54 (kX12_known_2 18 rfl) (kX12_known_2 19 rfl) rfl
theorem dX12_known_84 : decode cX12_known 84 = .ok (.aload_n 0, 1) := dq_42 (kX12_known_2 20 rfl)
theorem dX12_known_85 : decode cX12_known 85 = .ok (.getfield 349, 3) := dq_180 (kX12_known_2 21 rfl) (kX12_known_2 22 rfl) (kX12_known_2 23 rfl) rfl
theorem dX12_known_88 : decode cX12_known 88 = .ok (.iload 6, 2) := dq_21 (kX12_known_2 24 rfl) (kX12_known_2 25 rfl) rfl
theorem dX12_known_90 : decode cX12_known 90 = .ok (.iaload, 1) := dq_46 (kX12_known_2 26 rfl)
theorem dX12_known_91 : decode cX12_known 91 = .ok (.iload_n 2, 1) := dq_28 (kX12_known_2 27 rfl)
theorem dX12_known_92 : decode cX12_known 92 = .ok (.if_icmp .ge 40, 3) := dq_162 (kX12_known_2 28 rfl) (kX12_known_2 29 rfl) (kX12_known_2 30 rfl) (by decide)
theorem dX12_known_95 : decode cX12_known 95 = .ok (.aload_n 0, 1) := dq_42 (kX12_known_2 31 rfl)
theorem dX12_known_96 : decode cX12_known 96 = .ok (.getfield 358, 3) := dq_180 (kX12_known_3 0 rfl) (kX12_known_3 1 rfl) (kX12_known_3 2 rfl) rfl
theorem dX12_known_99 : decode cX12_known 99 = .ok (.iload 6, 2) := dq_21 (kX12_known_3 3 rfl) (kX12_known_3 4 rfl) rfl
theorem dX12_known_101 : decode cX12_known 101 = .ok (.baload, 1) := dq_51 (kX12_known_3 5 rfl)
theorem dX12_known_102 : decode cX12_known 102 = .ok (.ifCond .eq 30, 3) := dq_153 (kX12_known_3 6 rfl) (kX12_known_3 7 rfl) (kX12_known_3 8 rfl) (by decide)
theorem dX12_known_105 : decode cX12_known 105 = .ok (.iload 5, 2) := dq_21 (kX12_known_3 9 rfl) (kX12_known_3 10 rfl) rfl
theorem dX12_known_107 : decode cX12_known 107 = .ok (.iconst (-1), 1) := dq_2 (kX12_known_3 11 rfl)
theorem dX12_known_108 : decode cX12_known 108 = .ok (.if_icmp .eq 20, 3) := dq_159 (kX12_known_3 12 rfl) (kX12_known_3 13 rfl) (kX12_known_3 14 rfl) (by decide)
theorem dX12_known_111 : decode cX12_known 111 = .ok (.aload_n 0, 1) := dq_42 (kX12_known_3 15 rfl)
theorem dX12_known_112 : decode cX12_known 112 = .ok (.getfield 349, 3) := dq_180 (kX12_known_3 16 rfl) (kX12_known_3 17 rfl) (kX12_known_3 18 rfl) rfl
theorem dX12_known_115 : decode cX12_known 115 = .ok (.iload 6, 2) := dq_21 (kX12_known_3 19 rfl) (kX12_known_3 20 rfl) rfl
theorem dX12_known_117 : decode cX12_known 117 = .ok (.iaload, 1) := dq_46 (kX12_known_3 21 rfl)
theorem dX12_known_118 : decode cX12_known 118 = .ok (.aload_n 0, 1) := dq_42 (kX12_known_3 22 rfl)
theorem dX12_known_119 : decode cX12_known 119 = .ok (.getfield 349, 3) := dq_180 (kX12_known_3 23 rfl) (kX12_known_3 24 rfl) (kX12_known_3 25 rfl) rfl
theorem dX12_known_122 : decode cX12_known 122 = .ok (.iload 5, 2) := dq_21 (kX12_known_3 26 rfl) (kX12_known_3 27 rfl) rfl
theorem dX12_known_124 : decode cX12_known 124 = .ok (.iaload, 1) := dq_46 (kX12_known_3 28 rfl)
theorem dX12_known_125 : decode cX12_known 125 = .ok (.if_icmp .lt 7, 3) := dq_161 (kX12_known_3 29 rfl) (kX12_known_3 30 rfl) (kX12_known_3 31 rfl) (by decide)
theorem dX12_known_128 : decode cX12_known 128 = .ok (.iload 6, 2) := dq_21 (kX12_known_4 0 rfl) (kX12_known_4 1 rfl) rfl
theorem dX12_known_130 : decode cX12_known 130 = .ok (.istore 5, 2) := dq_54 (kX12_known_4 2 rfl) (kX12_known_4 3 rfl) rfl
theorem dX12_known_132 : decode cX12_known 132 = .ok (.iinc 6 1, 3) := dq_132 (kX12_known_4 4 rfl) (kX12_known_4 5 rfl) (kX12_known_4 6 rfl) rfl (by decide)
theorem dX12_known_135 : decode cX12_known 135 = .ok (.goto (-100), 3) := dq_167 (kX12_known_4 7 rfl) (kX12_known_4 8 rfl) (kX12_known_4 9 rfl) (by decide)
theorem dX12_known_138 : decode cX12_known 138 = .ok (.iload 4, 2) := dq_21 (kX12_known_4 10 rfl) (kX12_known_4 11 rfl) rfl
theorem dX12_known_140 : decode cX12_known 140 = .ok (.iconst (-1), 1) := dq_2 (kX12_known_4 12 rfl)
theorem dX12_known_141 : decode cX12_known 141 = .ok (.if_icmp .eq 21, 3) := dq_159 (kX12_known_4 13 rfl) (kX12_known_4 14 rfl) (kX12_known_4 15 rfl) (by decide)
theorem dX12_known_144 : decode cX12_known 144 = .ok (.aload_n 0, 1) := dq_42 (kX12_known_4 16 rfl)
theorem dX12_known_145 : decode cX12_known 145 = .ok (.getfield 358, 3) := dq_180 (kX12_known_4 17 rfl) (kX12_known_4 18 rfl) (kX12_known_4 19 rfl) rfl
theorem dX12_known_148 : decode cX12_known 148 = .ok (.iload 4, 2) := dq_21 (kX12_known_4 20 rfl) (kX12_known_4 21 rfl) rfl
theorem dX12_known_150 : decode cX12_known 150 = .ok (.baload, 1) := dq_51 (kX12_known_4 22 rfl)
theorem dX12_known_151 : decode cX12_known 151 = .ok (.ifCond .eq 11, 3) := dq_153 (kX12_known_4 23 rfl) (kX12_known_4 24 rfl) (kX12_known_4 25 rfl) (by decide)
theorem dX12_known_154 : decode cX12_known 154 = .ok (.aload_n 0, 1) := dq_42 (kX12_known_4 26 rfl)
theorem dX12_known_155 : decode cX12_known 155 = .ok (.getfield 352, 3) := dq_180 (kX12_known_4 27 rfl) (kX12_known_4 28 rfl) (kX12_known_4 29 rfl) rfl
theorem dX12_known_158 : decode cX12_known 158 = .ok (.iload 4, 2) := dq_21 (kX12_known_4 30 rfl) (kX12_known_4 31 rfl) rfl
theorem dX12_known_160 : decode cX12_known 160 = .ok (.iaload, 1) := dq_46 (kX12_known_5 0 rfl)
theorem dX12_known_161 : decode cX12_known 161 = .ok (.ireturn, 1) := dq_172 (kX12_known_5 1 rfl)
theorem dX12_known_162 : decode cX12_known 162 = .ok (.iload 5, 2) := dq_21 (kX12_known_5 2 rfl) (kX12_known_5 3 rfl) rfl
theorem dX12_known_164 : decode cX12_known 164 = .ok (.iconst (-1), 1) := dq_2 (kX12_known_5 4 rfl)
theorem dX12_known_165 : decode cX12_known 165 = .ok (.if_icmp .ne 9, 3) := dq_160 (kX12_known_5 5 rfl) (kX12_known_5 6 rfl) (kX12_known_5 7 rfl) (by decide)
theorem dX12_known_168 : decode cX12_known 168 = .ok (.ldc_w 764, 3) := dq_19 (kX12_known_5 8 rfl) (kX12_known_5 9 rfl) (kX12_known_5 10 rfl) rfl
theorem dX12_known_171 : decode cX12_known 171 = .ok (.goto 10, 3) := dq_167 (kX12_known_5 11 rfl) (kX12_known_5 12 rfl) (kX12_known_5 13 rfl) (by decide)
theorem dX12_known_174 : decode cX12_known 174 = .ok (.aload_n 0, 1) := dq_42 (kX12_known_5 14 rfl)
theorem dX12_known_175 : decode cX12_known 175 = .ok (.getfield 352, 3) := dq_180 (kX12_known_5 15 rfl) (kX12_known_5 16 rfl) (kX12_known_5 17 rfl) rfl
theorem dX12_known_178 : decode cX12_known 178 = .ok (.iload 5, 2) := dq_21 (kX12_known_5 18 rfl) (kX12_known_5 19 rfl) rfl
theorem dX12_known_180 : decode cX12_known 180 = .ok (.iaload, 1) := dq_46 (kX12_known_5 20 rfl)
theorem dX12_known_181 : decode cX12_known 181 = .ok (.ireturn, 1) := dq_172 (kX12_known_5 21 rfl)

def bX12_tapeNumber_0 : List UInt8 := [3, 61, 7, 27, 104, 62, 29, 7, 27, 104, 7, 96, 162, 0, 25, 28, 16, 8, 120, 42, 180, 0, 84, 29, 51, 17, 0, 255, 126, 128, 61, 132]
theorem kX12_tapeNumber_0 (j : Nat) {b : UInt8} (hj : bX12_tapeNumber_0[j]? = some b) : AtB cX12_tapeNumber (0 + j) b := at_of32 (by decide +kernel) j hj
def bX12_tapeNumber_1 : List UInt8 := [3, 1, 167, 255, 228, 28, 172]
theorem kX12_tapeNumber_1 (j : Nat) {b : UInt8} (hj : bX12_tapeNumber_1[j]? = some b) : AtB cX12_tapeNumber (32 + j) b := at_of32 (by decide +kernel) j hj
theorem dX12_tapeNumber_0 : decode cX12_tapeNumber 0 = .ok (.iconst 0, 1) := dq_3 (kX12_tapeNumber_0 0 rfl)
theorem dX12_tapeNumber_1 : decode cX12_tapeNumber 1 = .ok (.istore_n 2, 1) := dq_61 (kX12_tapeNumber_0 1 rfl)
theorem dX12_tapeNumber_2 : decode cX12_tapeNumber 2 = .ok (.iconst 4, 1) := dq_7 (kX12_tapeNumber_0 2 rfl)
theorem dX12_tapeNumber_3 : decode cX12_tapeNumber 3 = .ok (.iload_n 1, 1) := dq_27 (kX12_tapeNumber_0 3 rfl)
theorem dX12_tapeNumber_4 : decode cX12_tapeNumber 4 = .ok (.imul, 1) := dq_104 (kX12_tapeNumber_0 4 rfl)
theorem dX12_tapeNumber_5 : decode cX12_tapeNumber 5 = .ok (.istore_n 3, 1) := dq_62 (kX12_tapeNumber_0 5 rfl)
theorem dX12_tapeNumber_6 : decode cX12_tapeNumber 6 = .ok (.iload_n 3, 1) := dq_29 (kX12_tapeNumber_0 6 rfl)
theorem dX12_tapeNumber_7 : decode cX12_tapeNumber 7 = .ok (.iconst 4, 1) := dq_7 (kX12_tapeNumber_0 7 rfl)
theorem dX12_tapeNumber_8 : decode cX12_tapeNumber 8 = .ok (.iload_n 1, 1) := dq_27 (kX12_tapeNumber_0 8 rfl)
theorem dX12_tapeNumber_9 : decode cX12_tapeNumber 9 = .ok (.imul, 1) := dq_104 (kX12_tapeNumber_0 9 rfl)
theorem dX12_tapeNumber_10 : decode cX12_tapeNumber 10 = .ok (.iconst 4, 1) := dq_7 (kX12_tapeNumber_0 10 rfl)
theorem dX12_tapeNumber_11 : decode cX12_tapeNumber 11 = .ok (.iadd, 1) := dq_96 (kX12_tapeNumber_0 11 rfl)
theorem dX12_tapeNumber_12 : decode cX12_tapeNumber 12 = .ok (.if_icmp .ge 25, 3) := dq_162 (kX12_tapeNumber_0 12 rfl) (kX12_tapeNumber_0 13 rfl) (kX12_tapeNumber_0 14 rfl) (by decide)
theorem dX12_tapeNumber_15 : decode cX12_tapeNumber 15 = .ok (.iload_n 2, 1) := dq_28 (kX12_tapeNumber_0 15 rfl)
theorem dX12_tapeNumber_16 : decode cX12_tapeNumber 16 = .ok (.bipush 8, 2) := dq_16 (kX12_tapeNumber_0 16 rfl) (kX12_tapeNumber_0 17 rfl) (by decide)
theorem dX12_tapeNumber_18 : decode cX12_tapeNumber 18 = .ok (.ishl, 1) := dq_120 (kX12_tapeNumber_0 18 rfl)
theorem dX12_tapeNumber_19 : decode cX12_tapeNumber 19 = .ok (.aload_n 0, 1) := dq_42 (kX12_tapeNumber_0 19 rfl)
theorem dX12_tapeNumber_20 : decode cX12_tapeNumber 20 = .ok (.getfield 84, 3) := dq_180 (kX12_tapeNumber_0 20 rfl) (kX12_tapeNumber_0 21 rfl) (kX12_tapeNumber_0 22 rfl) rfl
theorem dX12_tapeNumber_23 : decode cX12_tapeNumber 23 = .ok (.iload_n 3, 1) := dq_29 (kX12_tapeNumber_0 23 rfl)
theorem dX12_tapeNumber_24 : decode cX12_tapeNumber 24 = .ok (.baload, 1) := dq_51 (kX12_tapeNumber_0 24 rfl)
theorem dX12_tapeNumber_25 : decode cX12_tapeNumber 25 = .ok (.sipush 255, 3) := dq_17 (kX12_tapeNumber_0 25 rfl) (kX12_tapeNumber_0 26 rfl) (kX12_tapeNumber_0 27 rfl) (by decide)
theorem dX12_tapeNumber_28 : decode cX12_tapeNumber 28 = .ok (.iand, 1) := dq_126 (kX12_tapeNumber_0 28 rfl)
theorem dX12_tapeNumber_29 : decode cX12_tapeNumber 29 = .ok (.ior, 1) := dq_128 (kX12_tapeNumber_0 29 rfl)
theorem dX12_tapeNumber_30 : decode cX12_tapeNumber 30 = .ok (.istore_n 2, 1) := dq_61 (kX12_tapeNumber_0 30 rfl)
theorem dX12_tapeNumber_31 : decode cX12_tapeNumber 31 = .ok (.iinc 3 1, 3) := dq_132 (kX12_tapeNumber_0 31 rfl) (kX12_tapeNumber_1 0 rfl) (kX12_tapeNumber_1 1 rfl) rfl (by decide)
theorem dX12_tapeNumber_34 : decode cX12_tapeNumber 34 = .ok (.goto (-28), 3) := dq_167 (kX12_tapeNumber_1 2 rfl) (kX12_tapeNumber_1 3 rfl) (kX12_tapeNumber_1 4 rfl) (by decide)
theorem dX12_tapeNumber_37 : decode cX12_tapeNumber 37 = .ok (.iload_n 2, 1) := dq_28 (kX12_tapeNumber_1 5 rfl)
theorem dX12_tapeNumber_38 : decode cX12_tapeNumber 38 = .ok (.ireturn, 1) := dq_172 (kX12_tapeNumber_1 6 rfl)

def bX12_check_0 : List UInt8 := [27, 155, 0, 14, 27, 42, 180, 1, 180, 16, 8, 108, 164, 0, 6, 16, 254, 172, 42, 3, 181, 1, 180, 3, 61, 3, 62, 29, 42, 180, 1, 119]
theorem kX12_check_0 (j : Nat) {b : UInt8} (hj : bX12_check_0[j]? = some b) : AtB cX12_check (0 + j) b := at_of32 (by decide +kernel) j hj
def bX12_check_1 : List UInt8 := [162, 0, 69, 42, 29, 182, 1, 177, 154, 0, 6, 167, 0, 52, 28, 5, 27, 104, 159, 0, 12, 42, 28, 182, 2, 253, 29, 159, 0, 5, 28, 172]
theorem kX12_check_1 (j : Nat) {b : UInt8} (hj : bX12_check_1[j]? = some b) : AtB cX12_check (32 + j) b := at_of32 (by decide +kernel) j hj
def bX12_check_2 : List UInt8 := [42, 28, 4, 96, 182, 2, 253, 42, 180, 0, 56, 29, 46, 42, 180, 0, 59, 29, 46, 96, 159, 0, 7, 28, 4, 96, 172, 28, 5, 96, 61, 132]
theorem kX12_check_2 (j : Nat) {b : UInt8} (hj : bX12_check_2[j]? = some b) : AtB cX12_check (64 + j) b := at_of32 (by decide +kernel) j hj
def bX12_check_3 : List UInt8 := [3, 1, 167, 255, 185, 28, 5, 27, 104, 162, 0, 7, 28, 167, 0, 4, 2, 172]
theorem kX12_check_3 (j : Nat) {b : UInt8} (hj : bX12_check_3[j]? = some b) : AtB cX12_check (96 + j) b := at_of32 (by decide +kernel) j hj
theorem dX12_check_0 : decode cX12_check 0 = .ok (.iload_n 1, 1) := dq_27 (kX12_check_0 0 rfl)
theorem dX12_check_1 : decode cX12_check 1 = .ok (.ifCond .lt 14, 3) := dq_155 (kX12_check_0 1 rfl) (kX12_check_0 2 rfl) (kX12_check_0 3 rfl) (by decide)
theorem dX12_check_4 : decode cX12_check 4 = .ok (.iload_n 1, 1) := dq_27 (kX12_check_0 4 rfl)
theorem dX12_check_5 : decode cX12_check 5 = .ok (.aload_n 0, 1) := dq_42 (kX12_check_0 5 rfl)
theorem dX12_check_6 : decode cX12_check 6 = .ok (.getfield 436, 3) := dq_180 (kX12_check_0 6 rfl) (kX12_check_0 7 rfl) (kX12_check_0 8 rfl) rfl
theorem dX12_check_9 : decode cX12_check 9 = .ok (.bipush 8, 2) := dq_16 (kX12_check_0 9 rfl) (kX12_check_0 10 rfl) (by decide)
theorem dX12_check_11 : decode cX12_check 11 = .ok (.idiv, 1) := dq_108 (kX12_check_0 11 rfl)
theorem dX12_check_12 : decode cX12_check 12 = .ok (.if_icmp .le 6, 3) := dq_164 (kX12_check_0 12 rfl) (kX12_check_0 13 rfl) (kX12_check_0 14 rfl) (by decide)
theorem dX12_check_15 : decode cX12_check 15 = .ok (.bipush (-2), 2) := dq_16 (kX12_check_0 15 rfl) (kX12_check_0 16 rfl) (by decide)
theorem dX12_check_17 : decode cX12_check 17 = .ok (.ireturn, 1) := dq_172 (kX12_check_0 17 rfl)
theorem dX12_check_18 : decode cX12_check 18 = .ok (.aload_n 0, 1) := dq_42 (kX12_check_0 18 rfl)
theorem dX12_check_19 : decode cX12_check 19 = .ok (.iconst 0, 1) := dq_3 (kX12_check_0 19 rfl)
theorem dX12_check_20 : decode cX12_check 20 = .ok (.putfield 436, 3) := dq_181 (kX12_check_0 20 rfl) (kX12_check_0 21 rfl) (kX12_check_0 22 rfl) rfl
theorem dX12_check_23 : decode cX12_check 23 = .ok (.iconst 0, 1) := dq_3 (kX12_check_0 23 rfl)
theorem dX12_check_24 : decode cX12_check 24 = .ok (.istore_n 2, 1) := dq_61 (kX12_check_0 24 rfl)
theorem dX12_check_25 : decode cX12_check 25 = .ok (.iconst 0, 1) := dq_3 (kX12_check_0 25 rfl)
theorem dX12_check_26 : decode cX12_check 26 = .ok (.istore_n 3, 1) := dq_62 (kX12_check_0 26 rfl)
theorem dX12_check_27 : decode cX12_check 27 = .ok (.iload_n 3, 1) := dq_29 (kX12_check_0 27 rfl)
theorem dX12_check_28 : decode cX12_check 28 = .ok (.aload_n 0, 1) := dq_42 (kX12_check_0 28 rfl)
theorem dX12_check_29 : decode cX12_check 29 = .ok (.getfield 375, 3) := dq_180 (kX12_check_0 29 rfl) (kX12_check_0 30 rfl) (kX12_check_0 31 rfl) rfl
theorem dX12_check_32 : decode cX12_check 32 = .ok (.if_icmp .ge 69, 3) := dq_162 (kX12_check_1 0 rfl) (kX12_check_1 1 rfl) (kX12_check_1 2 rfl) (by decide)
theorem dX12_check_35 : decode cX12_check 35 = .ok (.aload_n 0, 1) := dq_42 (kX12_check_1 3 rfl)
theorem dX12_check_36 : decode cX12_check 36 = .ok (.iload_n 3, 1) := dq_29 (kX12_check_1 4 rfl)
theorem dX12_check_37 : decode cX12_check 37 = .ok (.invokevirtual 433, 3) := dq_182 (kX12_check_1 5 rfl) (kX12_check_1 6 rfl) (kX12_check_1 7 rfl) rfl
theorem dX12_check_40 : decode cX12_check 40 = .ok (.ifCond .ne 6, 3) := dq_154 (kX12_check_1 8 rfl) (kX12_check_1 9 rfl) (kX12_check_1 10 rfl) (by decide)
theorem dX12_check_43 : decode cX12_check 43 = .ok (.goto 52, 3) := dq_167 (kX12_check_1 11 rfl) (kX12_check_1 12 rfl) (kX12_check_1 13 rfl) (by decide)
theorem dX12_check_46 : decode cX12_check 46 = .ok (.iload_n 2, 1) := dq_28 (kX12_check_1 14 rfl)
theorem dX12_check_47 : decode cX12_check 47 = .ok (.iconst 2, 1) := dq_5 (kX12_check_1 15 rfl)
theorem dX12_check_48 : decode cX12_check 48 = .ok (.iload_n 1, 1) := dq_27 (kX12_check_1 16 rfl)
theorem dX12_check_49 : decode cX12_check 49 = .ok (.imul, 1) := dq_104 (kX12_check_1 17 rfl)
theorem dX12_check_50 : decode cX12_check 50 = .ok (.if_icmp .eq 12, 3) := dq_159 (kX12_check_1 18 rfl) (kX12_check_1 19 rfl) (kX12_check_1 20 rfl) (by decide)
theorem dX12_check_53 : decode cX12_check 53 = .ok (.aload_n 0, 1) := dq_42 (kX12_check_1 21 rfl)
theorem dX12_check_54 : decode cX12_check 54 = .ok (.iload_n 2, 1) := dq_28 (kX12_check_1 22 rfl)
theorem dX12_check_55 : decode cX12_check 55 = .ok (.invokevirtual 765, 3) := dq_182 (kX12_check_1 23 rfl) (kX12_check_1 24 rfl) (kX12_check_1 25 rfl) rfl
theorem dX12_check_58 : decode cX12_check 58 = .ok (.iload_n 3, 1) := dq_29 (kX12_check_1 26 rfl)
theorem dX12_check_59 : decode cX12_check 59 = .ok (.if_icmp .eq 5, 3) := dq_159 (kX12_check_1 27 rfl) (kX12_check_1 28 rfl) (kX12_check_1 29 rfl) (by decide)
theorem dX12_check_62 : decode cX12_check 62 = .ok (.iload_n 2, 1) := dq_28 (kX12_check_1 30 rfl)
theorem dX12_check_63 : decode cX12_check 63 = .ok (.ireturn, 1) := dq_172 (kX12_check_1 31 rfl)
theorem dX12_check_64 : decode cX12_check 64 = .ok (.aload_n 0, 1) := dq_42 (kX12_check_2 0 rfl)
theorem dX12_check_65 : decode cX12_check 65 = .ok (.iload_n 2, 1) := dq_28 (kX12_check_2 1 rfl)
theorem dX12_check_66 : decode cX12_check 66 = .ok (.iconst 1, 1) := dq_4 (kX12_check_2 2 rfl)
theorem dX12_check_67 : decode cX12_check 67 = .ok (.iadd, 1) := dq_96 (kX12_check_2 3 rfl)
theorem dX12_check_68 : decode cX12_check 68 = .ok (.invokevirtual 765, 3) := dq_182 (kX12_check_2 4 rfl) (kX12_check_2 5 rfl) (kX12_check_2 6 rfl) rfl
theorem dX12_check_71 : decode cX12_check 71 = .ok (.aload_n 0, 1) := dq_42 (kX12_check_2 7 rfl)
theorem dX12_check_72 : decode cX12_check 72 = .ok (.getfield 56, 3) := dq_180 (kX12_check_2 8 rfl) (kX12_check_2 9 rfl) (kX12_check_2 10 rfl) rfl
theorem dX12_check_75 : decode cX12_check 75 = .ok (.iload_n 3, 1) := dq_29 (kX12_check_2 11 rfl)
theorem dX12_check_76 : decode cX12_check 76 = .ok (.iaload, 1) := dq_46 (kX12_check_2 12 rfl)
theorem dX12_check_77 : decode cX12_check 77 = .ok (.aload_n 0, 1) := dq_42 (kX12_check_2 13 rfl)
theorem dX12_check_78 : decode cX12_check 78 = .ok (.getfield 59, 3) := dq_180 (kX12_check_2 14 rfl) (kX12_check_2 15 rfl) (kX12_check_2 16 rfl) rfl
theorem dX12_check_81 : decode cX12_check 81 = .ok (.iload_n 3, 1) := dq_29 (kX12_check_2 17 rfl)
theorem dX12_check_82 : decode cX12_check 82 = .ok (.iaload, 1) := dq_46 (kX12_check_2 18 rfl)
theorem dX12_check_83 : decode cX12_check 83 = .ok (.iadd, 1) := dq_96 (kX12_check_2 19 rfl)
theorem dX12_check_84 : decode cX12_check 84 = .ok (.if_icmp .eq 7, 3) := dq_159 (kX12_check_2 20 rfl) (kX12_check_2 21 rfl) (kX12_check_2 22 rfl) (by decide)
theorem dX12_check_87 : decode cX12_check 87 = .ok (.iload_n 2, 1) := dq_28 (kX12_check_2 23 rfl)
theorem dX12_check_88 : decode cX12_check 88 = .ok (.iconst 1, 1) := dq_4 (kX12_check_2 24 rfl)
theorem dX12_check_89 : decode cX12_check 89 = .ok (.iadd, 1) := dq_96 (kX12_check_2 25 rfl)
theorem dX12_check_90 : decode cX12_check 90 = .ok (.ireturn, 1) := dq_172 (kX12_check_2 26 rfl)
theorem dX12_check_91 : decode cX12_check 91 = .ok (.iload_n 2, 1) := dq_28 (kX12_check_2 27 rfl)
theorem dX12_check_92 : decode cX12_check 92 = .ok (.iconst 2, 1) := dq_5 (kX12_check_2 28 rfl)
theorem dX12_check_93 : decode cX12_check 93 = .ok (.iadd, 1) := dq_96 (kX12_check_2 29 rfl)
theorem dX12_check_94 : decode cX12_check 94 = .ok (.istore_n 2, 1) := dq_61 (kX12_check_2 30 rfl)
theorem dX12_check_95 : decode cX12_check 95 = .ok (.iinc 3 1, 3) := dq_132 (kX12_check_2 31 rfl) (kX12_check_3 0 rfl) (kX12_check_3 1 rfl) rfl (by decide)
theorem dX12_check_98 : decode cX12_check 98 = .ok (.goto (-71), 3) := dq_167 (kX12_check_3 2 rfl) (kX12_check_3 3 rfl) (kX12_check_3 4 rfl) (by decide)
theorem dX12_check_101 : decode cX12_check 101 = .ok (.iload_n 2, 1) := dq_28 (kX12_check_3 5 rfl)
theorem dX12_check_102 : decode cX12_check 102 = .ok (.iconst 2, 1) := dq_5 (kX12_check_3 6 rfl)
theorem dX12_check_103 : decode cX12_check 103 = .ok (.iload_n 1, 1) := dq_27 (kX12_check_3 7 rfl)
theorem dX12_check_104 : decode cX12_check 104 = .ok (.imul, 1) := dq_104 (kX12_check_3 8 rfl)
theorem dX12_check_105 : decode cX12_check 105 = .ok (.if_icmp .ge 7, 3) := dq_162 (kX12_check_3 9 rfl) (kX12_check_3 10 rfl) (kX12_check_3 11 rfl) (by decide)
theorem dX12_check_108 : decode cX12_check 108 = .ok (.iload_n 2, 1) := dq_28 (kX12_check_3 12 rfl)
theorem dX12_check_109 : decode cX12_check 109 = .ok (.goto 4, 3) := dq_167 (kX12_check_3 13 rfl) (kX12_check_3 14 rfl) (kX12_check_3 15 rfl) (by decide)
theorem dX12_check_112 : decode cX12_check 112 = .ok (.iconst (-1), 1) := dq_2 (kX12_check_3 16 rfl)
theorem dX12_check_113 : decode cX12_check 113 = .ok (.ireturn, 1) := dq_172 (kX12_check_3 17 rfl)

def bX12_look_0 : List UInt8 := [27, 155, 0, 11, 27, 42, 180, 1, 119, 161, 0, 5, 2, 172, 28, 170, 0, 0, 0, 120, 0, 0, 0, 0, 0, 0, 0, 5, 0, 0, 0, 37]
theorem kX12_look_0 (j : Nat) {b : UInt8} (hj : bX12_look_0[j]? = some b) : AtB cX12_look (0 + j) b := at_of32 (by decide +kernel) j hj
def bX12_look_1 : List UInt8 := [0, 0, 0, 44, 0, 0, 0, 51, 0, 0, 0, 58, 0, 0, 0, 65, 0, 0, 0, 105, 42, 180, 0, 35, 27, 46, 172, 42, 180, 0, 38, 27]
theorem kX12_look_1 (j : Nat) {b : UInt8} (hj : bX12_look_1[j]? = some b) : AtB cX12_look (32 + j) b := at_of32 (by decide +kernel) j hj
def bX12_look_2 : List UInt8 := [46, 172, 42, 180, 0, 41, 27, 46, 172, 42, 180, 0, 44, 27, 46, 172, 42, 180, 0, 35, 27, 46, 153, 0, 23, 42, 180, 0, 35, 27, 46, 6]
theorem kX12_look_2 (j : Nat) {b : UInt8} (hj : bX12_look_2[j]? = some b) : AtB cX12_look (64 + j) b := at_of32 (by decide +kernel) j hj
def bX12_look_3 : List UInt8 := [159, 0, 13, 42, 180, 0, 35, 27, 46, 5, 160, 0, 12, 42, 180, 0, 47, 27, 46, 167, 0, 4, 2, 172, 42, 180, 0, 80, 27, 51, 153, 0]
theorem kX12_look_3 (j : Nat) {b : UInt8} (hj : bX12_look_3[j]? = some b) : AtB cX12_look (96 + j) b := at_of32 (by decide +kernel) j hj
def bX12_look_4 : List UInt8 := [7, 4, 167, 0, 4, 3, 172, 42, 180, 0, 35, 27, 46, 4, 160, 0, 12, 42, 27, 28, 182, 3, 0, 167, 0, 4, 2, 172]
theorem kX12_look_4 (j : Nat) {b : UInt8} (hj : bX12_look_4[j]? = some b) : AtB cX12_look (128 + j) b := at_of32 (by decide +kernel) j hj
theorem dX12_look_0 : decode cX12_look 0 = .ok (.iload_n 1, 1) := dq_27 (kX12_look_0 0 rfl)
theorem dX12_look_1 : decode cX12_look 1 = .ok (.ifCond .lt 11, 3) := dq_155 (kX12_look_0 1 rfl) (kX12_look_0 2 rfl) (kX12_look_0 3 rfl) (by decide)
theorem dX12_look_4 : decode cX12_look 4 = .ok (.iload_n 1, 1) := dq_27 (kX12_look_0 4 rfl)
theorem dX12_look_5 : decode cX12_look 5 = .ok (.aload_n 0, 1) := dq_42 (kX12_look_0 5 rfl)
theorem dX12_look_6 : decode cX12_look 6 = .ok (.getfield 375, 3) := dq_180 (kX12_look_0 6 rfl) (kX12_look_0 7 rfl) (kX12_look_0 8 rfl) rfl
theorem dX12_look_9 : decode cX12_look 9 = .ok (.if_icmp .lt 5, 3) := dq_161 (kX12_look_0 9 rfl) (kX12_look_0 10 rfl) (kX12_look_0 11 rfl) (by decide)
theorem dX12_look_12 : decode cX12_look 12 = .ok (.iconst (-1), 1) := dq_2 (kX12_look_0 12 rfl)
theorem dX12_look_13 : decode cX12_look 13 = .ok (.ireturn, 1) := dq_172 (kX12_look_0 13 rfl)
theorem dX12_look_14 : decode cX12_look 14 = .ok (.iload_n 2, 1) := dq_28 (kX12_look_0 14 rfl)
theorem dX12_look_52 : decode cX12_look 52 = .ok (.aload_n 0, 1) := dq_42 (kX12_look_1 20 rfl)
theorem dX12_look_53 : decode cX12_look 53 = .ok (.getfield 35, 3) := dq_180 (kX12_look_1 21 rfl) (kX12_look_1 22 rfl) (kX12_look_1 23 rfl) rfl
theorem dX12_look_56 : decode cX12_look 56 = .ok (.iload_n 1, 1) := dq_27 (kX12_look_1 24 rfl)
theorem dX12_look_57 : decode cX12_look 57 = .ok (.iaload, 1) := dq_46 (kX12_look_1 25 rfl)
theorem dX12_look_58 : decode cX12_look 58 = .ok (.ireturn, 1) := dq_172 (kX12_look_1 26 rfl)
theorem dX12_look_59 : decode cX12_look 59 = .ok (.aload_n 0, 1) := dq_42 (kX12_look_1 27 rfl)
theorem dX12_look_60 : decode cX12_look 60 = .ok (.getfield 38, 3) := dq_180 (kX12_look_1 28 rfl) (kX12_look_1 29 rfl) (kX12_look_1 30 rfl) rfl
theorem dX12_look_63 : decode cX12_look 63 = .ok (.iload_n 1, 1) := dq_27 (kX12_look_1 31 rfl)
theorem dX12_look_64 : decode cX12_look 64 = .ok (.iaload, 1) := dq_46 (kX12_look_2 0 rfl)
theorem dX12_look_65 : decode cX12_look 65 = .ok (.ireturn, 1) := dq_172 (kX12_look_2 1 rfl)
theorem dX12_look_66 : decode cX12_look 66 = .ok (.aload_n 0, 1) := dq_42 (kX12_look_2 2 rfl)
theorem dX12_look_67 : decode cX12_look 67 = .ok (.getfield 41, 3) := dq_180 (kX12_look_2 3 rfl) (kX12_look_2 4 rfl) (kX12_look_2 5 rfl) rfl
theorem dX12_look_70 : decode cX12_look 70 = .ok (.iload_n 1, 1) := dq_27 (kX12_look_2 6 rfl)
theorem dX12_look_71 : decode cX12_look 71 = .ok (.iaload, 1) := dq_46 (kX12_look_2 7 rfl)
theorem dX12_look_72 : decode cX12_look 72 = .ok (.ireturn, 1) := dq_172 (kX12_look_2 8 rfl)
theorem dX12_look_73 : decode cX12_look 73 = .ok (.aload_n 0, 1) := dq_42 (kX12_look_2 9 rfl)
theorem dX12_look_74 : decode cX12_look 74 = .ok (.getfield 44, 3) := dq_180 (kX12_look_2 10 rfl) (kX12_look_2 11 rfl) (kX12_look_2 12 rfl) rfl
theorem dX12_look_77 : decode cX12_look 77 = .ok (.iload_n 1, 1) := dq_27 (kX12_look_2 13 rfl)
theorem dX12_look_78 : decode cX12_look 78 = .ok (.iaload, 1) := dq_46 (kX12_look_2 14 rfl)
theorem dX12_look_79 : decode cX12_look 79 = .ok (.ireturn, 1) := dq_172 (kX12_look_2 15 rfl)
theorem dX12_look_80 : decode cX12_look 80 = .ok (.aload_n 0, 1) := dq_42 (kX12_look_2 16 rfl)
theorem dX12_look_81 : decode cX12_look 81 = .ok (.getfield 35, 3) := dq_180 (kX12_look_2 17 rfl) (kX12_look_2 18 rfl) (kX12_look_2 19 rfl) rfl
theorem dX12_look_84 : decode cX12_look 84 = .ok (.iload_n 1, 1) := dq_27 (kX12_look_2 20 rfl)
theorem dX12_look_85 : decode cX12_look 85 = .ok (.iaload, 1) := dq_46 (kX12_look_2 21 rfl)
theorem dX12_look_86 : decode cX12_look 86 = .ok (.ifCond .eq 23, 3) := dq_153 (kX12_look_2 22 rfl) (kX12_look_2 23 rfl) (kX12_look_2 24 rfl) (by decide)
theorem dX12_look_89 : decode cX12_look 89 = .ok (.aload_n 0, 1) := dq_42 (kX12_look_2 25 rfl)
theorem dX12_look_90 : decode cX12_look 90 = .ok (.getfield 35, 3) := dq_180 (kX12_look_2 26 rfl) (kX12_look_2 27 rfl) (kX12_look_2 28 rfl) rfl
theorem dX12_look_93 : decode cX12_look 93 = .ok (.iload_n 1, 1) := dq_27 (kX12_look_2 29 rfl)
theorem dX12_look_94 : decode cX12_look 94 = .ok (.iaload, 1) := dq_46 (kX12_look_2 30 rfl)
theorem dX12_look_95 : decode cX12_look 95 = .ok (.iconst 3, 1) := dq_6 (kX12_look_2 31 rfl)
theorem dX12_look_96 : decode cX12_look 96 = .ok (.if_icmp .eq 13, 3) := dq_159 (kX12_look_3 0 rfl) (kX12_look_3 1 rfl) (kX12_look_3 2 rfl) (by decide)
theorem dX12_look_99 : decode cX12_look 99 = .ok (.aload_n 0, 1) := dq_42 (kX12_look_3 3 rfl)
theorem dX12_look_100 : decode cX12_look 100 = .ok (.getfield 35, 3) := dq_180 (kX12_look_3 4 rfl) (kX12_look_3 5 rfl) (kX12_look_3 6 rfl) rfl
theorem dX12_look_103 : decode cX12_look 103 = .ok (.iload_n 1, 1) := dq_27 (kX12_look_3 7 rfl)
theorem dX12_look_104 : decode cX12_look 104 = .ok (.iaload, 1) := dq_46 (kX12_look_3 8 rfl)
theorem dX12_look_105 : decode cX12_look 105 = .ok (.iconst 2, 1) := dq_5 (kX12_look_3 9 rfl)
theorem dX12_look_106 : decode cX12_look 106 = .ok (.if_icmp .ne 12, 3) := dq_160 (kX12_look_3 10 rfl) (kX12_look_3 11 rfl) (kX12_look_3 12 rfl) (by decide)
theorem dX12_look_109 : decode cX12_look 109 = .ok (.aload_n 0, 1) := dq_42 (kX12_look_3 13 rfl)
theorem dX12_look_110 : decode cX12_look 110 = .ok (.getfield 47, 3) := dq_180 (kX12_look_3 14 rfl) (kX12_look_3 15 rfl) (kX12_look_3 16 rfl) rfl
theorem dX12_look_113 : decode cX12_look 113 = .ok (.iload_n 1, 1) := dq_27 (kX12_look_3 17 rfl)
theorem dX12_look_114 : decode cX12_look 114 = .ok (.iaload, 1) := dq_46 (kX12_look_3 18 rfl)
theorem dX12_look_115 : decode cX12_look 115 = .ok (.goto 4, 3) := dq_167 (kX12_look_3 19 rfl) (kX12_look_3 20 rfl) (kX12_look_3 21 rfl) (by decide)
theorem dX12_look_118 : decode cX12_look 118 = .ok (.iconst (-1), 1) := dq_2 (kX12_look_3 22 rfl)
theorem dX12_look_119 : decode cX12_look 119 = .ok (.ireturn, 1) := dq_172 (kX12_look_3 23 rfl)
theorem dX12_look_120 : decode cX12_look 120 = .ok (.aload_n 0, 1) := dq_42 (kX12_look_3 24 rfl)
theorem dX12_look_121 : decode cX12_look 121 = .ok (.getfield 80, 3) := dq_180 (kX12_look_3 25 rfl) (kX12_look_3 26 rfl) (kX12_look_3 27 rfl) rfl
theorem dX12_look_124 : decode cX12_look 124 = .ok (.iload_n 1, 1) := dq_27 (kX12_look_3 28 rfl)
theorem dX12_look_125 : decode cX12_look 125 = .ok (.baload, 1) := dq_51 (kX12_look_3 29 rfl)
theorem dX12_look_126 : decode cX12_look 126 = .ok (.ifCond .eq 7, 3) := dq_153 (kX12_look_3 30 rfl) (kX12_look_3 31 rfl) (kX12_look_4 0 rfl) (by decide)
theorem dX12_look_129 : decode cX12_look 129 = .ok (.iconst 1, 1) := dq_4 (kX12_look_4 1 rfl)
theorem dX12_look_130 : decode cX12_look 130 = .ok (.goto 4, 3) := dq_167 (kX12_look_4 2 rfl) (kX12_look_4 3 rfl) (kX12_look_4 4 rfl) (by decide)
theorem dX12_look_133 : decode cX12_look 133 = .ok (.iconst 0, 1) := dq_3 (kX12_look_4 5 rfl)
theorem dX12_look_134 : decode cX12_look 134 = .ok (.ireturn, 1) := dq_172 (kX12_look_4 6 rfl)
theorem dX12_look_135 : decode cX12_look 135 = .ok (.aload_n 0, 1) := dq_42 (kX12_look_4 7 rfl)
theorem dX12_look_136 : decode cX12_look 136 = .ok (.getfield 35, 3) := dq_180 (kX12_look_4 8 rfl) (kX12_look_4 9 rfl) (kX12_look_4 10 rfl) rfl
theorem dX12_look_139 : decode cX12_look 139 = .ok (.iload_n 1, 1) := dq_27 (kX12_look_4 11 rfl)
theorem dX12_look_140 : decode cX12_look 140 = .ok (.iaload, 1) := dq_46 (kX12_look_4 12 rfl)
theorem dX12_look_141 : decode cX12_look 141 = .ok (.iconst 1, 1) := dq_4 (kX12_look_4 13 rfl)
theorem dX12_look_142 : decode cX12_look 142 = .ok (.if_icmp .ne 12, 3) := dq_160 (kX12_look_4 14 rfl) (kX12_look_4 15 rfl) (kX12_look_4 16 rfl) (by decide)
theorem dX12_look_145 : decode cX12_look 145 = .ok (.aload_n 0, 1) := dq_42 (kX12_look_4 17 rfl)
theorem dX12_look_146 : decode cX12_look 146 = .ok (.iload_n 1, 1) := dq_27 (kX12_look_4 18 rfl)
theorem dX12_look_147 : decode cX12_look 147 = .ok (.iload_n 2, 1) := dq_28 (kX12_look_4 19 rfl)
theorem dX12_look_148 : decode cX12_look 148 = .ok (.invokevirtual 768, 3) := dq_182 (kX12_look_4 20 rfl) (kX12_look_4 21 rfl) (kX12_look_4 22 rfl) rfl
theorem dX12_look_151 : decode cX12_look 151 = .ok (.goto 4, 3) := dq_167 (kX12_look_4 23 rfl) (kX12_look_4 24 rfl) (kX12_look_4 25 rfl) (by decide)
theorem dX12_look_154 : decode cX12_look 154 = .ok (.iconst (-1), 1) := dq_2 (kX12_look_4 26 rfl)
theorem dX12_look_155 : decode cX12_look 155 = .ok (.ireturn, 1) := dq_172 (kX12_look_4 27 rfl)
def LX12_look : List (Nat × Instr × Nat) := [(15, .tableswitch 120 0 5 #[37, 44, 51, 58, 65, 105], 37)]
theorem kkX12_look : chkB cX12_look LX12_look = true := by decide +kernel
theorem dX12_look_15 : decode cX12_look 15 = .ok (.tableswitch 120 0 5 #[37, 44, 51, 58, 65, 105], 37) := getB' kkX12_look 0 rfl

def bX12_lookAt_0 : List UInt8 := [28, 170, 0, 0, 0, 0, 0, 89, 0, 0, 0, 6, 0, 0, 0, 13, 0, 0, 0, 47, 0, 0, 0, 54, 0, 0, 0, 61, 0, 0, 0, 68]
theorem kX12_lookAt_0 (j : Nat) {b : UInt8} (hj : bX12_lookAt_0[j]? = some b) : AtB cX12_lookAt (0 + j) b := at_of32 (by decide +kernel) j hj
def bX12_lookAt_1 : List UInt8 := [0, 0, 0, 75, 0, 0, 0, 75, 0, 0, 0, 75, 0, 0, 0, 75, 42, 180, 0, 53, 27, 46, 172, 42, 180, 0, 56, 27, 46, 172, 42, 180]
theorem kX12_lookAt_1 (j : Nat) {b : UInt8} (hj : bX12_lookAt_1[j]? = some b) : AtB cX12_lookAt (32 + j) b := at_of32 (by decide +kernel) j hj
def bX12_lookAt_2 : List UInt8 := [0, 59, 27, 46, 172, 42, 180, 0, 62, 27, 46, 172, 42, 180, 0, 65, 7, 27, 104, 28, 96, 16, 10, 100, 46, 172, 2, 172]
theorem kX12_lookAt_2 (j : Nat) {b : UInt8} (hj : bX12_lookAt_2[j]? = some b) : AtB cX12_lookAt (64 + j) b := at_of32 (by decide +kernel) j hj
theorem dX12_lookAt_0 : decode cX12_lookAt 0 = .ok (.iload_n 2, 1) := dq_28 (kX12_lookAt_0 0 rfl)
theorem dX12_lookAt_48 : decode cX12_lookAt 48 = .ok (.aload_n 0, 1) := dq_42 (kX12_lookAt_1 16 rfl)
theorem dX12_lookAt_49 : decode cX12_lookAt 49 = .ok (.getfield 53, 3) := dq_180 (kX12_lookAt_1 17 rfl) (kX12_lookAt_1 18 rfl) (kX12_lookAt_1 19 rfl) rfl
theorem dX12_lookAt_52 : decode cX12_lookAt 52 = .ok (.iload_n 1, 1) := dq_27 (kX12_lookAt_1 20 rfl)
theorem dX12_lookAt_53 : decode cX12_lookAt 53 = .ok (.iaload, 1) := dq_46 (kX12_lookAt_1 21 rfl)
theorem dX12_lookAt_54 : decode cX12_lookAt 54 = .ok (.ireturn, 1) := dq_172 (kX12_lookAt_1 22 rfl)
theorem dX12_lookAt_55 : decode cX12_lookAt 55 = .ok (.aload_n 0, 1) := dq_42 (kX12_lookAt_1 23 rfl)
theorem dX12_lookAt_56 : decode cX12_lookAt 56 = .ok (.getfield 56, 3) := dq_180 (kX12_lookAt_1 24 rfl) (kX12_lookAt_1 25 rfl) (kX12_lookAt_1 26 rfl) rfl
theorem dX12_lookAt_59 : decode cX12_lookAt 59 = .ok (.iload_n 1, 1) := dq_27 (kX12_lookAt_1 27 rfl)
theorem dX12_lookAt_60 : decode cX12_lookAt 60 = .ok (.iaload, 1) := dq_46 (kX12_lookAt_1 28 rfl)
theorem dX12_lookAt_61 : decode cX12_lookAt 61 = .ok (.ireturn, 1) := dq_172 (kX12_lookAt_1 29 rfl)
theorem dX12_lookAt_62 : decode cX12_lookAt 62 = .ok (.aload_n 0, 1) := dq_42 (kX12_lookAt_1 30 rfl)
theorem dX12_lookAt_63 : decode cX12_lookAt 63 = .ok (.getfield 59, 3) := dq_180 (kX12_lookAt_1 31 rfl) (kX12_lookAt_2 0 rfl) (kX12_lookAt_2 1 rfl) rfl
theorem dX12_lookAt_66 : decode cX12_lookAt 66 = .ok (.iload_n 1, 1) := dq_27 (kX12_lookAt_2 2 rfl)
theorem dX12_lookAt_67 : decode cX12_lookAt 67 = .ok (.iaload, 1) := dq_46 (kX12_lookAt_2 3 rfl)
theorem dX12_lookAt_68 : decode cX12_lookAt 68 = .ok (.ireturn, 1) := dq_172 (kX12_lookAt_2 4 rfl)
theorem dX12_lookAt_69 : decode cX12_lookAt 69 = .ok (.aload_n 0, 1) := dq_42 (kX12_lookAt_2 5 rfl)
theorem dX12_lookAt_70 : decode cX12_lookAt 70 = .ok (.getfield 62, 3) := dq_180 (kX12_lookAt_2 6 rfl) (kX12_lookAt_2 7 rfl) (kX12_lookAt_2 8 rfl) rfl
theorem dX12_lookAt_73 : decode cX12_lookAt 73 = .ok (.iload_n 1, 1) := dq_27 (kX12_lookAt_2 9 rfl)
theorem dX12_lookAt_74 : decode cX12_lookAt 74 = .ok (.iaload, 1) := dq_46 (kX12_lookAt_2 10 rfl)
theorem dX12_lookAt_75 : decode cX12_lookAt 75 = .ok (.ireturn, 1) := dq_172 (kX12_lookAt_2 11 rfl)
theorem dX12_lookAt_76 : decode cX12_lookAt 76 = .ok (.aload_n 0, 1) := dq_42 (kX12_lookAt_2 12 rfl)
theorem dX12_lookAt_77 : decode cX12_lookAt 77 = .ok (.getfield 65, 3) := dq_180 (kX12_lookAt_2 13 rfl) (kX12_lookAt_2 14 rfl) (kX12_lookAt_2 15 rfl) rfl
theorem dX12_lookAt_80 : decode cX12_lookAt 80 = .ok (.iconst 4, 1) := dq_7 (kX12_lookAt_2 16 rfl)
theorem dX12_lookAt_81 : decode cX12_lookAt 81 = .ok (.iload_n 1, 1) := dq_27 (kX12_lookAt_2 17 rfl)
theorem dX12_lookAt_82 : decode cX12_lookAt 82 = .ok (.imul, 1) := dq_104 (kX12_lookAt_2 18 rfl)
theorem dX12_lookAt_83 : decode cX12_lookAt 83 = .ok (.iload_n 2, 1) := dq_28 (kX12_lookAt_2 19 rfl)
theorem dX12_lookAt_84 : decode cX12_lookAt 84 = .ok (.iadd, 1) := dq_96 (kX12_lookAt_2 20 rfl)
theorem dX12_lookAt_85 : decode cX12_lookAt 85 = .ok (.bipush 10, 2) := dq_16 (kX12_lookAt_2 21 rfl) (kX12_lookAt_2 22 rfl) (by decide)
theorem dX12_lookAt_87 : decode cX12_lookAt 87 = .ok (.isub, 1) := dq_100 (kX12_lookAt_2 23 rfl)
theorem dX12_lookAt_88 : decode cX12_lookAt 88 = .ok (.iaload, 1) := dq_46 (kX12_lookAt_2 24 rfl)
theorem dX12_lookAt_89 : decode cX12_lookAt 89 = .ok (.ireturn, 1) := dq_172 (kX12_lookAt_2 25 rfl)
theorem dX12_lookAt_90 : decode cX12_lookAt 90 = .ok (.iconst (-1), 1) := dq_2 (kX12_lookAt_2 26 rfl)
theorem dX12_lookAt_91 : decode cX12_lookAt 91 = .ok (.ireturn, 1) := dq_172 (kX12_lookAt_2 27 rfl)
def LX12_lookAt : List (Nat × Instr × Nat) := [(1, .tableswitch 89 6 13 #[47, 54, 61, 68, 75, 75, 75, 75], 47)]
theorem kkX12_lookAt : chkB cX12_lookAt LX12_lookAt = true := by decide +kernel
theorem dX12_lookAt_1 : decode cX12_lookAt 1 = .ok (.tableswitch 89 6 13 #[47, 54, 61, 68, 75, 75, 75, 75], 47) := getB' kkX12_lookAt 0 rfl

def bX12_at_0 : List UInt8 := [42, 27, 182, 2, 106, 154, 0, 5, 2, 172, 28, 170, 0, 0, 0, 68, 0, 0, 0, 0, 0, 0, 0, 4, 0, 0, 0, 33, 0, 0, 0, 40]
theorem kX12_at_0 (j : Nat) {b : UInt8} (hj : bX12_at_0[j]? = some b) : AtB cX12_at (0 + j) b := at_of32 (by decide +kernel) j hj
def bX12_at_1 : List UInt8 := [0, 0, 0, 47, 0, 0, 0, 54, 0, 0, 0, 61, 42, 180, 0, 217, 27, 46, 172, 42, 180, 0, 220, 27, 46, 172, 42, 180, 0, 223, 27, 46]
theorem kX12_at_1 (j : Nat) {b : UInt8} (hj : bX12_at_1[j]? = some b) : AtB cX12_at (32 + j) b := at_of32 (by decide +kernel) j hj
def bX12_at_2 : List UInt8 := [172, 42, 180, 0, 226, 27, 46, 172, 42, 180, 0, 229, 27, 46, 172, 2, 172]
theorem kX12_at_2 (j : Nat) {b : UInt8} (hj : bX12_at_2[j]? = some b) : AtB cX12_at (64 + j) b := at_of32 (by decide +kernel) j hj
theorem dX12_at_0 : decode cX12_at 0 = .ok (.aload_n 0, 1) := dq_42 (kX12_at_0 0 rfl)
theorem dX12_at_1 : decode cX12_at 1 = .ok (.iload_n 1, 1) := dq_27 (kX12_at_0 1 rfl)
theorem dX12_at_2 : decode cX12_at 2 = .ok (.invokevirtual 618, 3) := dq_182 (kX12_at_0 2 rfl) (kX12_at_0 3 rfl) (kX12_at_0 4 rfl) rfl
theorem dX12_at_5 : decode cX12_at 5 = .ok (.ifCond .ne 5, 3) := dq_154 (kX12_at_0 5 rfl) (kX12_at_0 6 rfl) (kX12_at_0 7 rfl) (by decide)
theorem dX12_at_8 : decode cX12_at 8 = .ok (.iconst (-1), 1) := dq_2 (kX12_at_0 8 rfl)
theorem dX12_at_9 : decode cX12_at 9 = .ok (.ireturn, 1) := dq_172 (kX12_at_0 9 rfl)
theorem dX12_at_10 : decode cX12_at 10 = .ok (.iload_n 2, 1) := dq_28 (kX12_at_0 10 rfl)
theorem dX12_at_44 : decode cX12_at 44 = .ok (.aload_n 0, 1) := dq_42 (kX12_at_1 12 rfl)
theorem dX12_at_45 : decode cX12_at 45 = .ok (.getfield 217, 3) := dq_180 (kX12_at_1 13 rfl) (kX12_at_1 14 rfl) (kX12_at_1 15 rfl) rfl
theorem dX12_at_48 : decode cX12_at 48 = .ok (.iload_n 1, 1) := dq_27 (kX12_at_1 16 rfl)
theorem dX12_at_49 : decode cX12_at 49 = .ok (.iaload, 1) := dq_46 (kX12_at_1 17 rfl)
theorem dX12_at_50 : decode cX12_at 50 = .ok (.ireturn, 1) := dq_172 (kX12_at_1 18 rfl)
theorem dX12_at_51 : decode cX12_at 51 = .ok (.aload_n 0, 1) := dq_42 (kX12_at_1 19 rfl)
theorem dX12_at_52 : decode cX12_at 52 = .ok (.getfield 220, 3) := dq_180 (kX12_at_1 20 rfl) (kX12_at_1 21 rfl) (kX12_at_1 22 rfl) rfl
theorem dX12_at_55 : decode cX12_at 55 = .ok (.iload_n 1, 1) := dq_27 (kX12_at_1 23 rfl)
theorem dX12_at_56 : decode cX12_at 56 = .ok (.iaload, 1) := dq_46 (kX12_at_1 24 rfl)
theorem dX12_at_57 : decode cX12_at 57 = .ok (.ireturn, 1) := dq_172 (kX12_at_1 25 rfl)
theorem dX12_at_58 : decode cX12_at 58 = .ok (.aload_n 0, 1) := dq_42 (kX12_at_1 26 rfl)
theorem dX12_at_59 : decode cX12_at 59 = .ok (.getfield 223, 3) := dq_180 (kX12_at_1 27 rfl) (kX12_at_1 28 rfl) (kX12_at_1 29 rfl) rfl
theorem dX12_at_62 : decode cX12_at 62 = .ok (.iload_n 1, 1) := dq_27 (kX12_at_1 30 rfl)
theorem dX12_at_63 : decode cX12_at 63 = .ok (.iaload, 1) := dq_46 (kX12_at_1 31 rfl)
theorem dX12_at_64 : decode cX12_at 64 = .ok (.ireturn, 1) := dq_172 (kX12_at_2 0 rfl)
theorem dX12_at_65 : decode cX12_at 65 = .ok (.aload_n 0, 1) := dq_42 (kX12_at_2 1 rfl)
theorem dX12_at_66 : decode cX12_at 66 = .ok (.getfield 226, 3) := dq_180 (kX12_at_2 2 rfl) (kX12_at_2 3 rfl) (kX12_at_2 4 rfl) rfl
theorem dX12_at_69 : decode cX12_at 69 = .ok (.iload_n 1, 1) := dq_27 (kX12_at_2 5 rfl)
theorem dX12_at_70 : decode cX12_at 70 = .ok (.iaload, 1) := dq_46 (kX12_at_2 6 rfl)
theorem dX12_at_71 : decode cX12_at 71 = .ok (.ireturn, 1) := dq_172 (kX12_at_2 7 rfl)
theorem dX12_at_72 : decode cX12_at 72 = .ok (.aload_n 0, 1) := dq_42 (kX12_at_2 8 rfl)
theorem dX12_at_73 : decode cX12_at 73 = .ok (.getfield 229, 3) := dq_180 (kX12_at_2 9 rfl) (kX12_at_2 10 rfl) (kX12_at_2 11 rfl) rfl
theorem dX12_at_76 : decode cX12_at 76 = .ok (.iload_n 1, 1) := dq_27 (kX12_at_2 12 rfl)
theorem dX12_at_77 : decode cX12_at 77 = .ok (.iaload, 1) := dq_46 (kX12_at_2 13 rfl)
theorem dX12_at_78 : decode cX12_at 78 = .ok (.ireturn, 1) := dq_172 (kX12_at_2 14 rfl)
theorem dX12_at_79 : decode cX12_at 79 = .ok (.iconst (-1), 1) := dq_2 (kX12_at_2 15 rfl)
theorem dX12_at_80 : decode cX12_at 80 = .ok (.ireturn, 1) := dq_172 (kX12_at_2 16 rfl)
def LX12_at : List (Nat × Instr × Nat) := [(11, .tableswitch 68 0 4 #[33, 40, 47, 54, 61], 33)]
theorem kkX12_at : chkB cX12_at LX12_at = true := by decide +kernel
theorem dX12_at_11 : decode cX12_at 11 = .ok (.tableswitch 68 0 4 #[33, 40, 47, 54, 61], 33) := getB' kkX12_at 0 rfl

def bX12_about_0 : List UInt8 := [42, 27, 182, 2, 54, 154, 0, 5, 2, 172, 28, 170, 0, 0, 0, 134, 0, 0, 0, 0, 0, 0, 0, 10, 0, 0, 0, 57, 0, 0, 0, 64]
theorem kX12_about_0 (j : Nat) {b : UInt8} (hj : bX12_about_0[j]? = some b) : AtB cX12_about (0 + j) b := at_of32 (by decide +kernel) j hj
def bX12_about_1 : List UInt8 := [0, 0, 0, 71, 0, 0, 0, 78, 0, 0, 0, 85, 0, 0, 0, 92, 0, 0, 0, 99, 0, 0, 0, 106, 0, 0, 0, 113, 0, 0, 0, 120]
theorem kX12_about_1 (j : Nat) {b : UInt8} (hj : bX12_about_1[j]? = some b) : AtB cX12_about (32 + j) b := at_of32 (by decide +kernel) j hj
def bX12_about_2 : List UInt8 := [0, 0, 0, 127, 42, 180, 0, 163, 27, 46, 172, 42, 180, 0, 166, 27, 46, 172, 42, 180, 0, 169, 27, 46, 172, 42, 180, 0, 172, 27, 46, 172]
theorem kX12_about_2 (j : Nat) {b : UInt8} (hj : bX12_about_2[j]? = some b) : AtB cX12_about (64 + j) b := at_of32 (by decide +kernel) j hj
def bX12_about_3 : List UInt8 := [42, 180, 0, 175, 27, 46, 172, 42, 180, 0, 184, 27, 46, 172, 42, 180, 0, 187, 27, 46, 172, 42, 180, 0, 190, 27, 46, 172, 42, 180, 0, 193]
theorem kX12_about_3 (j : Nat) {b : UInt8} (hj : bX12_about_3[j]? = some b) : AtB cX12_about (96 + j) b := at_of32 (by decide +kernel) j hj
def bX12_about_4 : List UInt8 := [27, 46, 172, 42, 180, 0, 196, 27, 46, 172, 42, 180, 0, 199, 27, 46, 172, 2, 172]
theorem kX12_about_4 (j : Nat) {b : UInt8} (hj : bX12_about_4[j]? = some b) : AtB cX12_about (128 + j) b := at_of32 (by decide +kernel) j hj
theorem dX12_about_0 : decode cX12_about 0 = .ok (.aload_n 0, 1) := dq_42 (kX12_about_0 0 rfl)
theorem dX12_about_1 : decode cX12_about 1 = .ok (.iload_n 1, 1) := dq_27 (kX12_about_0 1 rfl)
theorem dX12_about_2 : decode cX12_about 2 = .ok (.invokevirtual 566, 3) := dq_182 (kX12_about_0 2 rfl) (kX12_about_0 3 rfl) (kX12_about_0 4 rfl) rfl
theorem dX12_about_5 : decode cX12_about 5 = .ok (.ifCond .ne 5, 3) := dq_154 (kX12_about_0 5 rfl) (kX12_about_0 6 rfl) (kX12_about_0 7 rfl) (by decide)
theorem dX12_about_8 : decode cX12_about 8 = .ok (.iconst (-1), 1) := dq_2 (kX12_about_0 8 rfl)
theorem dX12_about_9 : decode cX12_about 9 = .ok (.ireturn, 1) := dq_172 (kX12_about_0 9 rfl)
theorem dX12_about_10 : decode cX12_about 10 = .ok (.iload_n 2, 1) := dq_28 (kX12_about_0 10 rfl)
theorem dX12_about_68 : decode cX12_about 68 = .ok (.aload_n 0, 1) := dq_42 (kX12_about_2 4 rfl)
theorem dX12_about_69 : decode cX12_about 69 = .ok (.getfield 163, 3) := dq_180 (kX12_about_2 5 rfl) (kX12_about_2 6 rfl) (kX12_about_2 7 rfl) rfl
theorem dX12_about_72 : decode cX12_about 72 = .ok (.iload_n 1, 1) := dq_27 (kX12_about_2 8 rfl)
theorem dX12_about_73 : decode cX12_about 73 = .ok (.iaload, 1) := dq_46 (kX12_about_2 9 rfl)
theorem dX12_about_74 : decode cX12_about 74 = .ok (.ireturn, 1) := dq_172 (kX12_about_2 10 rfl)
theorem dX12_about_75 : decode cX12_about 75 = .ok (.aload_n 0, 1) := dq_42 (kX12_about_2 11 rfl)
theorem dX12_about_76 : decode cX12_about 76 = .ok (.getfield 166, 3) := dq_180 (kX12_about_2 12 rfl) (kX12_about_2 13 rfl) (kX12_about_2 14 rfl) rfl
theorem dX12_about_79 : decode cX12_about 79 = .ok (.iload_n 1, 1) := dq_27 (kX12_about_2 15 rfl)
theorem dX12_about_80 : decode cX12_about 80 = .ok (.iaload, 1) := dq_46 (kX12_about_2 16 rfl)
theorem dX12_about_81 : decode cX12_about 81 = .ok (.ireturn, 1) := dq_172 (kX12_about_2 17 rfl)
theorem dX12_about_82 : decode cX12_about 82 = .ok (.aload_n 0, 1) := dq_42 (kX12_about_2 18 rfl)
theorem dX12_about_83 : decode cX12_about 83 = .ok (.getfield 169, 3) := dq_180 (kX12_about_2 19 rfl) (kX12_about_2 20 rfl) (kX12_about_2 21 rfl) rfl
theorem dX12_about_86 : decode cX12_about 86 = .ok (.iload_n 1, 1) := dq_27 (kX12_about_2 22 rfl)
theorem dX12_about_87 : decode cX12_about 87 = .ok (.iaload, 1) := dq_46 (kX12_about_2 23 rfl)
theorem dX12_about_88 : decode cX12_about 88 = .ok (.ireturn, 1) := dq_172 (kX12_about_2 24 rfl)
theorem dX12_about_89 : decode cX12_about 89 = .ok (.aload_n 0, 1) := dq_42 (kX12_about_2 25 rfl)
theorem dX12_about_90 : decode cX12_about 90 = .ok (.getfield 172, 3) := dq_180 (kX12_about_2 26 rfl) (kX12_about_2 27 rfl) (kX12_about_2 28 rfl) rfl
theorem dX12_about_93 : decode cX12_about 93 = .ok (.iload_n 1, 1) := dq_27 (kX12_about_2 29 rfl)
theorem dX12_about_94 : decode cX12_about 94 = .ok (.iaload, 1) := dq_46 (kX12_about_2 30 rfl)
theorem dX12_about_95 : decode cX12_about 95 = .ok (.ireturn, 1) := dq_172 (kX12_about_2 31 rfl)
theorem dX12_about_96 : decode cX12_about 96 = .ok (.aload_n 0, 1) := dq_42 (kX12_about_3 0 rfl)
theorem dX12_about_97 : decode cX12_about 97 = .ok (.getfield 175, 3) := dq_180 (kX12_about_3 1 rfl) (kX12_about_3 2 rfl) (kX12_about_3 3 rfl) rfl
theorem dX12_about_100 : decode cX12_about 100 = .ok (.iload_n 1, 1) := dq_27 (kX12_about_3 4 rfl)
theorem dX12_about_101 : decode cX12_about 101 = .ok (.iaload, 1) := dq_46 (kX12_about_3 5 rfl)
theorem dX12_about_102 : decode cX12_about 102 = .ok (.ireturn, 1) := dq_172 (kX12_about_3 6 rfl)
theorem dX12_about_103 : decode cX12_about 103 = .ok (.aload_n 0, 1) := dq_42 (kX12_about_3 7 rfl)
theorem dX12_about_104 : decode cX12_about 104 = .ok (.getfield 184, 3) := dq_180 (kX12_about_3 8 rfl) (kX12_about_3 9 rfl) (kX12_about_3 10 rfl) rfl
theorem dX12_about_107 : decode cX12_about 107 = .ok (.iload_n 1, 1) := dq_27 (kX12_about_3 11 rfl)
theorem dX12_about_108 : decode cX12_about 108 = .ok (.iaload, 1) := dq_46 (kX12_about_3 12 rfl)
theorem dX12_about_109 : decode cX12_about 109 = .ok (.ireturn, 1) := dq_172 (kX12_about_3 13 rfl)
theorem dX12_about_110 : decode cX12_about 110 = .ok (.aload_n 0, 1) := dq_42 (kX12_about_3 14 rfl)
theorem dX12_about_111 : decode cX12_about 111 = .ok (.getfield 187, 3) := dq_180 (kX12_about_3 15 rfl) (kX12_about_3 16 rfl) (kX12_about_3 17 rfl) rfl
theorem dX12_about_114 : decode cX12_about 114 = .ok (.iload_n 1, 1) := dq_27 (kX12_about_3 18 rfl)
theorem dX12_about_115 : decode cX12_about 115 = .ok (.iaload, 1) := dq_46 (kX12_about_3 19 rfl)
theorem dX12_about_116 : decode cX12_about 116 = .ok (.ireturn, 1) := dq_172 (kX12_about_3 20 rfl)
theorem dX12_about_117 : decode cX12_about 117 = .ok (.aload_n 0, 1) := dq_42 (kX12_about_3 21 rfl)
theorem dX12_about_118 : decode cX12_about 118 = .ok (.getfield 190, 3) := dq_180 (kX12_about_3 22 rfl) (kX12_about_3 23 rfl) (kX12_about_3 24 rfl) rfl
theorem dX12_about_121 : decode cX12_about 121 = .ok (.iload_n 1, 1) := dq_27 (kX12_about_3 25 rfl)
theorem dX12_about_122 : decode cX12_about 122 = .ok (.iaload, 1) := dq_46 (kX12_about_3 26 rfl)
theorem dX12_about_123 : decode cX12_about 123 = .ok (.ireturn, 1) := dq_172 (kX12_about_3 27 rfl)
theorem dX12_about_124 : decode cX12_about 124 = .ok (.aload_n 0, 1) := dq_42 (kX12_about_3 28 rfl)
theorem dX12_about_125 : decode cX12_about 125 = .ok (.getfield 193, 3) := dq_180 (kX12_about_3 29 rfl) (kX12_about_3 30 rfl) (kX12_about_3 31 rfl) rfl
theorem dX12_about_128 : decode cX12_about 128 = .ok (.iload_n 1, 1) := dq_27 (kX12_about_4 0 rfl)
theorem dX12_about_129 : decode cX12_about 129 = .ok (.iaload, 1) := dq_46 (kX12_about_4 1 rfl)
theorem dX12_about_130 : decode cX12_about 130 = .ok (.ireturn, 1) := dq_172 (kX12_about_4 2 rfl)
theorem dX12_about_131 : decode cX12_about 131 = .ok (.aload_n 0, 1) := dq_42 (kX12_about_4 3 rfl)
theorem dX12_about_132 : decode cX12_about 132 = .ok (.getfield 196, 3) := dq_180 (kX12_about_4 4 rfl) (kX12_about_4 5 rfl) (kX12_about_4 6 rfl) rfl
theorem dX12_about_135 : decode cX12_about 135 = .ok (.iload_n 1, 1) := dq_27 (kX12_about_4 7 rfl)
theorem dX12_about_136 : decode cX12_about 136 = .ok (.iaload, 1) := dq_46 (kX12_about_4 8 rfl)
theorem dX12_about_137 : decode cX12_about 137 = .ok (.ireturn, 1) := dq_172 (kX12_about_4 9 rfl)
theorem dX12_about_138 : decode cX12_about 138 = .ok (.aload_n 0, 1) := dq_42 (kX12_about_4 10 rfl)
theorem dX12_about_139 : decode cX12_about 139 = .ok (.getfield 199, 3) := dq_180 (kX12_about_4 11 rfl) (kX12_about_4 12 rfl) (kX12_about_4 13 rfl) rfl
theorem dX12_about_142 : decode cX12_about 142 = .ok (.iload_n 1, 1) := dq_27 (kX12_about_4 14 rfl)
theorem dX12_about_143 : decode cX12_about 143 = .ok (.iaload, 1) := dq_46 (kX12_about_4 15 rfl)
theorem dX12_about_144 : decode cX12_about 144 = .ok (.ireturn, 1) := dq_172 (kX12_about_4 16 rfl)
theorem dX12_about_145 : decode cX12_about 145 = .ok (.iconst (-1), 1) := dq_2 (kX12_about_4 17 rfl)
theorem dX12_about_146 : decode cX12_about 146 = .ok (.ireturn, 1) := dq_172 (kX12_about_4 18 rfl)
def LX12_about : List (Nat × Instr × Nat) := [(11, .tableswitch 134 0 10 #[57, 64, 71, 78, 85, 92, 99, 106, 113, 120, 127], 57)]
theorem kkX12_about : chkB cX12_about LX12_about = true := by decide +kernel
theorem dX12_about_11 : decode cX12_about 11 = .ok (.tableswitch 134 0 10 #[57, 64, 71, 78, 85, 92, 99, 106, 113, 120, 127], 57) := getB' kkX12_about 0 rfl

def bX12_sum_0 : List UInt8 := [27, 170, 0, 0, 0, 0, 0, 87, 0, 0, 0, 0, 0, 0, 0, 7, 0, 0, 0, 47, 0, 0, 0, 52, 0, 0, 0, 57, 0, 0, 0, 62]
theorem kX12_sum_0 (j : Nat) {b : UInt8} (hj : bX12_sum_0[j]? = some b) : AtB cX12_sum (0 + j) b := at_of32 (by decide +kernel) j hj
def bX12_sum_1 : List UInt8 := [0, 0, 0, 67, 0, 0, 0, 72, 0, 0, 0, 77, 0, 0, 0, 82, 42, 180, 1, 173, 173, 42, 180, 2, 142, 173, 42, 180, 2, 145, 173, 42]
theorem kX12_sum_1 (j : Nat) {b : UInt8} (hj : bX12_sum_1[j]? = some b) : AtB cX12_sum (32 + j) b := at_of32 (by decide +kernel) j hj
def bX12_sum_2 : List UInt8 := [180, 2, 120, 173, 42, 180, 2, 167, 173, 42, 180, 2, 170, 173, 42, 180, 2, 123, 173, 42, 180, 2, 161, 173, 27, 16, 10, 16, 9, 42, 180, 1]
theorem kX12_sum_2 (j : Nat) {b : UInt8} (hj : bX12_sum_2[j]? = some b) : AtB cX12_sum (64 + j) b := at_of32 (by decide +kernel) j hj
def bX12_sum_3 : List UInt8 := [137, 96, 184, 1, 115, 153, 0, 14, 42, 180, 0, 32, 27, 16, 10, 100, 46, 133, 173, 27, 16, 20, 16, 19, 42, 180, 2, 155, 96, 184, 1, 115]
theorem kX12_sum_3 (j : Nat) {b : UInt8} (hj : bX12_sum_3[j]? = some b) : AtB cX12_sum (96 + j) b := at_of32 (by decide +kernel) j hj
def bX12_sum_4 : List UInt8 := [153, 0, 16, 42, 180, 1, 42, 27, 16, 20, 100, 46, 133, 167, 0, 6, 20, 3, 3, 173]
theorem kX12_sum_4 (j : Nat) {b : UInt8} (hj : bX12_sum_4[j]? = some b) : AtB cX12_sum (128 + j) b := at_of32 (by decide +kernel) j hj
theorem dX12_sum_0 : decode cX12_sum 0 = .ok (.iload_n 1, 1) := dq_27 (kX12_sum_0 0 rfl)
theorem dX12_sum_48 : decode cX12_sum 48 = .ok (.aload_n 0, 1) := dq_42 (kX12_sum_1 16 rfl)
theorem dX12_sum_49 : decode cX12_sum 49 = .ok (.getfield 429, 3) := dq_180 (kX12_sum_1 17 rfl) (kX12_sum_1 18 rfl) (kX12_sum_1 19 rfl) rfl
theorem dX12_sum_52 : decode cX12_sum 52 = .ok (.lreturn, 1) := dq_173 (kX12_sum_1 20 rfl)
theorem dX12_sum_53 : decode cX12_sum 53 = .ok (.aload_n 0, 1) := dq_42 (kX12_sum_1 21 rfl)
theorem dX12_sum_54 : decode cX12_sum 54 = .ok (.getfield 654, 3) := dq_180 (kX12_sum_1 22 rfl) (kX12_sum_1 23 rfl) (kX12_sum_1 24 rfl) rfl
theorem dX12_sum_57 : decode cX12_sum 57 = .ok (.lreturn, 1) := dq_173 (kX12_sum_1 25 rfl)
theorem dX12_sum_58 : decode cX12_sum 58 = .ok (.aload_n 0, 1) := dq_42 (kX12_sum_1 26 rfl)
theorem dX12_sum_59 : decode cX12_sum 59 = .ok (.getfield 657, 3) := dq_180 (kX12_sum_1 27 rfl) (kX12_sum_1 28 rfl) (kX12_sum_1 29 rfl) rfl
theorem dX12_sum_62 : decode cX12_sum 62 = .ok (.lreturn, 1) := dq_173 (kX12_sum_1 30 rfl)
theorem dX12_sum_63 : decode cX12_sum 63 = .ok (.aload_n 0, 1) := dq_42 (kX12_sum_1 31 rfl)
theorem dX12_sum_64 : decode cX12_sum 64 = .ok (.getfield 632, 3) := dq_180 (kX12_sum_2 0 rfl) (kX12_sum_2 1 rfl) (kX12_sum_2 2 rfl) rfl
theorem dX12_sum_67 : decode cX12_sum 67 = .ok (.lreturn, 1) := dq_173 (kX12_sum_2 3 rfl)
theorem dX12_sum_68 : decode cX12_sum 68 = .ok (.aload_n 0, 1) := dq_42 (kX12_sum_2 4 rfl)
theorem dX12_sum_69 : decode cX12_sum 69 = .ok (.getfield 679, 3) := dq_180 (kX12_sum_2 5 rfl) (kX12_sum_2 6 rfl) (kX12_sum_2 7 rfl) rfl
theorem dX12_sum_72 : decode cX12_sum 72 = .ok (.lreturn, 1) := dq_173 (kX12_sum_2 8 rfl)
theorem dX12_sum_73 : decode cX12_sum 73 = .ok (.aload_n 0, 1) := dq_42 (kX12_sum_2 9 rfl)
theorem dX12_sum_74 : decode cX12_sum 74 = .ok (.getfield 682, 3) := dq_180 (kX12_sum_2 10 rfl) (kX12_sum_2 11 rfl) (kX12_sum_2 12 rfl) rfl
theorem dX12_sum_77 : decode cX12_sum 77 = .ok (.lreturn, 1) := dq_173 (kX12_sum_2 13 rfl)
theorem dX12_sum_78 : decode cX12_sum 78 = .ok (.aload_n 0, 1) := dq_42 (kX12_sum_2 14 rfl)
theorem dX12_sum_79 : decode cX12_sum 79 = .ok (.getfield 635, 3) := dq_180 (kX12_sum_2 15 rfl) (kX12_sum_2 16 rfl) (kX12_sum_2 17 rfl) rfl
theorem dX12_sum_82 : decode cX12_sum 82 = .ok (.lreturn, 1) := dq_173 (kX12_sum_2 18 rfl)
theorem dX12_sum_83 : decode cX12_sum 83 = .ok (.aload_n 0, 1) := dq_42 (kX12_sum_2 19 rfl)
theorem dX12_sum_84 : decode cX12_sum 84 = .ok (.getfield 673, 3) := dq_180 (kX12_sum_2 20 rfl) (kX12_sum_2 21 rfl) (kX12_sum_2 22 rfl) rfl
theorem dX12_sum_87 : decode cX12_sum 87 = .ok (.lreturn, 1) := dq_173 (kX12_sum_2 23 rfl)
theorem dX12_sum_88 : decode cX12_sum 88 = .ok (.iload_n 1, 1) := dq_27 (kX12_sum_2 24 rfl)
theorem dX12_sum_89 : decode cX12_sum 89 = .ok (.bipush 10, 2) := dq_16 (kX12_sum_2 25 rfl) (kX12_sum_2 26 rfl) (by decide)
theorem dX12_sum_91 : decode cX12_sum 91 = .ok (.bipush 9, 2) := dq_16 (kX12_sum_2 27 rfl) (kX12_sum_2 28 rfl) (by decide)
theorem dX12_sum_93 : decode cX12_sum 93 = .ok (.aload_n 0, 1) := dq_42 (kX12_sum_2 29 rfl)
theorem dX12_sum_94 : decode cX12_sum 94 = .ok (.getfield 393, 3) := dq_180 (kX12_sum_2 30 rfl) (kX12_sum_2 31 rfl) (kX12_sum_3 0 rfl) rfl
theorem dX12_sum_97 : decode cX12_sum 97 = .ok (.iadd, 1) := dq_96 (kX12_sum_3 1 rfl)
theorem dX12_sum_98 : decode cX12_sum 98 = .ok (.invokestatic 371, 3) := dq_184 (kX12_sum_3 2 rfl) (kX12_sum_3 3 rfl) (kX12_sum_3 4 rfl) rfl
theorem dX12_sum_101 : decode cX12_sum 101 = .ok (.ifCond .eq 14, 3) := dq_153 (kX12_sum_3 5 rfl) (kX12_sum_3 6 rfl) (kX12_sum_3 7 rfl) (by decide)
theorem dX12_sum_104 : decode cX12_sum 104 = .ok (.aload_n 0, 1) := dq_42 (kX12_sum_3 8 rfl)
theorem dX12_sum_105 : decode cX12_sum 105 = .ok (.getfield 32, 3) := dq_180 (kX12_sum_3 9 rfl) (kX12_sum_3 10 rfl) (kX12_sum_3 11 rfl) rfl
theorem dX12_sum_108 : decode cX12_sum 108 = .ok (.iload_n 1, 1) := dq_27 (kX12_sum_3 12 rfl)
theorem dX12_sum_109 : decode cX12_sum 109 = .ok (.bipush 10, 2) := dq_16 (kX12_sum_3 13 rfl) (kX12_sum_3 14 rfl) (by decide)
theorem dX12_sum_111 : decode cX12_sum 111 = .ok (.isub, 1) := dq_100 (kX12_sum_3 15 rfl)
theorem dX12_sum_112 : decode cX12_sum 112 = .ok (.iaload, 1) := dq_46 (kX12_sum_3 16 rfl)
theorem dX12_sum_113 : decode cX12_sum 113 = .ok (.i2l, 1) := dq_133 (kX12_sum_3 17 rfl)
theorem dX12_sum_114 : decode cX12_sum 114 = .ok (.lreturn, 1) := dq_173 (kX12_sum_3 18 rfl)
theorem dX12_sum_115 : decode cX12_sum 115 = .ok (.iload_n 1, 1) := dq_27 (kX12_sum_3 19 rfl)
theorem dX12_sum_116 : decode cX12_sum 116 = .ok (.bipush 20, 2) := dq_16 (kX12_sum_3 20 rfl) (kX12_sum_3 21 rfl) (by decide)
theorem dX12_sum_118 : decode cX12_sum 118 = .ok (.bipush 19, 2) := dq_16 (kX12_sum_3 22 rfl) (kX12_sum_3 23 rfl) (by decide)
theorem dX12_sum_120 : decode cX12_sum 120 = .ok (.aload_n 0, 1) := dq_42 (kX12_sum_3 24 rfl)
theorem dX12_sum_121 : decode cX12_sum 121 = .ok (.getfield 667, 3) := dq_180 (kX12_sum_3 25 rfl) (kX12_sum_3 26 rfl) (kX12_sum_3 27 rfl) rfl
theorem dX12_sum_124 : decode cX12_sum 124 = .ok (.iadd, 1) := dq_96 (kX12_sum_3 28 rfl)
theorem dX12_sum_125 : decode cX12_sum 125 = .ok (.invokestatic 371, 3) := dq_184 (kX12_sum_3 29 rfl) (kX12_sum_3 30 rfl) (kX12_sum_3 31 rfl) rfl
theorem dX12_sum_128 : decode cX12_sum 128 = .ok (.ifCond .eq 16, 3) := dq_153 (kX12_sum_4 0 rfl) (kX12_sum_4 1 rfl) (kX12_sum_4 2 rfl) (by decide)
theorem dX12_sum_131 : decode cX12_sum 131 = .ok (.aload_n 0, 1) := dq_42 (kX12_sum_4 3 rfl)
theorem dX12_sum_132 : decode cX12_sum 132 = .ok (.getfield 298, 3) := dq_180 (kX12_sum_4 4 rfl) (kX12_sum_4 5 rfl) (kX12_sum_4 6 rfl) rfl
theorem dX12_sum_135 : decode cX12_sum 135 = .ok (.iload_n 1, 1) := dq_27 (kX12_sum_4 7 rfl)
theorem dX12_sum_136 : decode cX12_sum 136 = .ok (.bipush 20, 2) := dq_16 (kX12_sum_4 8 rfl) (kX12_sum_4 9 rfl) (by decide)
theorem dX12_sum_138 : decode cX12_sum 138 = .ok (.isub, 1) := dq_100 (kX12_sum_4 10 rfl)
theorem dX12_sum_139 : decode cX12_sum 139 = .ok (.iaload, 1) := dq_46 (kX12_sum_4 11 rfl)
theorem dX12_sum_140 : decode cX12_sum 140 = .ok (.i2l, 1) := dq_133 (kX12_sum_4 12 rfl)
theorem dX12_sum_141 : decode cX12_sum 141 = .ok (.goto 6, 3) := dq_167 (kX12_sum_4 13 rfl) (kX12_sum_4 14 rfl) (kX12_sum_4 15 rfl) (by decide)
theorem dX12_sum_144 : decode cX12_sum 144 = .ok (.ldc2_w 771, 3) := dq_20 (kX12_sum_4 16 rfl) (kX12_sum_4 17 rfl) (kX12_sum_4 18 rfl) rfl
theorem dX12_sum_147 : decode cX12_sum 147 = .ok (.lreturn, 1) := dq_173 (kX12_sum_4 19 rfl)
def LX12_sum : List (Nat × Instr × Nat) := [(1, .tableswitch 87 0 7 #[47, 52, 57, 62, 67, 72, 77, 82], 47)]
theorem kkX12_sum : chkB cX12_sum LX12_sum = true := by decide +kernel
theorem dX12_sum_1 : decode cX12_sum 1 = .ok (.tableswitch 87 0 7 #[47, 52, 57, 62, 67, 72, 77, 82], 47) := getB' kkX12_sum 0 rfl

def bX12_count_0 : List UInt8 := [3, 61, 27, 170, 0, 0, 0, 196, 0, 0, 0, 0, 0, 0, 0, 16, 0, 0, 0, 81, 0, 0, 0, 86, 0, 0, 0, 91, 0, 0, 0, 96]
theorem kX12_count_0 (j : Nat) {b : UInt8} (hj : bX12_count_0[j]? = some b) : AtB cX12_count (0 + j) b := at_of32 (by decide +kernel) j hj
def bX12_count_1 : List UInt8 := [0, 0, 0, 101, 0, 0, 0, 106, 0, 0, 0, 111, 0, 0, 0, 116, 0, 0, 0, 121, 0, 0, 0, 126, 0, 0, 0, 161, 0, 0, 0, 166]
theorem kX12_count_1 (j : Nat) {b : UInt8} (hj : bX12_count_1[j]? = some b) : AtB cX12_count (32 + j) b := at_of32 (by decide +kernel) j hj
def bX12_count_2 : List UInt8 := [0, 0, 0, 171, 0, 0, 0, 176, 0, 0, 0, 181, 0, 0, 0, 186, 0, 0, 0, 191, 42, 180, 1, 140, 172, 42, 180, 1, 109, 172, 42, 180]
theorem kX12_count_2 (j : Nat) {b : UInt8} (hj : bX12_count_2[j]? = some b) : AtB cX12_count (64 + j) b := at_of32 (by decide +kernel) j hj
def bX12_count_3 : List UInt8 := [1, 112, 172, 42, 180, 1, 137, 172, 42, 180, 1, 119, 172, 42, 180, 2, 23, 172, 42, 180, 2, 35, 172, 42, 180, 1, 122, 172, 42, 180, 2, 100]
theorem kX12_count_3 (j : Nat) {b : UInt8} (hj : bX12_count_3[j]? = some b) : AtB cX12_count (96 + j) b := at_of32 (by decide +kernel) j hj
def bX12_count_4 : List UInt8 := [172, 3, 62, 29, 42, 180, 2, 136, 162, 0, 26, 28, 42, 180, 1, 3, 29, 51, 153, 0, 7, 4, 167, 0, 4, 3, 96, 61, 132, 3, 1, 167]
theorem kX12_count_4 (j : Nat) {b : UInt8} (hj : bX12_count_4[j]? = some b) : AtB cX12_count (128 + j) b := at_of32 (by decide +kernel) j hj
def bX12_count_5 : List UInt8 := [255, 228, 28, 172, 42, 180, 2, 148, 172, 42, 180, 2, 155, 172, 42, 180, 2, 197, 172, 42, 180, 2, 206, 172, 42, 180, 2, 224, 172, 42, 180, 2]
theorem kX12_count_5 (j : Nat) {b : UInt8} (hj : bX12_count_5[j]? = some b) : AtB cX12_count (160 + j) b := at_of32 (by decide +kernel) j hj
def bX12_count_6 : List UInt8 := [249, 172, 42, 180, 1, 180, 172, 27, 16, 20, 16, 19, 42, 180, 1, 137, 96, 184, 1, 115, 153, 0, 15, 42, 180, 0, 29, 27, 16, 20, 100, 46]
theorem kX12_count_6 (j : Nat) {b : UInt8} (hj : bX12_count_6[j]? = some b) : AtB cX12_count (192 + j) b := at_of32 (by decide +kernel) j hj
def bX12_count_7 : List UInt8 := [167, 0, 4, 2, 172]
theorem kX12_count_7 (j : Nat) {b : UInt8} (hj : bX12_count_7[j]? = some b) : AtB cX12_count (224 + j) b := at_of32 (by decide +kernel) j hj
theorem dX12_count_0 : decode cX12_count 0 = .ok (.iconst 0, 1) := dq_3 (kX12_count_0 0 rfl)
theorem dX12_count_1 : decode cX12_count 1 = .ok (.istore_n 2, 1) := dq_61 (kX12_count_0 1 rfl)
theorem dX12_count_2 : decode cX12_count 2 = .ok (.iload_n 1, 1) := dq_27 (kX12_count_0 2 rfl)
theorem dX12_count_84 : decode cX12_count 84 = .ok (.aload_n 0, 1) := dq_42 (kX12_count_2 20 rfl)
theorem dX12_count_85 : decode cX12_count 85 = .ok (.getfield 396, 3) := dq_180 (kX12_count_2 21 rfl) (kX12_count_2 22 rfl) (kX12_count_2 23 rfl) rfl
theorem dX12_count_88 : decode cX12_count 88 = .ok (.ireturn, 1) := dq_172 (kX12_count_2 24 rfl)
theorem dX12_count_89 : decode cX12_count 89 = .ok (.aload_n 0, 1) := dq_42 (kX12_count_2 25 rfl)
theorem dX12_count_90 : decode cX12_count 90 = .ok (.getfield 365, 3) := dq_180 (kX12_count_2 26 rfl) (kX12_count_2 27 rfl) (kX12_count_2 28 rfl) rfl
theorem dX12_count_93 : decode cX12_count 93 = .ok (.ireturn, 1) := dq_172 (kX12_count_2 29 rfl)
theorem dX12_count_94 : decode cX12_count 94 = .ok (.aload_n 0, 1) := dq_42 (kX12_count_2 30 rfl)
theorem dX12_count_95 : decode cX12_count 95 = .ok (.getfield 368, 3) := dq_180 (kX12_count_2 31 rfl) (kX12_count_3 0 rfl) (kX12_count_3 1 rfl) rfl
theorem dX12_count_98 : decode cX12_count 98 = .ok (.ireturn, 1) := dq_172 (kX12_count_3 2 rfl)
theorem dX12_count_99 : decode cX12_count 99 = .ok (.aload_n 0, 1) := dq_42 (kX12_count_3 3 rfl)
theorem dX12_count_100 : decode cX12_count 100 = .ok (.getfield 393, 3) := dq_180 (kX12_count_3 4 rfl) (kX12_count_3 5 rfl) (kX12_count_3 6 rfl) rfl
theorem dX12_count_103 : decode cX12_count 103 = .ok (.ireturn, 1) := dq_172 (kX12_count_3 7 rfl)
theorem dX12_count_104 : decode cX12_count 104 = .ok (.aload_n 0, 1) := dq_42 (kX12_count_3 8 rfl)
theorem dX12_count_105 : decode cX12_count 105 = .ok (.getfield 375, 3) := dq_180 (kX12_count_3 9 rfl) (kX12_count_3 10 rfl) (kX12_count_3 11 rfl) rfl
theorem dX12_count_108 : decode cX12_count 108 = .ok (.ireturn, 1) := dq_172 (kX12_count_3 12 rfl)
theorem dX12_count_109 : decode cX12_count 109 = .ok (.aload_n 0, 1) := dq_42 (kX12_count_3 13 rfl)
theorem dX12_count_110 : decode cX12_count 110 = .ok (.getfield 535, 3) := dq_180 (kX12_count_3 14 rfl) (kX12_count_3 15 rfl) (kX12_count_3 16 rfl) rfl
theorem dX12_count_113 : decode cX12_count 113 = .ok (.ireturn, 1) := dq_172 (kX12_count_3 17 rfl)
theorem dX12_count_114 : decode cX12_count 114 = .ok (.aload_n 0, 1) := dq_42 (kX12_count_3 18 rfl)
theorem dX12_count_115 : decode cX12_count 115 = .ok (.getfield 547, 3) := dq_180 (kX12_count_3 19 rfl) (kX12_count_3 20 rfl) (kX12_count_3 21 rfl) rfl
theorem dX12_count_118 : decode cX12_count 118 = .ok (.ireturn, 1) := dq_172 (kX12_count_3 22 rfl)
theorem dX12_count_119 : decode cX12_count 119 = .ok (.aload_n 0, 1) := dq_42 (kX12_count_3 23 rfl)
theorem dX12_count_120 : decode cX12_count 120 = .ok (.getfield 378, 3) := dq_180 (kX12_count_3 24 rfl) (kX12_count_3 25 rfl) (kX12_count_3 26 rfl) rfl
theorem dX12_count_123 : decode cX12_count 123 = .ok (.ireturn, 1) := dq_172 (kX12_count_3 27 rfl)
theorem dX12_count_124 : decode cX12_count 124 = .ok (.aload_n 0, 1) := dq_42 (kX12_count_3 28 rfl)
theorem dX12_count_125 : decode cX12_count 125 = .ok (.getfield 612, 3) := dq_180 (kX12_count_3 29 rfl) (kX12_count_3 30 rfl) (kX12_count_3 31 rfl) rfl
theorem dX12_count_128 : decode cX12_count 128 = .ok (.ireturn, 1) := dq_172 (kX12_count_4 0 rfl)
theorem dX12_count_129 : decode cX12_count 129 = .ok (.iconst 0, 1) := dq_3 (kX12_count_4 1 rfl)
theorem dX12_count_130 : decode cX12_count 130 = .ok (.istore_n 3, 1) := dq_62 (kX12_count_4 2 rfl)
theorem dX12_count_131 : decode cX12_count 131 = .ok (.iload_n 3, 1) := dq_29 (kX12_count_4 3 rfl)
theorem dX12_count_132 : decode cX12_count 132 = .ok (.aload_n 0, 1) := dq_42 (kX12_count_4 4 rfl)
theorem dX12_count_133 : decode cX12_count 133 = .ok (.getfield 648, 3) := dq_180 (kX12_count_4 5 rfl) (kX12_count_4 6 rfl) (kX12_count_4 7 rfl) rfl
theorem dX12_count_136 : decode cX12_count 136 = .ok (.if_icmp .ge 26, 3) := dq_162 (kX12_count_4 8 rfl) (kX12_count_4 9 rfl) (kX12_count_4 10 rfl) (by decide)
theorem dX12_count_139 : decode cX12_count 139 = .ok (.iload_n 2, 1) := dq_28 (kX12_count_4 11 rfl)
theorem dX12_count_140 : decode cX12_count 140 = .ok (.aload_n 0, 1) := dq_42 (kX12_count_4 12 rfl)
theorem dX12_count_141 : decode cX12_count 141 = .ok (.getfield 259, 3) := dq_180 (kX12_count_4 13 rfl) (kX12_count_4 14 rfl) (kX12_count_4 15 rfl) rfl
theorem dX12_count_144 : decode cX12_count 144 = .ok (.iload_n 3, 1) := dq_29 (kX12_count_4 16 rfl)
theorem dX12_count_145 : decode cX12_count 145 = .ok (.baload, 1) := dq_51 (kX12_count_4 17 rfl)
theorem dX12_count_146 : decode cX12_count 146 = .ok (.ifCond .eq 7, 3) := dq_153 (kX12_count_4 18 rfl) (kX12_count_4 19 rfl) (kX12_count_4 20 rfl) (by decide)
theorem dX12_count_149 : decode cX12_count 149 = .ok (.iconst 1, 1) := dq_4 (kX12_count_4 21 rfl)
theorem dX12_count_150 : decode cX12_count 150 = .ok (.goto 4, 3) := dq_167 (kX12_count_4 22 rfl) (kX12_count_4 23 rfl) (kX12_count_4 24 rfl) (by decide)
theorem dX12_count_153 : decode cX12_count 153 = .ok (.iconst 0, 1) := dq_3 (kX12_count_4 25 rfl)
theorem dX12_count_154 : decode cX12_count 154 = .ok (.iadd, 1) := dq_96 (kX12_count_4 26 rfl)
theorem dX12_count_155 : decode cX12_count 155 = .ok (.istore_n 2, 1) := dq_61 (kX12_count_4 27 rfl)
theorem dX12_count_156 : decode cX12_count 156 = .ok (.iinc 3 1, 3) := dq_132 (kX12_count_4 28 rfl) (kX12_count_4 29 rfl) (kX12_count_4 30 rfl) rfl (by decide)
theorem dX12_count_159 : decode cX12_count 159 = .ok (.goto (-28), 3) := dq_167 (kX12_count_4 31 rfl) (kX12_count_5 0 rfl) (kX12_count_5 1 rfl) (by decide)
theorem dX12_count_162 : decode cX12_count 162 = .ok (.iload_n 2, 1) := dq_28 (kX12_count_5 2 rfl)
theorem dX12_count_163 : decode cX12_count 163 = .ok (.ireturn, 1) := dq_172 (kX12_count_5 3 rfl)
theorem dX12_count_164 : decode cX12_count 164 = .ok (.aload_n 0, 1) := dq_42 (kX12_count_5 4 rfl)
theorem dX12_count_165 : decode cX12_count 165 = .ok (.getfield 660, 3) := dq_180 (kX12_count_5 5 rfl) (kX12_count_5 6 rfl) (kX12_count_5 7 rfl) rfl
theorem dX12_count_168 : decode cX12_count 168 = .ok (.ireturn, 1) := dq_172 (kX12_count_5 8 rfl)
theorem dX12_count_169 : decode cX12_count 169 = .ok (.aload_n 0, 1) := dq_42 (kX12_count_5 9 rfl)
theorem dX12_count_170 : decode cX12_count 170 = .ok (.getfield 667, 3) := dq_180 (kX12_count_5 10 rfl) (kX12_count_5 11 rfl) (kX12_count_5 12 rfl) rfl
theorem dX12_count_173 : decode cX12_count 173 = .ok (.ireturn, 1) := dq_172 (kX12_count_5 13 rfl)
theorem dX12_count_174 : decode cX12_count 174 = .ok (.aload_n 0, 1) := dq_42 (kX12_count_5 14 rfl)
theorem dX12_count_175 : decode cX12_count 175 = .ok (.getfield 709, 3) := dq_180 (kX12_count_5 15 rfl) (kX12_count_5 16 rfl) (kX12_count_5 17 rfl) rfl
theorem dX12_count_178 : decode cX12_count 178 = .ok (.ireturn, 1) := dq_172 (kX12_count_5 18 rfl)
theorem dX12_count_179 : decode cX12_count 179 = .ok (.aload_n 0, 1) := dq_42 (kX12_count_5 19 rfl)
theorem dX12_count_180 : decode cX12_count 180 = .ok (.getfield 718, 3) := dq_180 (kX12_count_5 20 rfl) (kX12_count_5 21 rfl) (kX12_count_5 22 rfl) rfl
theorem dX12_count_183 : decode cX12_count 183 = .ok (.ireturn, 1) := dq_172 (kX12_count_5 23 rfl)
theorem dX12_count_184 : decode cX12_count 184 = .ok (.aload_n 0, 1) := dq_42 (kX12_count_5 24 rfl)
theorem dX12_count_185 : decode cX12_count 185 = .ok (.getfield 736, 3) := dq_180 (kX12_count_5 25 rfl) (kX12_count_5 26 rfl) (kX12_count_5 27 rfl) rfl
theorem dX12_count_188 : decode cX12_count 188 = .ok (.ireturn, 1) := dq_172 (kX12_count_5 28 rfl)
theorem dX12_count_189 : decode cX12_count 189 = .ok (.aload_n 0, 1) := dq_42 (kX12_count_5 29 rfl)
theorem dX12_count_190 : decode cX12_count 190 = .ok (.getfield 761, 3) := dq_180 (kX12_count_5 30 rfl) (kX12_count_5 31 rfl) (kX12_count_6 0 rfl) rfl
theorem dX12_count_193 : decode cX12_count 193 = .ok (.ireturn, 1) := dq_172 (kX12_count_6 1 rfl)
theorem dX12_count_194 : decode cX12_count 194 = .ok (.aload_n 0, 1) := dq_42 (kX12_count_6 2 rfl)
theorem dX12_count_195 : decode cX12_count 195 = .ok (.getfield 436, 3) := dq_180 (kX12_count_6 3 rfl) (kX12_count_6 4 rfl) (kX12_count_6 5 rfl) rfl
theorem dX12_count_198 : decode cX12_count 198 = .ok (.ireturn, 1) := dq_172 (kX12_count_6 6 rfl)
theorem dX12_count_199 : decode cX12_count 199 = .ok (.iload_n 1, 1) := dq_27 (kX12_count_6 7 rfl)
theorem dX12_count_200 : decode cX12_count 200 = .ok (.bipush 20, 2) := dq_16 (kX12_count_6 8 rfl) (kX12_count_6 9 rfl) (by decide)
theorem dX12_count_202 : decode cX12_count 202 = .ok (.bipush 19, 2) := dq_16 (kX12_count_6 10 rfl) (kX12_count_6 11 rfl) (by decide)
theorem dX12_count_204 : decode cX12_count 204 = .ok (.aload_n 0, 1) := dq_42 (kX12_count_6 12 rfl)
theorem dX12_count_205 : decode cX12_count 205 = .ok (.getfield 393, 3) := dq_180 (kX12_count_6 13 rfl) (kX12_count_6 14 rfl) (kX12_count_6 15 rfl) rfl
theorem dX12_count_208 : decode cX12_count 208 = .ok (.iadd, 1) := dq_96 (kX12_count_6 16 rfl)
theorem dX12_count_209 : decode cX12_count 209 = .ok (.invokestatic 371, 3) := dq_184 (kX12_count_6 17 rfl) (kX12_count_6 18 rfl) (kX12_count_6 19 rfl) rfl
theorem dX12_count_212 : decode cX12_count 212 = .ok (.ifCond .eq 15, 3) := dq_153 (kX12_count_6 20 rfl) (kX12_count_6 21 rfl) (kX12_count_6 22 rfl) (by decide)
theorem dX12_count_215 : decode cX12_count 215 = .ok (.aload_n 0, 1) := dq_42 (kX12_count_6 23 rfl)
theorem dX12_count_216 : decode cX12_count 216 = .ok (.getfield 29, 3) := dq_180 (kX12_count_6 24 rfl) (kX12_count_6 25 rfl) (kX12_count_6 26 rfl) rfl
theorem dX12_count_219 : decode cX12_count 219 = .ok (.iload_n 1, 1) := dq_27 (kX12_count_6 27 rfl)
theorem dX12_count_220 : decode cX12_count 220 = .ok (.bipush 20, 2) := dq_16 (kX12_count_6 28 rfl) (kX12_count_6 29 rfl) (by decide)
theorem dX12_count_222 : decode cX12_count 222 = .ok (.isub, 1) := dq_100 (kX12_count_6 30 rfl)
theorem dX12_count_223 : decode cX12_count 223 = .ok (.iaload, 1) := dq_46 (kX12_count_6 31 rfl)
theorem dX12_count_224 : decode cX12_count 224 = .ok (.goto 4, 3) := dq_167 (kX12_count_7 0 rfl) (kX12_count_7 1 rfl) (kX12_count_7 2 rfl) (by decide)
theorem dX12_count_227 : decode cX12_count 227 = .ok (.iconst (-1), 1) := dq_2 (kX12_count_7 3 rfl)
theorem dX12_count_228 : decode cX12_count 228 = .ok (.ireturn, 1) := dq_172 (kX12_count_7 4 rfl)
def LX12_count : List (Nat × Instr × Nat) := [(3, .tableswitch 196 0 16 #[81, 86, 91, 96, 101, 106, 111, 116, 121, 126, 161, 166, 171, 176, 181, 186, 191], 81)]
theorem kkX12_count : chkB cX12_count LX12_count = true := by decide +kernel
theorem dX12_count_3 : decode cX12_count 3 = .ok (.tableswitch 196 0 16 #[81, 86, 91, 96, 101, 106, 111, 116, 121, 126, 161, 166, 171, 176, 181, 186, 191], 81) := getB' kkX12_count 0 rfl

def bJ6_bitCount_0f7a4_0 : List UInt8 := [26, 26, 4, 124, 19, 1, 9, 126, 100, 59, 26, 19, 1, 10, 126, 26, 5, 124, 19, 1, 10, 126, 96, 59, 26, 26, 7, 124, 96, 19, 1, 11]
theorem kJ6_bitCount_0f7a4_0 (j : Nat) {b : UInt8} (hj : bJ6_bitCount_0f7a4_0[j]? = some b) : AtB cJ6_bitCount_0f7a4 (0 + j) b := at_of32 (by decide +kernel) j hj
def bJ6_bitCount_0f7a4_1 : List UInt8 := [126, 59, 26, 26, 16, 8, 124, 96, 59, 26, 26, 16, 16, 124, 96, 59, 26, 16, 63, 126, 172]
theorem kJ6_bitCount_0f7a4_1 (j : Nat) {b : UInt8} (hj : bJ6_bitCount_0f7a4_1[j]? = some b) : AtB cJ6_bitCount_0f7a4 (32 + j) b := at_of32 (by decide +kernel) j hj
theorem dJ6_bitCount_0f7a4_0 : decode cJ6_bitCount_0f7a4 0 = .ok (.iload_n 0, 1) := dq_26 (kJ6_bitCount_0f7a4_0 0 rfl)
theorem dJ6_bitCount_0f7a4_1 : decode cJ6_bitCount_0f7a4 1 = .ok (.iload_n 0, 1) := dq_26 (kJ6_bitCount_0f7a4_0 1 rfl)
theorem dJ6_bitCount_0f7a4_2 : decode cJ6_bitCount_0f7a4 2 = .ok (.iconst 1, 1) := dq_4 (kJ6_bitCount_0f7a4_0 2 rfl)
theorem dJ6_bitCount_0f7a4_3 : decode cJ6_bitCount_0f7a4 3 = .ok (.iushr, 1) := dq_124 (kJ6_bitCount_0f7a4_0 3 rfl)
theorem dJ6_bitCount_0f7a4_4 : decode cJ6_bitCount_0f7a4 4 = .ok (.ldc_w 265, 3) := dq_19 (kJ6_bitCount_0f7a4_0 4 rfl) (kJ6_bitCount_0f7a4_0 5 rfl) (kJ6_bitCount_0f7a4_0 6 rfl) rfl
theorem dJ6_bitCount_0f7a4_7 : decode cJ6_bitCount_0f7a4 7 = .ok (.iand, 1) := dq_126 (kJ6_bitCount_0f7a4_0 7 rfl)
theorem dJ6_bitCount_0f7a4_8 : decode cJ6_bitCount_0f7a4 8 = .ok (.isub, 1) := dq_100 (kJ6_bitCount_0f7a4_0 8 rfl)
theorem dJ6_bitCount_0f7a4_9 : decode cJ6_bitCount_0f7a4 9 = .ok (.istore_n 0, 1) := dq_59 (kJ6_bitCount_0f7a4_0 9 rfl)
theorem dJ6_bitCount_0f7a4_10 : decode cJ6_bitCount_0f7a4 10 = .ok (.iload_n 0, 1) := dq_26 (kJ6_bitCount_0f7a4_0 10 rfl)
theorem dJ6_bitCount_0f7a4_11 : decode cJ6_bitCount_0f7a4 11 = .ok (.ldc_w 266, 3) := dq_19 (kJ6_bitCount_0f7a4_0 11 rfl) (kJ6_bitCount_0f7a4_0 12 rfl) (kJ6_bitCount_0f7a4_0 13 rfl) rfl
theorem dJ6_bitCount_0f7a4_14 : decode cJ6_bitCount_0f7a4 14 = .ok (.iand, 1) := dq_126 (kJ6_bitCount_0f7a4_0 14 rfl)
theorem dJ6_bitCount_0f7a4_15 : decode cJ6_bitCount_0f7a4 15 = .ok (.iload_n 0, 1) := dq_26 (kJ6_bitCount_0f7a4_0 15 rfl)
theorem dJ6_bitCount_0f7a4_16 : decode cJ6_bitCount_0f7a4 16 = .ok (.iconst 2, 1) := dq_5 (kJ6_bitCount_0f7a4_0 16 rfl)
theorem dJ6_bitCount_0f7a4_17 : decode cJ6_bitCount_0f7a4 17 = .ok (.iushr, 1) := dq_124 (kJ6_bitCount_0f7a4_0 17 rfl)
theorem dJ6_bitCount_0f7a4_18 : decode cJ6_bitCount_0f7a4 18 = .ok (.ldc_w 266, 3) := dq_19 (kJ6_bitCount_0f7a4_0 18 rfl) (kJ6_bitCount_0f7a4_0 19 rfl) (kJ6_bitCount_0f7a4_0 20 rfl) rfl
theorem dJ6_bitCount_0f7a4_21 : decode cJ6_bitCount_0f7a4 21 = .ok (.iand, 1) := dq_126 (kJ6_bitCount_0f7a4_0 21 rfl)
theorem dJ6_bitCount_0f7a4_22 : decode cJ6_bitCount_0f7a4 22 = .ok (.iadd, 1) := dq_96 (kJ6_bitCount_0f7a4_0 22 rfl)
theorem dJ6_bitCount_0f7a4_23 : decode cJ6_bitCount_0f7a4 23 = .ok (.istore_n 0, 1) := dq_59 (kJ6_bitCount_0f7a4_0 23 rfl)
theorem dJ6_bitCount_0f7a4_24 : decode cJ6_bitCount_0f7a4 24 = .ok (.iload_n 0, 1) := dq_26 (kJ6_bitCount_0f7a4_0 24 rfl)
theorem dJ6_bitCount_0f7a4_25 : decode cJ6_bitCount_0f7a4 25 = .ok (.iload_n 0, 1) := dq_26 (kJ6_bitCount_0f7a4_0 25 rfl)
theorem dJ6_bitCount_0f7a4_26 : decode cJ6_bitCount_0f7a4 26 = .ok (.iconst 4, 1) := dq_7 (kJ6_bitCount_0f7a4_0 26 rfl)
theorem dJ6_bitCount_0f7a4_27 : decode cJ6_bitCount_0f7a4 27 = .ok (.iushr, 1) := dq_124 (kJ6_bitCount_0f7a4_0 27 rfl)
theorem dJ6_bitCount_0f7a4_28 : decode cJ6_bitCount_0f7a4 28 = .ok (.iadd, 1) := dq_96 (kJ6_bitCount_0f7a4_0 28 rfl)
theorem dJ6_bitCount_0f7a4_29 : decode cJ6_bitCount_0f7a4 29 = .ok (.ldc_w 267, 3) := dq_19 (kJ6_bitCount_0f7a4_0 29 rfl) (kJ6_bitCount_0f7a4_0 30 rfl) (kJ6_bitCount_0f7a4_0 31 rfl) rfl
theorem dJ6_bitCount_0f7a4_32 : decode cJ6_bitCount_0f7a4 32 = .ok (.iand, 1) := dq_126 (kJ6_bitCount_0f7a4_1 0 rfl)
theorem dJ6_bitCount_0f7a4_33 : decode cJ6_bitCount_0f7a4 33 = .ok (.istore_n 0, 1) := dq_59 (kJ6_bitCount_0f7a4_1 1 rfl)
theorem dJ6_bitCount_0f7a4_34 : decode cJ6_bitCount_0f7a4 34 = .ok (.iload_n 0, 1) := dq_26 (kJ6_bitCount_0f7a4_1 2 rfl)
theorem dJ6_bitCount_0f7a4_35 : decode cJ6_bitCount_0f7a4 35 = .ok (.iload_n 0, 1) := dq_26 (kJ6_bitCount_0f7a4_1 3 rfl)
theorem dJ6_bitCount_0f7a4_36 : decode cJ6_bitCount_0f7a4 36 = .ok (.bipush 8, 2) := dq_16 (kJ6_bitCount_0f7a4_1 4 rfl) (kJ6_bitCount_0f7a4_1 5 rfl) (by decide)
theorem dJ6_bitCount_0f7a4_38 : decode cJ6_bitCount_0f7a4 38 = .ok (.iushr, 1) := dq_124 (kJ6_bitCount_0f7a4_1 6 rfl)
theorem dJ6_bitCount_0f7a4_39 : decode cJ6_bitCount_0f7a4 39 = .ok (.iadd, 1) := dq_96 (kJ6_bitCount_0f7a4_1 7 rfl)
theorem dJ6_bitCount_0f7a4_40 : decode cJ6_bitCount_0f7a4 40 = .ok (.istore_n 0, 1) := dq_59 (kJ6_bitCount_0f7a4_1 8 rfl)
theorem dJ6_bitCount_0f7a4_41 : decode cJ6_bitCount_0f7a4 41 = .ok (.iload_n 0, 1) := dq_26 (kJ6_bitCount_0f7a4_1 9 rfl)
theorem dJ6_bitCount_0f7a4_42 : decode cJ6_bitCount_0f7a4 42 = .ok (.iload_n 0, 1) := dq_26 (kJ6_bitCount_0f7a4_1 10 rfl)
theorem dJ6_bitCount_0f7a4_43 : decode cJ6_bitCount_0f7a4 43 = .ok (.bipush 16, 2) := dq_16 (kJ6_bitCount_0f7a4_1 11 rfl) (kJ6_bitCount_0f7a4_1 12 rfl) (by decide)
theorem dJ6_bitCount_0f7a4_45 : decode cJ6_bitCount_0f7a4 45 = .ok (.iushr, 1) := dq_124 (kJ6_bitCount_0f7a4_1 13 rfl)
theorem dJ6_bitCount_0f7a4_46 : decode cJ6_bitCount_0f7a4 46 = .ok (.iadd, 1) := dq_96 (kJ6_bitCount_0f7a4_1 14 rfl)
theorem dJ6_bitCount_0f7a4_47 : decode cJ6_bitCount_0f7a4 47 = .ok (.istore_n 0, 1) := dq_59 (kJ6_bitCount_0f7a4_1 15 rfl)
theorem dJ6_bitCount_0f7a4_48 : decode cJ6_bitCount_0f7a4 48 = .ok (.iload_n 0, 1) := dq_26 (kJ6_bitCount_0f7a4_1 16 rfl)
theorem dJ6_bitCount_0f7a4_49 : decode cJ6_bitCount_0f7a4 49 = .ok (.bipush 63, 2) := dq_16 (kJ6_bitCount_0f7a4_1 17 rfl) (kJ6_bitCount_0f7a4_1 18 rfl) (by decide)
theorem dJ6_bitCount_0f7a4_51 : decode cJ6_bitCount_0f7a4 51 = .ok (.iand, 1) := dq_126 (kJ6_bitCount_0f7a4_1 19 rfl)
theorem dJ6_bitCount_0f7a4_52 : decode cJ6_bitCount_0f7a4 52 = .ok (.ireturn, 1) := dq_172 (kJ6_bitCount_0f7a4_1 20 rfl)

def bJ9_abs_0f7a4_0 : List UInt8 := [26, 156, 0, 8, 26, 116, 167, 0, 4, 26, 172]
theorem kJ9_abs_0f7a4_0 (j : Nat) {b : UInt8} (hj : bJ9_abs_0f7a4_0[j]? = some b) : AtB cJ9_abs_0f7a4 (0 + j) b := at_of32 (by decide +kernel) j hj
theorem dJ9_abs_0f7a4_0 : decode cJ9_abs_0f7a4 0 = .ok (.iload_n 0, 1) := dq_26 (kJ9_abs_0f7a4_0 0 rfl)
theorem dJ9_abs_0f7a4_1 : decode cJ9_abs_0f7a4 1 = .ok (.ifCond .ge 8, 3) := dq_156 (kJ9_abs_0f7a4_0 1 rfl) (kJ9_abs_0f7a4_0 2 rfl) (kJ9_abs_0f7a4_0 3 rfl) (by decide)
theorem dJ9_abs_0f7a4_4 : decode cJ9_abs_0f7a4 4 = .ok (.iload_n 0, 1) := dq_26 (kJ9_abs_0f7a4_0 4 rfl)
theorem dJ9_abs_0f7a4_5 : decode cJ9_abs_0f7a4 5 = .ok (.ineg, 1) := dq_116 (kJ9_abs_0f7a4_0 5 rfl)
theorem dJ9_abs_0f7a4_6 : decode cJ9_abs_0f7a4 6 = .ok (.goto 4, 3) := dq_167 (kJ9_abs_0f7a4_0 6 rfl) (kJ9_abs_0f7a4_0 7 rfl) (kJ9_abs_0f7a4_0 8 rfl) (by decide)
theorem dJ9_abs_0f7a4_9 : decode cJ9_abs_0f7a4 9 = .ok (.iload_n 0, 1) := dq_26 (kJ9_abs_0f7a4_0 9 rfl)
theorem dJ9_abs_0f7a4_10 : decode cJ9_abs_0f7a4 10 = .ok (.ireturn, 1) := dq_172 (kJ9_abs_0f7a4_0 10 rfl)

def bJ9_max_7cf53_0 : List UInt8 := [26, 27, 161, 0, 7, 26, 167, 0, 4, 27, 172]
theorem kJ9_max_7cf53_0 (j : Nat) {b : UInt8} (hj : bJ9_max_7cf53_0[j]? = some b) : AtB cJ9_max_7cf53 (0 + j) b := at_of32 (by decide +kernel) j hj
theorem dJ9_max_7cf53_0 : decode cJ9_max_7cf53 0 = .ok (.iload_n 0, 1) := dq_26 (kJ9_max_7cf53_0 0 rfl)
theorem dJ9_max_7cf53_1 : decode cJ9_max_7cf53 1 = .ok (.iload_n 1, 1) := dq_27 (kJ9_max_7cf53_0 1 rfl)
theorem dJ9_max_7cf53_2 : decode cJ9_max_7cf53 2 = .ok (.if_icmp .lt 7, 3) := dq_161 (kJ9_max_7cf53_0 2 rfl) (kJ9_max_7cf53_0 3 rfl) (kJ9_max_7cf53_0 4 rfl) (by decide)
theorem dJ9_max_7cf53_5 : decode cJ9_max_7cf53 5 = .ok (.iload_n 0, 1) := dq_26 (kJ9_max_7cf53_0 5 rfl)
theorem dJ9_max_7cf53_6 : decode cJ9_max_7cf53 6 = .ok (.goto 4, 3) := dq_167 (kJ9_max_7cf53_0 6 rfl) (kJ9_max_7cf53_0 7 rfl) (kJ9_max_7cf53_0 8 rfl) (by decide)
theorem dJ9_max_7cf53_9 : decode cJ9_max_7cf53 9 = .ok (.iload_n 1, 1) := dq_27 (kJ9_max_7cf53_0 9 rfl)
theorem dJ9_max_7cf53_10 : decode cJ9_max_7cf53 10 = .ok (.ireturn, 1) := dq_172 (kJ9_max_7cf53_0 10 rfl)

def bJ9_min_7cf53_0 : List UInt8 := [26, 27, 163, 0, 7, 26, 167, 0, 4, 27, 172]
theorem kJ9_min_7cf53_0 (j : Nat) {b : UInt8} (hj : bJ9_min_7cf53_0[j]? = some b) : AtB cJ9_min_7cf53 (0 + j) b := at_of32 (by decide +kernel) j hj
theorem dJ9_min_7cf53_0 : decode cJ9_min_7cf53 0 = .ok (.iload_n 0, 1) := dq_26 (kJ9_min_7cf53_0 0 rfl)
theorem dJ9_min_7cf53_1 : decode cJ9_min_7cf53 1 = .ok (.iload_n 1, 1) := dq_27 (kJ9_min_7cf53_0 1 rfl)
theorem dJ9_min_7cf53_2 : decode cJ9_min_7cf53 2 = .ok (.if_icmp .gt 7, 3) := dq_163 (kJ9_min_7cf53_0 2 rfl) (kJ9_min_7cf53_0 3 rfl) (kJ9_min_7cf53_0 4 rfl) (by decide)
theorem dJ9_min_7cf53_5 : decode cJ9_min_7cf53 5 = .ok (.iload_n 0, 1) := dq_26 (kJ9_min_7cf53_0 5 rfl)
theorem dJ9_min_7cf53_6 : decode cJ9_min_7cf53 6 = .ok (.goto 4, 3) := dq_167 (kJ9_min_7cf53_0 6 rfl) (kJ9_min_7cf53_0 7 rfl) (kJ9_min_7cf53_0 8 rfl) (by decide)
theorem dJ9_min_7cf53_9 : decode cJ9_min_7cf53 9 = .ok (.iload_n 1, 1) := dq_27 (kJ9_min_7cf53_0 9 rfl)
theorem dJ9_min_7cf53_10 : decode cJ9_min_7cf53 10 = .ok (.ireturn, 1) := dq_172 (kJ9_min_7cf53_0 10 rfl)

def bJ0_length_8abf5_0 : List UInt8 := [42, 180, 0, 9, 190, 42, 182, 1, 79, 122, 172]
theorem kJ0_length_8abf5_0 (j : Nat) {b : UInt8} (hj : bJ0_length_8abf5_0[j]? = some b) : AtB cJ0_length_8abf5 (0 + j) b := at_of32 (by decide +kernel) j hj
theorem dJ0_length_8abf5_0 : decode cJ0_length_8abf5 0 = .ok (.aload_n 0, 1) := dq_42 (kJ0_length_8abf5_0 0 rfl)
theorem dJ0_length_8abf5_1 : decode cJ0_length_8abf5 1 = .ok (.getfield 9, 3) := dq_180 (kJ0_length_8abf5_0 1 rfl) (kJ0_length_8abf5_0 2 rfl) (kJ0_length_8abf5_0 3 rfl) rfl
theorem dJ0_length_8abf5_4 : decode cJ0_length_8abf5 4 = .ok (.arraylength, 1) := dq_190 (kJ0_length_8abf5_0 4 rfl)
theorem dJ0_length_8abf5_5 : decode cJ0_length_8abf5 5 = .ok (.aload_n 0, 1) := dq_42 (kJ0_length_8abf5_0 5 rfl)
theorem dJ0_length_8abf5_6 : decode cJ0_length_8abf5 6 = .ok (.invokevirtual 335, 3) := dq_182 (kJ0_length_8abf5_0 6 rfl) (kJ0_length_8abf5_0 7 rfl) (kJ0_length_8abf5_0 8 rfl) rfl
theorem dJ0_length_8abf5_9 : decode cJ0_length_8abf5 9 = .ok (.ishr, 1) := dq_122 (kJ0_length_8abf5_0 9 rfl)
theorem dJ0_length_8abf5_10 : decode cJ0_length_8abf5 10 = .ok (.ireturn, 1) := dq_172 (kJ0_length_8abf5_0 10 rfl)

def bJ0_indexOf_0f7a4_0 : List UInt8 := [42, 27, 3, 182, 2, 121, 172]
theorem kJ0_indexOf_0f7a4_0 (j : Nat) {b : UInt8} (hj : bJ0_indexOf_0f7a4_0[j]? = some b) : AtB cJ0_indexOf_0f7a4 (0 + j) b := at_of32 (by decide +kernel) j hj
theorem dJ0_indexOf_0f7a4_0 : decode cJ0_indexOf_0f7a4 0 = .ok (.aload_n 0, 1) := dq_42 (kJ0_indexOf_0f7a4_0 0 rfl)
theorem dJ0_indexOf_0f7a4_1 : decode cJ0_indexOf_0f7a4 1 = .ok (.iload_n 1, 1) := dq_27 (kJ0_indexOf_0f7a4_0 1 rfl)
theorem dJ0_indexOf_0f7a4_2 : decode cJ0_indexOf_0f7a4 2 = .ok (.iconst 0, 1) := dq_3 (kJ0_indexOf_0f7a4_0 2 rfl)
theorem dJ0_indexOf_0f7a4_3 : decode cJ0_indexOf_0f7a4 3 = .ok (.invokevirtual 633, 3) := dq_182 (kJ0_indexOf_0f7a4_0 3 rfl) (kJ0_indexOf_0f7a4_0 4 rfl) (kJ0_indexOf_0f7a4_0 5 rfl) rfl
theorem dJ0_indexOf_0f7a4_6 : decode cJ0_indexOf_0f7a4 6 = .ok (.ireturn, 1) := dq_172 (kJ0_indexOf_0f7a4_0 6 rfl)

def bJ0_indexOf_7cf53_0 : List UInt8 := [42, 182, 1, 236, 153, 0, 19, 42, 180, 0, 9, 27, 28, 42, 182, 1, 249, 184, 2, 125, 167, 0, 16, 42, 180, 0, 9, 27, 28, 42, 182, 1]
theorem kJ0_indexOf_7cf53_0 (j : Nat) {b : UInt8} (hj : bJ0_indexOf_7cf53_0[j]? = some b) : AtB cJ0_indexOf_7cf53 (0 + j) b := at_of32 (by decide +kernel) j hj
def bJ0_indexOf_7cf53_1 : List UInt8 := [249, 184, 2, 128, 172]
theorem kJ0_indexOf_7cf53_1 (j : Nat) {b : UInt8} (hj : bJ0_indexOf_7cf53_1[j]? = some b) : AtB cJ0_indexOf_7cf53 (32 + j) b := at_of32 (by decide +kernel) j hj
theorem dJ0_indexOf_7cf53_0 : decode cJ0_indexOf_7cf53 0 = .ok (.aload_n 0, 1) := dq_42 (kJ0_indexOf_7cf53_0 0 rfl)
theorem dJ0_indexOf_7cf53_1 : decode cJ0_indexOf_7cf53 1 = .ok (.invokevirtual 492, 3) := dq_182 (kJ0_indexOf_7cf53_0 1 rfl) (kJ0_indexOf_7cf53_0 2 rfl) (kJ0_indexOf_7cf53_0 3 rfl) rfl
theorem dJ0_indexOf_7cf53_4 : decode cJ0_indexOf_7cf53 4 = .ok (.ifCond .eq 19, 3) := dq_153 (kJ0_indexOf_7cf53_0 4 rfl) (kJ0_indexOf_7cf53_0 5 rfl) (kJ0_indexOf_7cf53_0 6 rfl) (by decide)
theorem dJ0_indexOf_7cf53_7 : decode cJ0_indexOf_7cf53 7 = .ok (.aload_n 0, 1) := dq_42 (kJ0_indexOf_7cf53_0 7 rfl)
theorem dJ0_indexOf_7cf53_8 : decode cJ0_indexOf_7cf53 8 = .ok (.getfield 9, 3) := dq_180 (kJ0_indexOf_7cf53_0 8 rfl) (kJ0_indexOf_7cf53_0 9 rfl) (kJ0_indexOf_7cf53_0 10 rfl) rfl
theorem dJ0_indexOf_7cf53_11 : decode cJ0_indexOf_7cf53 11 = .ok (.iload_n 1, 1) := dq_27 (kJ0_indexOf_7cf53_0 11 rfl)
theorem dJ0_indexOf_7cf53_12 : decode cJ0_indexOf_7cf53 12 = .ok (.iload_n 2, 1) := dq_28 (kJ0_indexOf_7cf53_0 12 rfl)
theorem dJ0_indexOf_7cf53_13 : decode cJ0_indexOf_7cf53 13 = .ok (.aload_n 0, 1) := dq_42 (kJ0_indexOf_7cf53_0 13 rfl)
theorem dJ0_indexOf_7cf53_14 : decode cJ0_indexOf_7cf53 14 = .ok (.invokevirtual 505, 3) := dq_182 (kJ0_indexOf_7cf53_0 14 rfl) (kJ0_indexOf_7cf53_0 15 rfl) (kJ0_indexOf_7cf53_0 16 rfl) rfl
theorem dJ0_indexOf_7cf53_17 : decode cJ0_indexOf_7cf53 17 = .ok (.invokestatic 637, 3) := dq_184 (kJ0_indexOf_7cf53_0 17 rfl) (kJ0_indexOf_7cf53_0 18 rfl) (kJ0_indexOf_7cf53_0 19 rfl) rfl
theorem dJ0_indexOf_7cf53_20 : decode cJ0_indexOf_7cf53 20 = .ok (.goto 16, 3) := dq_167 (kJ0_indexOf_7cf53_0 20 rfl) (kJ0_indexOf_7cf53_0 21 rfl) (kJ0_indexOf_7cf53_0 22 rfl) (by decide)
theorem dJ0_indexOf_7cf53_23 : decode cJ0_indexOf_7cf53 23 = .ok (.aload_n 0, 1) := dq_42 (kJ0_indexOf_7cf53_0 23 rfl)
theorem dJ0_indexOf_7cf53_24 : decode cJ0_indexOf_7cf53 24 = .ok (.getfield 9, 3) := dq_180 (kJ0_indexOf_7cf53_0 24 rfl) (kJ0_indexOf_7cf53_0 25 rfl) (kJ0_indexOf_7cf53_0 26 rfl) rfl
theorem dJ0_indexOf_7cf53_27 : decode cJ0_indexOf_7cf53 27 = .ok (.iload_n 1, 1) := dq_27 (kJ0_indexOf_7cf53_0 27 rfl)
theorem dJ0_indexOf_7cf53_28 : decode cJ0_indexOf_7cf53 28 = .ok (.iload_n 2, 1) := dq_28 (kJ0_indexOf_7cf53_0 28 rfl)
theorem dJ0_indexOf_7cf53_29 : decode cJ0_indexOf_7cf53 29 = .ok (.aload_n 0, 1) := dq_42 (kJ0_indexOf_7cf53_0 29 rfl)
theorem dJ0_indexOf_7cf53_30 : decode cJ0_indexOf_7cf53 30 = .ok (.invokevirtual 505, 3) := dq_182 (kJ0_indexOf_7cf53_0 30 rfl) (kJ0_indexOf_7cf53_0 31 rfl) (kJ0_indexOf_7cf53_1 0 rfl) rfl
theorem dJ0_indexOf_7cf53_33 : decode cJ0_indexOf_7cf53 33 = .ok (.invokestatic 640, 3) := dq_184 (kJ0_indexOf_7cf53_1 1 rfl) (kJ0_indexOf_7cf53_1 2 rfl) (kJ0_indexOf_7cf53_1 3 rfl) rfl
theorem dJ0_indexOf_7cf53_36 : decode cJ0_indexOf_7cf53 36 = .ok (.ireturn, 1) := dq_172 (kJ0_indexOf_7cf53_1 4 rfl)

def bJ0_coder_7d493_0 : List UInt8 := [178, 0, 38, 153, 0, 10, 42, 180, 0, 15, 167, 0, 4, 4, 172]
theorem kJ0_coder_7d493_0 (j : Nat) {b : UInt8} (hj : bJ0_coder_7d493_0[j]? = some b) : AtB cJ0_coder_7d493 (0 + j) b := at_of32 (by decide +kernel) j hj
theorem dJ0_coder_7d493_0 : decode cJ0_coder_7d493 0 = .ok (.getstatic 38, 3) := dq_178 (kJ0_coder_7d493_0 0 rfl) (kJ0_coder_7d493_0 1 rfl) (kJ0_coder_7d493_0 2 rfl) rfl
theorem dJ0_coder_7d493_3 : decode cJ0_coder_7d493 3 = .ok (.ifCond .eq 10, 3) := dq_153 (kJ0_coder_7d493_0 3 rfl) (kJ0_coder_7d493_0 4 rfl) (kJ0_coder_7d493_0 5 rfl) (by decide)
theorem dJ0_coder_7d493_6 : decode cJ0_coder_7d493 6 = .ok (.aload_n 0, 1) := dq_42 (kJ0_coder_7d493_0 6 rfl)
theorem dJ0_coder_7d493_7 : decode cJ0_coder_7d493 7 = .ok (.getfield 15, 3) := dq_180 (kJ0_coder_7d493_0 7 rfl) (kJ0_coder_7d493_0 8 rfl) (kJ0_coder_7d493_0 9 rfl) rfl
theorem dJ0_coder_7d493_10 : decode cJ0_coder_7d493 10 = .ok (.goto 4, 3) := dq_167 (kJ0_coder_7d493_0 10 rfl) (kJ0_coder_7d493_0 11 rfl) (kJ0_coder_7d493_0 12 rfl) (by decide)
theorem dJ0_coder_7d493_13 : decode cJ0_coder_7d493 13 = .ok (.iconst 1, 1) := dq_4 (kJ0_coder_7d493_0 13 rfl)
theorem dJ0_coder_7d493_14 : decode cJ0_coder_7d493 14 = .ok (.ireturn, 1) := dq_172 (kJ0_coder_7d493_0 14 rfl)

def bJ0_isLatin1_aae02_0 : List UInt8 := [178, 0, 38, 153, 0, 14, 42, 180, 0, 15, 154, 0, 7, 4, 167, 0, 4, 3, 172]
theorem kJ0_isLatin1_aae02_0 (j : Nat) {b : UInt8} (hj : bJ0_isLatin1_aae02_0[j]? = some b) : AtB cJ0_isLatin1_aae02 (0 + j) b := at_of32 (by decide +kernel) j hj
theorem dJ0_isLatin1_aae02_0 : decode cJ0_isLatin1_aae02 0 = .ok (.getstatic 38, 3) := dq_178 (kJ0_isLatin1_aae02_0 0 rfl) (kJ0_isLatin1_aae02_0 1 rfl) (kJ0_isLatin1_aae02_0 2 rfl) rfl
theorem dJ0_isLatin1_aae02_3 : decode cJ0_isLatin1_aae02 3 = .ok (.ifCond .eq 14, 3) := dq_153 (kJ0_isLatin1_aae02_0 3 rfl) (kJ0_isLatin1_aae02_0 4 rfl) (kJ0_isLatin1_aae02_0 5 rfl) (by decide)
theorem dJ0_isLatin1_aae02_6 : decode cJ0_isLatin1_aae02 6 = .ok (.aload_n 0, 1) := dq_42 (kJ0_isLatin1_aae02_0 6 rfl)
theorem dJ0_isLatin1_aae02_7 : decode cJ0_isLatin1_aae02 7 = .ok (.getfield 15, 3) := dq_180 (kJ0_isLatin1_aae02_0 7 rfl) (kJ0_isLatin1_aae02_0 8 rfl) (kJ0_isLatin1_aae02_0 9 rfl) rfl
theorem dJ0_isLatin1_aae02_10 : decode cJ0_isLatin1_aae02 10 = .ok (.ifCond .ne 7, 3) := dq_154 (kJ0_isLatin1_aae02_0 10 rfl) (kJ0_isLatin1_aae02_0 11 rfl) (kJ0_isLatin1_aae02_0 12 rfl) (by decide)
theorem dJ0_isLatin1_aae02_13 : decode cJ0_isLatin1_aae02 13 = .ok (.iconst 1, 1) := dq_4 (kJ0_isLatin1_aae02_0 13 rfl)
theorem dJ0_isLatin1_aae02_14 : decode cJ0_isLatin1_aae02 14 = .ok (.goto 4, 3) := dq_167 (kJ0_isLatin1_aae02_0 14 rfl) (kJ0_isLatin1_aae02_0 15 rfl) (kJ0_isLatin1_aae02_0 16 rfl) (by decide)
theorem dJ0_isLatin1_aae02_17 : decode cJ0_isLatin1_aae02 17 = .ok (.iconst 0, 1) := dq_3 (kJ0_isLatin1_aae02_0 17 rfl)
theorem dJ0_isLatin1_aae02_18 : decode cJ0_isLatin1_aae02 18 = .ok (.ireturn, 1) := dq_172 (kJ0_isLatin1_aae02_0 18 rfl)

def bJ1_canEncode_9a6ad_0 : List UInt8 := [26, 155, 0, 14, 26, 17, 0, 255, 163, 0, 7, 4, 167, 0, 4, 3, 172]
theorem kJ1_canEncode_9a6ad_0 (j : Nat) {b : UInt8} (hj : bJ1_canEncode_9a6ad_0[j]? = some b) : AtB cJ1_canEncode_9a6ad (0 + j) b := at_of32 (by decide +kernel) j hj
theorem dJ1_canEncode_9a6ad_0 : decode cJ1_canEncode_9a6ad 0 = .ok (.iload_n 0, 1) := dq_26 (kJ1_canEncode_9a6ad_0 0 rfl)
theorem dJ1_canEncode_9a6ad_1 : decode cJ1_canEncode_9a6ad 1 = .ok (.ifCond .lt 14, 3) := dq_155 (kJ1_canEncode_9a6ad_0 1 rfl) (kJ1_canEncode_9a6ad_0 2 rfl) (kJ1_canEncode_9a6ad_0 3 rfl) (by decide)
theorem dJ1_canEncode_9a6ad_4 : decode cJ1_canEncode_9a6ad 4 = .ok (.iload_n 0, 1) := dq_26 (kJ1_canEncode_9a6ad_0 4 rfl)
theorem dJ1_canEncode_9a6ad_5 : decode cJ1_canEncode_9a6ad 5 = .ok (.sipush 255, 3) := dq_17 (kJ1_canEncode_9a6ad_0 5 rfl) (kJ1_canEncode_9a6ad_0 6 rfl) (kJ1_canEncode_9a6ad_0 7 rfl) (by decide)
theorem dJ1_canEncode_9a6ad_8 : decode cJ1_canEncode_9a6ad 8 = .ok (.if_icmp .gt 7, 3) := dq_163 (kJ1_canEncode_9a6ad_0 8 rfl) (kJ1_canEncode_9a6ad_0 9 rfl) (kJ1_canEncode_9a6ad_0 10 rfl) (by decide)
theorem dJ1_canEncode_9a6ad_11 : decode cJ1_canEncode_9a6ad 11 = .ok (.iconst 1, 1) := dq_4 (kJ1_canEncode_9a6ad_0 11 rfl)
theorem dJ1_canEncode_9a6ad_12 : decode cJ1_canEncode_9a6ad 12 = .ok (.goto 4, 3) := dq_167 (kJ1_canEncode_9a6ad_0 12 rfl) (kJ1_canEncode_9a6ad_0 13 rfl) (kJ1_canEncode_9a6ad_0 14 rfl) (by decide)
theorem dJ1_canEncode_9a6ad_15 : decode cJ1_canEncode_9a6ad 15 = .ok (.iconst 0, 1) := dq_3 (kJ1_canEncode_9a6ad_0 15 rfl)
theorem dJ1_canEncode_9a6ad_16 : decode cJ1_canEncode_9a6ad 16 = .ok (.ireturn, 1) := dq_172 (kJ1_canEncode_9a6ad_0 16 rfl)

def bJ1_indexOf_4cfef_0 : List UInt8 := [27, 184, 0, 88, 154, 0, 5, 2, 172, 28, 3, 184, 0, 92, 61, 29, 42, 190, 184, 0, 38, 62, 28, 29, 161, 0, 5, 2, 172, 42, 27, 28]
theorem kJ1_indexOf_4cfef_0 (j : Nat) {b : UInt8} (hj : bJ1_indexOf_4cfef_0[j]? = some b) : AtB cJ1_indexOf_4cfef (0 + j) b := at_of32 (by decide +kernel) j hj
def bJ1_indexOf_4cfef_1 : List UInt8 := [29, 184, 0, 95, 172]
theorem kJ1_indexOf_4cfef_1 (j : Nat) {b : UInt8} (hj : bJ1_indexOf_4cfef_1[j]? = some b) : AtB cJ1_indexOf_4cfef (32 + j) b := at_of32 (by decide +kernel) j hj
theorem dJ1_indexOf_4cfef_0 : decode cJ1_indexOf_4cfef 0 = .ok (.iload_n 1, 1) := dq_27 (kJ1_indexOf_4cfef_0 0 rfl)
theorem dJ1_indexOf_4cfef_1 : decode cJ1_indexOf_4cfef 1 = .ok (.invokestatic 88, 3) := dq_184 (kJ1_indexOf_4cfef_0 1 rfl) (kJ1_indexOf_4cfef_0 2 rfl) (kJ1_indexOf_4cfef_0 3 rfl) rfl
theorem dJ1_indexOf_4cfef_4 : decode cJ1_indexOf_4cfef 4 = .ok (.ifCond .ne 5, 3) := dq_154 (kJ1_indexOf_4cfef_0 4 rfl) (kJ1_indexOf_4cfef_0 5 rfl) (kJ1_indexOf_4cfef_0 6 rfl) (by decide)
theorem dJ1_indexOf_4cfef_7 : decode cJ1_indexOf_4cfef 7 = .ok (.iconst (-1), 1) := dq_2 (kJ1_indexOf_4cfef_0 7 rfl)
theorem dJ1_indexOf_4cfef_8 : decode cJ1_indexOf_4cfef 8 = .ok (.ireturn, 1) := dq_172 (kJ1_indexOf_4cfef_0 8 rfl)
theorem dJ1_indexOf_4cfef_9 : decode cJ1_indexOf_4cfef 9 = .ok (.iload_n 2, 1) := dq_28 (kJ1_indexOf_4cfef_0 9 rfl)
theorem dJ1_indexOf_4cfef_10 : decode cJ1_indexOf_4cfef 10 = .ok (.iconst 0, 1) := dq_3 (kJ1_indexOf_4cfef_0 10 rfl)
theorem dJ1_indexOf_4cfef_11 : decode cJ1_indexOf_4cfef 11 = .ok (.invokestatic 92, 3) := dq_184 (kJ1_indexOf_4cfef_0 11 rfl) (kJ1_indexOf_4cfef_0 12 rfl) (kJ1_indexOf_4cfef_0 13 rfl) rfl
theorem dJ1_indexOf_4cfef_14 : decode cJ1_indexOf_4cfef 14 = .ok (.istore_n 2, 1) := dq_61 (kJ1_indexOf_4cfef_0 14 rfl)
theorem dJ1_indexOf_4cfef_15 : decode cJ1_indexOf_4cfef 15 = .ok (.iload_n 3, 1) := dq_29 (kJ1_indexOf_4cfef_0 15 rfl)
theorem dJ1_indexOf_4cfef_16 : decode cJ1_indexOf_4cfef 16 = .ok (.aload_n 0, 1) := dq_42 (kJ1_indexOf_4cfef_0 16 rfl)
theorem dJ1_indexOf_4cfef_17 : decode cJ1_indexOf_4cfef 17 = .ok (.arraylength, 1) := dq_190 (kJ1_indexOf_4cfef_0 17 rfl)
theorem dJ1_indexOf_4cfef_18 : decode cJ1_indexOf_4cfef 18 = .ok (.invokestatic 38, 3) := dq_184 (kJ1_indexOf_4cfef_0 18 rfl) (kJ1_indexOf_4cfef_0 19 rfl) (kJ1_indexOf_4cfef_0 20 rfl) rfl
theorem dJ1_indexOf_4cfef_21 : decode cJ1_indexOf_4cfef 21 = .ok (.istore_n 3, 1) := dq_62 (kJ1_indexOf_4cfef_0 21 rfl)
theorem dJ1_indexOf_4cfef_22 : decode cJ1_indexOf_4cfef 22 = .ok (.iload_n 2, 1) := dq_28 (kJ1_indexOf_4cfef_0 22 rfl)
theorem dJ1_indexOf_4cfef_23 : decode cJ1_indexOf_4cfef 23 = .ok (.iload_n 3, 1) := dq_29 (kJ1_indexOf_4cfef_0 23 rfl)
theorem dJ1_indexOf_4cfef_24 : decode cJ1_indexOf_4cfef 24 = .ok (.if_icmp .lt 5, 3) := dq_161 (kJ1_indexOf_4cfef_0 24 rfl) (kJ1_indexOf_4cfef_0 25 rfl) (kJ1_indexOf_4cfef_0 26 rfl) (by decide)
theorem dJ1_indexOf_4cfef_27 : decode cJ1_indexOf_4cfef 27 = .ok (.iconst (-1), 1) := dq_2 (kJ1_indexOf_4cfef_0 27 rfl)
theorem dJ1_indexOf_4cfef_28 : decode cJ1_indexOf_4cfef 28 = .ok (.ireturn, 1) := dq_172 (kJ1_indexOf_4cfef_0 28 rfl)
theorem dJ1_indexOf_4cfef_29 : decode cJ1_indexOf_4cfef 29 = .ok (.aload_n 0, 1) := dq_42 (kJ1_indexOf_4cfef_0 29 rfl)
theorem dJ1_indexOf_4cfef_30 : decode cJ1_indexOf_4cfef 30 = .ok (.iload_n 1, 1) := dq_27 (kJ1_indexOf_4cfef_0 30 rfl)
theorem dJ1_indexOf_4cfef_31 : decode cJ1_indexOf_4cfef 31 = .ok (.iload_n 2, 1) := dq_28 (kJ1_indexOf_4cfef_0 31 rfl)
theorem dJ1_indexOf_4cfef_32 : decode cJ1_indexOf_4cfef 32 = .ok (.iload_n 3, 1) := dq_29 (kJ1_indexOf_4cfef_1 0 rfl)
theorem dJ1_indexOf_4cfef_33 : decode cJ1_indexOf_4cfef 33 = .ok (.invokestatic 95, 3) := dq_184 (kJ1_indexOf_4cfef_1 1 rfl) (kJ1_indexOf_4cfef_1 2 rfl) (kJ1_indexOf_4cfef_1 3 rfl) rfl
theorem dJ1_indexOf_4cfef_36 : decode cJ1_indexOf_4cfef 36 = .ok (.ireturn, 1) := dq_172 (kJ1_indexOf_4cfef_1 4 rfl)

def bJ1_indexOfChar_4cfef_0 : List UInt8 := [27, 145, 54, 4, 28, 54, 5, 21, 5, 29, 162, 0, 21, 42, 21, 5, 51, 21, 4, 160, 0, 6, 21, 5, 172, 132, 5, 1, 167, 255, 235, 2]
theorem kJ1_indexOfChar_4cfef_0 (j : Nat) {b : UInt8} (hj : bJ1_indexOfChar_4cfef_0[j]? = some b) : AtB cJ1_indexOfChar_4cfef (0 + j) b := at_of32 (by decide +kernel) j hj
def bJ1_indexOfChar_4cfef_1 : List UInt8 := [172]
theorem kJ1_indexOfChar_4cfef_1 (j : Nat) {b : UInt8} (hj : bJ1_indexOfChar_4cfef_1[j]? = some b) : AtB cJ1_indexOfChar_4cfef (32 + j) b := at_of32 (by decide +kernel) j hj
theorem dJ1_indexOfChar_4cfef_0 : decode cJ1_indexOfChar_4cfef 0 = .ok (.iload_n 1, 1) := dq_27 (kJ1_indexOfChar_4cfef_0 0 rfl)
theorem dJ1_indexOfChar_4cfef_1 : decode cJ1_indexOfChar_4cfef 1 = .ok (.i2b, 1) := dq_145 (kJ1_indexOfChar_4cfef_0 1 rfl)
theorem dJ1_indexOfChar_4cfef_2 : decode cJ1_indexOfChar_4cfef 2 = .ok (.istore 4, 2) := dq_54 (kJ1_indexOfChar_4cfef_0 2 rfl) (kJ1_indexOfChar_4cfef_0 3 rfl) rfl
theorem dJ1_indexOfChar_4cfef_4 : decode cJ1_indexOfChar_4cfef 4 = .ok (.iload_n 2, 1) := dq_28 (kJ1_indexOfChar_4cfef_0 4 rfl)
theorem dJ1_indexOfChar_4cfef_5 : decode cJ1_indexOfChar_4cfef 5 = .ok (.istore 5, 2) := dq_54 (kJ1_indexOfChar_4cfef_0 5 rfl) (kJ1_indexOfChar_4cfef_0 6 rfl) rfl
theorem dJ1_indexOfChar_4cfef_7 : decode cJ1_indexOfChar_4cfef 7 = .ok (.iload 5, 2) := dq_21 (kJ1_indexOfChar_4cfef_0 7 rfl) (kJ1_indexOfChar_4cfef_0 8 rfl) rfl
theorem dJ1_indexOfChar_4cfef_9 : decode cJ1_indexOfChar_4cfef 9 = .ok (.iload_n 3, 1) := dq_29 (kJ1_indexOfChar_4cfef_0 9 rfl)
theorem dJ1_indexOfChar_4cfef_10 : decode cJ1_indexOfChar_4cfef 10 = .ok (.if_icmp .ge 21, 3) := dq_162 (kJ1_indexOfChar_4cfef_0 10 rfl) (kJ1_indexOfChar_4cfef_0 11 rfl) (kJ1_indexOfChar_4cfef_0 12 rfl) (by decide)
theorem dJ1_indexOfChar_4cfef_13 : decode cJ1_indexOfChar_4cfef 13 = .ok (.aload_n 0, 1) := dq_42 (kJ1_indexOfChar_4cfef_0 13 rfl)
theorem dJ1_indexOfChar_4cfef_14 : decode cJ1_indexOfChar_4cfef 14 = .ok (.iload 5, 2) := dq_21 (kJ1_indexOfChar_4cfef_0 14 rfl) (kJ1_indexOfChar_4cfef_0 15 rfl) rfl
theorem dJ1_indexOfChar_4cfef_16 : decode cJ1_indexOfChar_4cfef 16 = .ok (.baload, 1) := dq_51 (kJ1_indexOfChar_4cfef_0 16 rfl)
theorem dJ1_indexOfChar_4cfef_17 : decode cJ1_indexOfChar_4cfef 17 = .ok (.iload 4, 2) := dq_21 (kJ1_indexOfChar_4cfef_0 17 rfl) (kJ1_indexOfChar_4cfef_0 18 rfl) rfl
theorem dJ1_indexOfChar_4cfef_19 : decode cJ1_indexOfChar_4cfef 19 = .ok (.if_icmp .ne 6, 3) := dq_160 (kJ1_indexOfChar_4cfef_0 19 rfl) (kJ1_indexOfChar_4cfef_0 20 rfl) (kJ1_indexOfChar_4cfef_0 21 rfl) (by decide)
theorem dJ1_indexOfChar_4cfef_22 : decode cJ1_indexOfChar_4cfef 22 = .ok (.iload 5, 2) := dq_21 (kJ1_indexOfChar_4cfef_0 22 rfl) (kJ1_indexOfChar_4cfef_0 23 rfl) rfl
theorem dJ1_indexOfChar_4cfef_24 : decode cJ1_indexOfChar_4cfef 24 = .ok (.ireturn, 1) := dq_172 (kJ1_indexOfChar_4cfef_0 24 rfl)
theorem dJ1_indexOfChar_4cfef_25 : decode cJ1_indexOfChar_4cfef 25 = .ok (.iinc 5 1, 3) := dq_132 (kJ1_indexOfChar_4cfef_0 25 rfl) (kJ1_indexOfChar_4cfef_0 26 rfl) (kJ1_indexOfChar_4cfef_0 27 rfl) rfl (by decide)
theorem dJ1_indexOfChar_4cfef_28 : decode cJ1_indexOfChar_4cfef 28 = .ok (.goto (-21), 3) := dq_167 (kJ1_indexOfChar_4cfef_0 28 rfl) (kJ1_indexOfChar_4cfef_0 29 rfl) (kJ1_indexOfChar_4cfef_0 30 rfl) (by decide)
theorem dJ1_indexOfChar_4cfef_31 : decode cJ1_indexOfChar_4cfef 31 = .ok (.iconst (-1), 1) := dq_2 (kJ1_indexOfChar_4cfef_0 31 rfl)
theorem dJ1_indexOfChar_4cfef_32 : decode cJ1_indexOfChar_4cfef 32 = .ok (.ireturn, 1) := dq_172 (kJ1_indexOfChar_4cfef_1 0 rfl)
