def bX0_leastDays_0 : List UInt8 := [42, 180, 0, 46, 2, 184, 0, 52, 42, 180, 0, 49, 3, 184, 0, 52, 42, 180, 0, 46, 27, 3, 184, 0, 95, 3, 62, 29, 17, 0, 144, 162]
theorem kX0_leastDays_0 (j : Nat) {b : UInt8} (hj : bX0_leastDays_0[j]? = some b) : AtB cX0_leastDays (0 + j) b := at_of32 (by decide +kernel) j hj
def bX0_leastDays_1 : List UInt8 := [0, 70, 42, 182, 0, 99, 54, 4, 21, 4, 2, 159, 0, 58, 21, 4, 28, 160, 0, 6, 167, 0, 49, 42, 180, 0, 49, 21, 4, 4, 184, 0]
theorem kX0_leastDays_1 (j : Nat) {b : UInt8} (hj : bX0_leastDays_1[j]? = some b) : AtB cX0_leastDays (32 + j) b := at_of32 (by decide +kernel) j hj
def bX0_leastDays_2 : List UInt8 := [95, 3, 54, 5, 21, 5, 16, 8, 162, 0, 23, 42, 21, 4, 42, 21, 4, 21, 5, 182, 0, 92, 182, 0, 103, 132, 5, 1, 167, 255, 232, 132]
theorem kX0_leastDays_2 (j : Nat) {b : UInt8} (hj : bX0_leastDays_2[j]? = some b) : AtB cX0_leastDays (64 + j) b := at_of32 (by decide +kernel) j hj
def bX0_leastDays_3 : List UInt8 := [3, 1, 167, 255, 185, 42, 28, 182, 0, 62, 153, 0, 14, 42, 180, 0, 46, 28, 184, 0, 58, 167, 0, 4, 2, 172]
theorem kX0_leastDays_3 (j : Nat) {b : UInt8} (hj : bX0_leastDays_3[j]? = some b) : AtB cX0_leastDays (96 + j) b := at_of32 (by decide +kernel) j hj
theorem dX0_leastDays_0 : decode cX0_leastDays 0 = .ok (.aload_n 0, 1) := dq_42 (kX0_leastDays_0 0 rfl)
theorem dX0_leastDays_1 : decode cX0_leastDays 1 = .ok (.getfield 46, 3) := dq_180 (kX0_leastDays_0 1 rfl) (kX0_leastDays_0 2 rfl) (kX0_leastDays_0 3 rfl) rfl
theorem dX0_leastDays_4 : decode cX0_leastDays 4 = .ok (.iconst (-1), 1) := dq_2 (kX0_leastDays_0 4 rfl)
theorem dX0_leastDays_5 : decode cX0_leastDays 5 = .ok (.invokestatic 52, 3) := dq_184 (kX0_leastDays_0 5 rfl) (kX0_leastDays_0 6 rfl) (kX0_leastDays_0 7 rfl) rfl
theorem dX0_leastDays_8 : decode cX0_leastDays 8 = .ok (.aload_n 0, 1) := dq_42 (kX0_leastDays_0 8 rfl)
theorem dX0_leastDays_9 : decode cX0_leastDays 9 = .ok (.getfield 49, 3) := dq_180 (kX0_leastDays_0 9 rfl) (kX0_leastDays_0 10 rfl) (kX0_leastDays_0 11 rfl) rfl
theorem dX0_leastDays_12 : decode cX0_leastDays 12 = .ok (.iconst 0, 1) := dq_3 (kX0_leastDays_0 12 rfl)
theorem dX0_leastDays_13 : decode cX0_leastDays 13 = .ok (.invokestatic 52, 3) := dq_184 (kX0_leastDays_0 13 rfl) (kX0_leastDays_0 14 rfl) (kX0_leastDays_0 15 rfl) rfl
theorem dX0_leastDays_16 : decode cX0_leastDays 16 = .ok (.aload_n 0, 1) := dq_42 (kX0_leastDays_0 16 rfl)
theorem dX0_leastDays_17 : decode cX0_leastDays 17 = .ok (.getfield 46, 3) := dq_180 (kX0_leastDays_0 17 rfl) (kX0_leastDays_0 18 rfl) (kX0_leastDays_0 19 rfl) rfl
theorem dX0_leastDays_20 : decode cX0_leastDays 20 = .ok (.iload_n 1, 1) := dq_27 (kX0_leastDays_0 20 rfl)
theorem dX0_leastDays_21 : decode cX0_leastDays 21 = .ok (.iconst 0, 1) := dq_3 (kX0_leastDays_0 21 rfl)
theorem dX0_leastDays_22 : decode cX0_leastDays 22 = .ok (.invokestatic 95, 3) := dq_184 (kX0_leastDays_0 22 rfl) (kX0_leastDays_0 23 rfl) (kX0_leastDays_0 24 rfl) rfl
theorem dX0_leastDays_25 : decode cX0_leastDays 25 = .ok (.iconst 0, 1) := dq_3 (kX0_leastDays_0 25 rfl)
theorem dX0_leastDays_26 : decode cX0_leastDays 26 = .ok (.istore_n 3, 1) := dq_62 (kX0_leastDays_0 26 rfl)
theorem dX0_leastDays_27 : decode cX0_leastDays 27 = .ok (.iload_n 3, 1) := dq_29 (kX0_leastDays_0 27 rfl)
theorem dX0_leastDays_28 : decode cX0_leastDays 28 = .ok (.sipush 144, 3) := dq_17 (kX0_leastDays_0 28 rfl) (kX0_leastDays_0 29 rfl) (kX0_leastDays_0 30 rfl) (by decide)
theorem dX0_leastDays_31 : decode cX0_leastDays 31 = .ok (.if_icmp .ge 70, 3) := dq_162 (kX0_leastDays_0 31 rfl) (kX0_leastDays_1 0 rfl) (kX0_leastDays_1 1 rfl) (by decide)
theorem dX0_leastDays_34 : decode cX0_leastDays 34 = .ok (.aload_n 0, 1) := dq_42 (kX0_leastDays_1 2 rfl)
theorem dX0_leastDays_35 : decode cX0_leastDays 35 = .ok (.invokevirtual 99, 3) := dq_182 (kX0_leastDays_1 3 rfl) (kX0_leastDays_1 4 rfl) (kX0_leastDays_1 5 rfl) rfl
theorem dX0_leastDays_38 : decode cX0_leastDays 38 = .ok (.istore 4, 2) := dq_54 (kX0_leastDays_1 6 rfl) (kX0_leastDays_1 7 rfl) rfl
theorem dX0_leastDays_40 : decode cX0_leastDays 40 = .ok (.iload 4, 2) := dq_21 (kX0_leastDays_1 8 rfl) (kX0_leastDays_1 9 rfl) rfl
theorem dX0_leastDays_42 : decode cX0_leastDays 42 = .ok (.iconst (-1), 1) := dq_2 (kX0_leastDays_1 10 rfl)
theorem dX0_leastDays_43 : decode cX0_leastDays 43 = .ok (.if_icmp .eq 58, 3) := dq_159 (kX0_leastDays_1 11 rfl) (kX0_leastDays_1 12 rfl) (kX0_leastDays_1 13 rfl) (by decide)
theorem dX0_leastDays_46 : decode cX0_leastDays 46 = .ok (.iload 4, 2) := dq_21 (kX0_leastDays_1 14 rfl) (kX0_leastDays_1 15 rfl) rfl
theorem dX0_leastDays_48 : decode cX0_leastDays 48 = .ok (.iload_n 2, 1) := dq_28 (kX0_leastDays_1 16 rfl)
theorem dX0_leastDays_49 : decode cX0_leastDays 49 = .ok (.if_icmp .ne 6, 3) := dq_160 (kX0_leastDays_1 17 rfl) (kX0_leastDays_1 18 rfl) (kX0_leastDays_1 19 rfl) (by decide)
theorem dX0_leastDays_52 : decode cX0_leastDays 52 = .ok (.goto 49, 3) := dq_167 (kX0_leastDays_1 20 rfl) (kX0_leastDays_1 21 rfl) (kX0_leastDays_1 22 rfl) (by decide)
theorem dX0_leastDays_55 : decode cX0_leastDays 55 = .ok (.aload_n 0, 1) := dq_42 (kX0_leastDays_1 23 rfl)
theorem dX0_leastDays_56 : decode cX0_leastDays 56 = .ok (.getfield 49, 3) := dq_180 (kX0_leastDays_1 24 rfl) (kX0_leastDays_1 25 rfl) (kX0_leastDays_1 26 rfl) rfl
theorem dX0_leastDays_59 : decode cX0_leastDays 59 = .ok (.iload 4, 2) := dq_21 (kX0_leastDays_1 27 rfl) (kX0_leastDays_1 28 rfl) rfl
theorem dX0_leastDays_61 : decode cX0_leastDays 61 = .ok (.iconst 1, 1) := dq_4 (kX0_leastDays_1 29 rfl)
theorem dX0_leastDays_62 : decode cX0_leastDays 62 = .ok (.invokestatic 95, 3) := dq_184 (kX0_leastDays_1 30 rfl) (kX0_leastDays_1 31 rfl) (kX0_leastDays_2 0 rfl) rfl
theorem dX0_leastDays_65 : decode cX0_leastDays 65 = .ok (.iconst 0, 1) := dq_3 (kX0_leastDays_2 1 rfl)
theorem dX0_leastDays_66 : decode cX0_leastDays 66 = .ok (.istore 5, 2) := dq_54 (kX0_leastDays_2 2 rfl) (kX0_leastDays_2 3 rfl) rfl
theorem dX0_leastDays_68 : decode cX0_leastDays 68 = .ok (.iload 5, 2) := dq_21 (kX0_leastDays_2 4 rfl) (kX0_leastDays_2 5 rfl) rfl
theorem dX0_leastDays_70 : decode cX0_leastDays 70 = .ok (.bipush 8, 2) := dq_16 (kX0_leastDays_2 6 rfl) (kX0_leastDays_2 7 rfl) (by decide)
theorem dX0_leastDays_72 : decode cX0_leastDays 72 = .ok (.if_icmp .ge 23, 3) := dq_162 (kX0_leastDays_2 8 rfl) (kX0_leastDays_2 9 rfl) (kX0_leastDays_2 10 rfl) (by decide)
theorem dX0_leastDays_75 : decode cX0_leastDays 75 = .ok (.aload_n 0, 1) := dq_42 (kX0_leastDays_2 11 rfl)
theorem dX0_leastDays_76 : decode cX0_leastDays 76 = .ok (.iload 4, 2) := dq_21 (kX0_leastDays_2 12 rfl) (kX0_leastDays_2 13 rfl) rfl
theorem dX0_leastDays_78 : decode cX0_leastDays 78 = .ok (.aload_n 0, 1) := dq_42 (kX0_leastDays_2 14 rfl)
theorem dX0_leastDays_79 : decode cX0_leastDays 79 = .ok (.iload 4, 2) := dq_21 (kX0_leastDays_2 15 rfl) (kX0_leastDays_2 16 rfl) rfl
theorem dX0_leastDays_81 : decode cX0_leastDays 81 = .ok (.iload 5, 2) := dq_21 (kX0_leastDays_2 17 rfl) (kX0_leastDays_2 18 rfl) rfl
theorem dX0_leastDays_83 : decode cX0_leastDays 83 = .ok (.invokevirtual 92, 3) := dq_182 (kX0_leastDays_2 19 rfl) (kX0_leastDays_2 20 rfl) (kX0_leastDays_2 21 rfl) rfl
theorem dX0_leastDays_86 : decode cX0_leastDays 86 = .ok (.invokevirtual 103, 3) := dq_182 (kX0_leastDays_2 22 rfl) (kX0_leastDays_2 23 rfl) (kX0_leastDays_2 24 rfl) rfl
theorem dX0_leastDays_89 : decode cX0_leastDays 89 = .ok (.iinc 5 1, 3) := dq_132 (kX0_leastDays_2 25 rfl) (kX0_leastDays_2 26 rfl) (kX0_leastDays_2 27 rfl) rfl (by decide)
theorem dX0_leastDays_92 : decode cX0_leastDays 92 = .ok (.goto (-24), 3) := dq_167 (kX0_leastDays_2 28 rfl) (kX0_leastDays_2 29 rfl) (kX0_leastDays_2 30 rfl) (by decide)
theorem dX0_leastDays_95 : decode cX0_leastDays 95 = .ok (.iinc 3 1, 3) := dq_132 (kX0_leastDays_2 31 rfl) (kX0_leastDays_3 0 rfl) (kX0_leastDays_3 1 rfl) rfl (by decide)
theorem dX0_leastDays_98 : decode cX0_leastDays 98 = .ok (.goto (-71), 3) := dq_167 (kX0_leastDays_3 2 rfl) (kX0_leastDays_3 3 rfl) (kX0_leastDays_3 4 rfl) (by decide)
theorem dX0_leastDays_101 : decode cX0_leastDays 101 = .ok (.aload_n 0, 1) := dq_42 (kX0_leastDays_3 5 rfl)
theorem dX0_leastDays_102 : decode cX0_leastDays 102 = .ok (.iload_n 2, 1) := dq_28 (kX0_leastDays_3 6 rfl)
theorem dX0_leastDays_103 : decode cX0_leastDays 103 = .ok (.invokevirtual 62, 3) := dq_182 (kX0_leastDays_3 7 rfl) (kX0_leastDays_3 8 rfl) (kX0_leastDays_3 9 rfl) rfl
theorem dX0_leastDays_106 : decode cX0_leastDays 106 = .ok (.ifCond .eq 14, 3) := dq_153 (kX0_leastDays_3 10 rfl) (kX0_leastDays_3 11 rfl) (kX0_leastDays_3 12 rfl) (by decide)
theorem dX0_leastDays_109 : decode cX0_leastDays 109 = .ok (.aload_n 0, 1) := dq_42 (kX0_leastDays_3 13 rfl)
theorem dX0_leastDays_110 : decode cX0_leastDays 110 = .ok (.getfield 46, 3) := dq_180 (kX0_leastDays_3 14 rfl) (kX0_leastDays_3 15 rfl) (kX0_leastDays_3 16 rfl) rfl
theorem dX0_leastDays_113 : decode cX0_leastDays 113 = .ok (.iload_n 2, 1) := dq_28 (kX0_leastDays_3 17 rfl)
theorem dX0_leastDays_114 : decode cX0_leastDays 114 = .ok (.invokestatic 58, 3) := dq_184 (kX0_leastDays_3 18 rfl) (kX0_leastDays_3 19 rfl) (kX0_leastDays_3 20 rfl) rfl
theorem dX0_leastDays_117 : decode cX0_leastDays 117 = .ok (.goto 4, 3) := dq_167 (kX0_leastDays_3 21 rfl) (kX0_leastDays_3 22 rfl) (kX0_leastDays_3 23 rfl) (by decide)
theorem dX0_leastDays_120 : decode cX0_leastDays 120 = .ok (.iconst (-1), 1) := dq_2 (kX0_leastDays_3 24 rfl)
theorem dX0_leastDays_121 : decode cX0_leastDays 121 = .ok (.ireturn, 1) := dq_172 (kX0_leastDays_3 25 rfl)

def bX0_nearestOpen_0 : List UInt8 := [2, 60, 3, 61, 28, 42, 180, 0, 21, 42, 180, 0, 24, 104, 162, 0, 65, 42, 180, 0, 46, 28, 184, 0, 58, 62, 29, 2, 159, 0, 18, 42]
theorem kX0_nearestOpen_0 (j : Nat) {b : UInt8} (hj : bX0_nearestOpen_0[j]? = some b) : AtB cX0_nearestOpen (0 + j) b := at_of32 (by decide +kernel) j hj
def bX0_nearestOpen_1 : List UInt8 := [180, 0, 49, 28, 184, 0, 58, 154, 0, 7, 4, 167, 0, 4, 3, 54, 4, 21, 4, 153, 0, 22, 27, 2, 159, 0, 15, 29, 42, 180, 0, 46]
theorem kX0_nearestOpen_1 (j : Nat) {b : UInt8} (hj : bX0_nearestOpen_1[j]? = some b) : AtB cX0_nearestOpen (32 + j) b := at_of32 (by decide +kernel) j hj
def bX0_nearestOpen_2 : List UInt8 := [27, 184, 0, 58, 162, 0, 5, 28, 60, 132, 2, 1, 167, 255, 184, 27, 172]
theorem kX0_nearestOpen_2 (j : Nat) {b : UInt8} (hj : bX0_nearestOpen_2[j]? = some b) : AtB cX0_nearestOpen (64 + j) b := at_of32 (by decide +kernel) j hj
theorem dX0_nearestOpen_0 : decode cX0_nearestOpen 0 = .ok (.iconst (-1), 1) := dq_2 (kX0_nearestOpen_0 0 rfl)
theorem dX0_nearestOpen_1 : decode cX0_nearestOpen 1 = .ok (.istore_n 1, 1) := dq_60 (kX0_nearestOpen_0 1 rfl)
theorem dX0_nearestOpen_2 : decode cX0_nearestOpen 2 = .ok (.iconst 0, 1) := dq_3 (kX0_nearestOpen_0 2 rfl)
theorem dX0_nearestOpen_3 : decode cX0_nearestOpen 3 = .ok (.istore_n 2, 1) := dq_61 (kX0_nearestOpen_0 3 rfl)
theorem dX0_nearestOpen_4 : decode cX0_nearestOpen 4 = .ok (.iload_n 2, 1) := dq_28 (kX0_nearestOpen_0 4 rfl)
theorem dX0_nearestOpen_5 : decode cX0_nearestOpen 5 = .ok (.aload_n 0, 1) := dq_42 (kX0_nearestOpen_0 5 rfl)
theorem dX0_nearestOpen_6 : decode cX0_nearestOpen 6 = .ok (.getfield 21, 3) := dq_180 (kX0_nearestOpen_0 6 rfl) (kX0_nearestOpen_0 7 rfl) (kX0_nearestOpen_0 8 rfl) rfl
theorem dX0_nearestOpen_9 : decode cX0_nearestOpen 9 = .ok (.aload_n 0, 1) := dq_42 (kX0_nearestOpen_0 9 rfl)
theorem dX0_nearestOpen_10 : decode cX0_nearestOpen 10 = .ok (.getfield 24, 3) := dq_180 (kX0_nearestOpen_0 10 rfl) (kX0_nearestOpen_0 11 rfl) (kX0_nearestOpen_0 12 rfl) rfl
theorem dX0_nearestOpen_13 : decode cX0_nearestOpen 13 = .ok (.imul, 1) := dq_104 (kX0_nearestOpen_0 13 rfl)
theorem dX0_nearestOpen_14 : decode cX0_nearestOpen 14 = .ok (.if_icmp .ge 65, 3) := dq_162 (kX0_nearestOpen_0 14 rfl) (kX0_nearestOpen_0 15 rfl) (kX0_nearestOpen_0 16 rfl) (by decide)
theorem dX0_nearestOpen_17 : decode cX0_nearestOpen 17 = .ok (.aload_n 0, 1) := dq_42 (kX0_nearestOpen_0 17 rfl)
theorem dX0_nearestOpen_18 : decode cX0_nearestOpen 18 = .ok (.getfield 46, 3) := dq_180 (kX0_nearestOpen_0 18 rfl) (kX0_nearestOpen_0 19 rfl) (kX0_nearestOpen_0 20 rfl) rfl
theorem dX0_nearestOpen_21 : decode cX0_nearestOpen 21 = .ok (.iload_n 2, 1) := dq_28 (kX0_nearestOpen_0 21 rfl)
theorem dX0_nearestOpen_22 : decode cX0_nearestOpen 22 = .ok (.invokestatic 58, 3) := dq_184 (kX0_nearestOpen_0 22 rfl) (kX0_nearestOpen_0 23 rfl) (kX0_nearestOpen_0 24 rfl) rfl
theorem dX0_nearestOpen_25 : decode cX0_nearestOpen 25 = .ok (.istore_n 3, 1) := dq_62 (kX0_nearestOpen_0 25 rfl)
theorem dX0_nearestOpen_26 : decode cX0_nearestOpen 26 = .ok (.iload_n 3, 1) := dq_29 (kX0_nearestOpen_0 26 rfl)
theorem dX0_nearestOpen_27 : decode cX0_nearestOpen 27 = .ok (.iconst (-1), 1) := dq_2 (kX0_nearestOpen_0 27 rfl)
theorem dX0_nearestOpen_28 : decode cX0_nearestOpen 28 = .ok (.if_icmp .eq 18, 3) := dq_159 (kX0_nearestOpen_0 28 rfl) (kX0_nearestOpen_0 29 rfl) (kX0_nearestOpen_0 30 rfl) (by decide)
theorem dX0_nearestOpen_31 : decode cX0_nearestOpen 31 = .ok (.aload_n 0, 1) := dq_42 (kX0_nearestOpen_0 31 rfl)
theorem dX0_nearestOpen_32 : decode cX0_nearestOpen 32 = .ok (.getfield 49, 3) := dq_180 (kX0_nearestOpen_1 0 rfl) (kX0_nearestOpen_1 1 rfl) (kX0_nearestOpen_1 2 rfl) rfl
theorem dX0_nearestOpen_35 : decode cX0_nearestOpen 35 = .ok (.iload_n 2, 1) := dq_28 (kX0_nearestOpen_1 3 rfl)
theorem dX0_nearestOpen_36 : decode cX0_nearestOpen 36 = .ok (.invokestatic 58, 3) := dq_184 (kX0_nearestOpen_1 4 rfl) (kX0_nearestOpen_1 5 rfl) (kX0_nearestOpen_1 6 rfl) rfl
theorem dX0_nearestOpen_39 : decode cX0_nearestOpen 39 = .ok (.ifCond .ne 7, 3) := dq_154 (kX0_nearestOpen_1 7 rfl) (kX0_nearestOpen_1 8 rfl) (kX0_nearestOpen_1 9 rfl) (by decide)
theorem dX0_nearestOpen_42 : decode cX0_nearestOpen 42 = .ok (.iconst 1, 1) := dq_4 (kX0_nearestOpen_1 10 rfl)
theorem dX0_nearestOpen_43 : decode cX0_nearestOpen 43 = .ok (.goto 4, 3) := dq_167 (kX0_nearestOpen_1 11 rfl) (kX0_nearestOpen_1 12 rfl) (kX0_nearestOpen_1 13 rfl) (by decide)
theorem dX0_nearestOpen_46 : decode cX0_nearestOpen 46 = .ok (.iconst 0, 1) := dq_3 (kX0_nearestOpen_1 14 rfl)
theorem dX0_nearestOpen_47 : decode cX0_nearestOpen 47 = .ok (.istore 4, 2) := dq_54 (kX0_nearestOpen_1 15 rfl) (kX0_nearestOpen_1 16 rfl) rfl
theorem dX0_nearestOpen_49 : decode cX0_nearestOpen 49 = .ok (.iload 4, 2) := dq_21 (kX0_nearestOpen_1 17 rfl) (kX0_nearestOpen_1 18 rfl) rfl
theorem dX0_nearestOpen_51 : decode cX0_nearestOpen 51 = .ok (.ifCond .eq 22, 3) := dq_153 (kX0_nearestOpen_1 19 rfl) (kX0_nearestOpen_1 20 rfl) (kX0_nearestOpen_1 21 rfl) (by decide)
theorem dX0_nearestOpen_54 : decode cX0_nearestOpen 54 = .ok (.iload_n 1, 1) := dq_27 (kX0_nearestOpen_1 22 rfl)
theorem dX0_nearestOpen_55 : decode cX0_nearestOpen 55 = .ok (.iconst (-1), 1) := dq_2 (kX0_nearestOpen_1 23 rfl)
theorem dX0_nearestOpen_56 : decode cX0_nearestOpen 56 = .ok (.if_icmp .eq 15, 3) := dq_159 (kX0_nearestOpen_1 24 rfl) (kX0_nearestOpen_1 25 rfl) (kX0_nearestOpen_1 26 rfl) (by decide)
theorem dX0_nearestOpen_59 : decode cX0_nearestOpen 59 = .ok (.iload_n 3, 1) := dq_29 (kX0_nearestOpen_1 27 rfl)
theorem dX0_nearestOpen_60 : decode cX0_nearestOpen 60 = .ok (.aload_n 0, 1) := dq_42 (kX0_nearestOpen_1 28 rfl)
theorem dX0_nearestOpen_61 : decode cX0_nearestOpen 61 = .ok (.getfield 46, 3) := dq_180 (kX0_nearestOpen_1 29 rfl) (kX0_nearestOpen_1 30 rfl) (kX0_nearestOpen_1 31 rfl) rfl
theorem dX0_nearestOpen_64 : decode cX0_nearestOpen 64 = .ok (.iload_n 1, 1) := dq_27 (kX0_nearestOpen_2 0 rfl)
theorem dX0_nearestOpen_65 : decode cX0_nearestOpen 65 = .ok (.invokestatic 58, 3) := dq_184 (kX0_nearestOpen_2 1 rfl) (kX0_nearestOpen_2 2 rfl) (kX0_nearestOpen_2 3 rfl) rfl
theorem dX0_nearestOpen_68 : decode cX0_nearestOpen 68 = .ok (.if_icmp .ge 5, 3) := dq_162 (kX0_nearestOpen_2 4 rfl) (kX0_nearestOpen_2 5 rfl) (kX0_nearestOpen_2 6 rfl) (by decide)
theorem dX0_nearestOpen_71 : decode cX0_nearestOpen 71 = .ok (.iload_n 2, 1) := dq_28 (kX0_nearestOpen_2 7 rfl)
theorem dX0_nearestOpen_72 : decode cX0_nearestOpen 72 = .ok (.istore_n 1, 1) := dq_60 (kX0_nearestOpen_2 8 rfl)
theorem dX0_nearestOpen_73 : decode cX0_nearestOpen 73 = .ok (.iinc 2 1, 3) := dq_132 (kX0_nearestOpen_2 9 rfl) (kX0_nearestOpen_2 10 rfl) (kX0_nearestOpen_2 11 rfl) rfl (by decide)
theorem dX0_nearestOpen_76 : decode cX0_nearestOpen 76 = .ok (.goto (-72), 3) := dq_167 (kX0_nearestOpen_2 12 rfl) (kX0_nearestOpen_2 13 rfl) (kX0_nearestOpen_2 14 rfl) (by decide)
theorem dX0_nearestOpen_79 : decode cX0_nearestOpen 79 = .ok (.iload_n 1, 1) := dq_27 (kX0_nearestOpen_2 15 rfl)
theorem dX0_nearestOpen_80 : decode cX0_nearestOpen 80 = .ok (.ireturn, 1) := dq_172 (kX0_nearestOpen_2 16 rfl)

def bX0_step_0 : List UInt8 := [42, 28, 182, 0, 107, 154, 0, 4, 177, 42, 180, 0, 27, 27, 184, 0, 58, 42, 180, 0, 27, 28, 184, 0, 58, 100, 184, 0, 70, 62, 42, 180]
theorem kX0_step_0 (j : Nat) {b : UInt8} (hj : bX0_step_0[j]? = some b) : AtB cX0_step (0 + j) b := at_of32 (by decide +kernel) j hj
def bX0_step_1 : List UInt8 := [0, 46, 27, 184, 0, 58, 4, 96, 29, 96, 54, 4, 42, 180, 0, 46, 28, 184, 0, 58, 2, 159, 0, 16, 21, 4, 42, 180, 0, 46, 28, 184]
theorem kX0_step_1 (j : Nat) {b : UInt8} (hj : bX0_step_1[j]? = some b) : AtB cX0_step (32 + j) b := at_of32 (by decide +kernel) j hj
def bX0_step_2 : List UInt8 := [0, 58, 162, 0, 13, 42, 180, 0, 46, 28, 21, 4, 184, 0, 95, 177]
theorem kX0_step_2 (j : Nat) {b : UInt8} (hj : bX0_step_2[j]? = some b) : AtB cX0_step (64 + j) b := at_of32 (by decide +kernel) j hj
theorem dX0_step_0 : decode cX0_step 0 = .ok (.aload_n 0, 1) := dq_42 (kX0_step_0 0 rfl)
theorem dX0_step_1 : decode cX0_step 1 = .ok (.iload_n 2, 1) := dq_28 (kX0_step_0 1 rfl)
theorem dX0_step_2 : decode cX0_step 2 = .ok (.invokevirtual 107, 3) := dq_182 (kX0_step_0 2 rfl) (kX0_step_0 3 rfl) (kX0_step_0 4 rfl) rfl
theorem dX0_step_5 : decode cX0_step 5 = .ok (.ifCond .ne 4, 3) := dq_154 (kX0_step_0 5 rfl) (kX0_step_0 6 rfl) (kX0_step_0 7 rfl) (by decide)
theorem dX0_step_8 : decode cX0_step 8 = .ok (.return_, 1) := dq_177 (kX0_step_0 8 rfl)
theorem dX0_step_9 : decode cX0_step 9 = .ok (.aload_n 0, 1) := dq_42 (kX0_step_0 9 rfl)
theorem dX0_step_10 : decode cX0_step 10 = .ok (.getfield 27, 3) := dq_180 (kX0_step_0 10 rfl) (kX0_step_0 11 rfl) (kX0_step_0 12 rfl) rfl
theorem dX0_step_13 : decode cX0_step 13 = .ok (.iload_n 1, 1) := dq_27 (kX0_step_0 13 rfl)
theorem dX0_step_14 : decode cX0_step 14 = .ok (.invokestatic 58, 3) := dq_184 (kX0_step_0 14 rfl) (kX0_step_0 15 rfl) (kX0_step_0 16 rfl) rfl
theorem dX0_step_17 : decode cX0_step 17 = .ok (.aload_n 0, 1) := dq_42 (kX0_step_0 17 rfl)
theorem dX0_step_18 : decode cX0_step 18 = .ok (.getfield 27, 3) := dq_180 (kX0_step_0 18 rfl) (kX0_step_0 19 rfl) (kX0_step_0 20 rfl) rfl
theorem dX0_step_21 : decode cX0_step 21 = .ok (.iload_n 2, 1) := dq_28 (kX0_step_0 21 rfl)
theorem dX0_step_22 : decode cX0_step 22 = .ok (.invokestatic 58, 3) := dq_184 (kX0_step_0 22 rfl) (kX0_step_0 23 rfl) (kX0_step_0 24 rfl) rfl
theorem dX0_step_25 : decode cX0_step 25 = .ok (.isub, 1) := dq_100 (kX0_step_0 25 rfl)
theorem dX0_step_26 : decode cX0_step 26 = .ok (.invokestatic 70, 3) := dq_184 (kX0_step_0 26 rfl) (kX0_step_0 27 rfl) (kX0_step_0 28 rfl) rfl
theorem dX0_step_29 : decode cX0_step 29 = .ok (.istore_n 3, 1) := dq_62 (kX0_step_0 29 rfl)
theorem dX0_step_30 : decode cX0_step 30 = .ok (.aload_n 0, 1) := dq_42 (kX0_step_0 30 rfl)
theorem dX0_step_31 : decode cX0_step 31 = .ok (.getfield 46, 3) := dq_180 (kX0_step_0 31 rfl) (kX0_step_1 0 rfl) (kX0_step_1 1 rfl) rfl
theorem dX0_step_34 : decode cX0_step 34 = .ok (.iload_n 1, 1) := dq_27 (kX0_step_1 2 rfl)
theorem dX0_step_35 : decode cX0_step 35 = .ok (.invokestatic 58, 3) := dq_184 (kX0_step_1 3 rfl) (kX0_step_1 4 rfl) (kX0_step_1 5 rfl) rfl
theorem dX0_step_38 : decode cX0_step 38 = .ok (.iconst 1, 1) := dq_4 (kX0_step_1 6 rfl)
theorem dX0_step_39 : decode cX0_step 39 = .ok (.iadd, 1) := dq_96 (kX0_step_1 7 rfl)
theorem dX0_step_40 : decode cX0_step 40 = .ok (.iload_n 3, 1) := dq_29 (kX0_step_1 8 rfl)
theorem dX0_step_41 : decode cX0_step 41 = .ok (.iadd, 1) := dq_96 (kX0_step_1 9 rfl)
theorem dX0_step_42 : decode cX0_step 42 = .ok (.istore 4, 2) := dq_54 (kX0_step_1 10 rfl) (kX0_step_1 11 rfl) rfl
theorem dX0_step_44 : decode cX0_step 44 = .ok (.aload_n 0, 1) := dq_42 (kX0_step_1 12 rfl)
theorem dX0_step_45 : decode cX0_step 45 = .ok (.getfield 46, 3) := dq_180 (kX0_step_1 13 rfl) (kX0_step_1 14 rfl) (kX0_step_1 15 rfl) rfl
theorem dX0_step_48 : decode cX0_step 48 = .ok (.iload_n 2, 1) := dq_28 (kX0_step_1 16 rfl)
theorem dX0_step_49 : decode cX0_step 49 = .ok (.invokestatic 58, 3) := dq_184 (kX0_step_1 17 rfl) (kX0_step_1 18 rfl) (kX0_step_1 19 rfl) rfl
theorem dX0_step_52 : decode cX0_step 52 = .ok (.iconst (-1), 1) := dq_2 (kX0_step_1 20 rfl)
theorem dX0_step_53 : decode cX0_step 53 = .ok (.if_icmp .eq 16, 3) := dq_159 (kX0_step_1 21 rfl) (kX0_step_1 22 rfl) (kX0_step_1 23 rfl) (by decide)
theorem dX0_step_56 : decode cX0_step 56 = .ok (.iload 4, 2) := dq_21 (kX0_step_1 24 rfl) (kX0_step_1 25 rfl) rfl
theorem dX0_step_58 : decode cX0_step 58 = .ok (.aload_n 0, 1) := dq_42 (kX0_step_1 26 rfl)
theorem dX0_step_59 : decode cX0_step 59 = .ok (.getfield 46, 3) := dq_180 (kX0_step_1 27 rfl) (kX0_step_1 28 rfl) (kX0_step_1 29 rfl) rfl
theorem dX0_step_62 : decode cX0_step 62 = .ok (.iload_n 2, 1) := dq_28 (kX0_step_1 30 rfl)
theorem dX0_step_63 : decode cX0_step 63 = .ok (.invokestatic 58, 3) := dq_184 (kX0_step_1 31 rfl) (kX0_step_2 0 rfl) (kX0_step_2 1 rfl) rfl
theorem dX0_step_66 : decode cX0_step 66 = .ok (.if_icmp .ge 13, 3) := dq_162 (kX0_step_2 2 rfl) (kX0_step_2 3 rfl) (kX0_step_2 4 rfl) (by decide)
theorem dX0_step_69 : decode cX0_step 69 = .ok (.aload_n 0, 1) := dq_42 (kX0_step_2 5 rfl)
theorem dX0_step_70 : decode cX0_step 70 = .ok (.getfield 46, 3) := dq_180 (kX0_step_2 6 rfl) (kX0_step_2 7 rfl) (kX0_step_2 8 rfl) rfl
theorem dX0_step_73 : decode cX0_step 73 = .ok (.iload_n 2, 1) := dq_28 (kX0_step_2 9 rfl)
theorem dX0_step_74 : decode cX0_step 74 = .ok (.iload 4, 2) := dq_21 (kX0_step_2 10 rfl) (kX0_step_2 11 rfl) rfl
theorem dX0_step_76 : decode cX0_step 76 = .ok (.invokestatic 95, 3) := dq_184 (kX0_step_2 12 rfl) (kX0_step_2 13 rfl) (kX0_step_2 14 rfl) rfl
theorem dX0_step_79 : decode cX0_step 79 = .ok (.return_, 1) := dq_177 (kX0_step_2 15 rfl)

def bX1_init_0 : List UInt8 := [42, 183, 0, 3, 42, 16, 20, 189, 0, 9, 181, 0, 11, 42, 3, 181, 0, 17, 42, 187, 0, 21, 89, 6, 16, 20, 183, 0, 23, 181, 0, 26]
theorem kX1_init_0 (j : Nat) {b : UInt8} (hj : bX1_init_0[j]? = some b) : AtB cX1_init (0 + j) b := at_of32 (by decide +kernel) j hj
def bX1_init_1 : List UInt8 := [42, 16, 20, 189, 0, 9, 181, 0, 30, 42, 16, 20, 188, 10, 181, 0, 33, 42, 16, 20, 188, 10, 181, 0, 37, 42, 2, 181, 0, 40, 42, 2]
theorem kX1_init_1 (j : Nat) {b : UInt8} (hj : bX1_init_1[j]? = some b) : AtB cX1_init (32 + j) b := at_of32 (by decide +kernel) j hj
def bX1_init_2 : List UInt8 := [181, 0, 43, 42, 16, 14, 188, 10, 181, 0, 46, 42, 16, 32, 188, 10, 181, 0, 49, 42, 3, 181, 0, 52, 42, 2, 181, 0, 55, 42, 2, 181]
theorem kX1_init_2 (j : Nat) {b : UInt8} (hj : bX1_init_2[j]? = some b) : AtB cX1_init (64 + j) b := at_of32 (by decide +kernel) j hj
def bX1_init_3 : List UInt8 := [0, 58, 177]
theorem kX1_init_3 (j : Nat) {b : UInt8} (hj : bX1_init_3[j]? = some b) : AtB cX1_init (96 + j) b := at_of32 (by decide +kernel) j hj
theorem dX1_init_0 : decode cX1_init 0 = .ok (.aload_n 0, 1) := dq_42 (kX1_init_0 0 rfl)
theorem dX1_init_1 : decode cX1_init 1 = .ok (.invokespecial 3, 3) := dq_183 (kX1_init_0 1 rfl) (kX1_init_0 2 rfl) (kX1_init_0 3 rfl) rfl
theorem dX1_init_4 : decode cX1_init 4 = .ok (.aload_n 0, 1) := dq_42 (kX1_init_0 4 rfl)
theorem dX1_init_5 : decode cX1_init 5 = .ok (.bipush 20, 2) := dq_16 (kX1_init_0 5 rfl) (kX1_init_0 6 rfl) (by decide)
theorem dX1_init_7 : decode cX1_init 7 = .ok (.anewarray 9, 3) := dq_189 (kX1_init_0 7 rfl) (kX1_init_0 8 rfl) (kX1_init_0 9 rfl) rfl
theorem dX1_init_10 : decode cX1_init 10 = .ok (.putfield 11, 3) := dq_181 (kX1_init_0 10 rfl) (kX1_init_0 11 rfl) (kX1_init_0 12 rfl) rfl
theorem dX1_init_13 : decode cX1_init 13 = .ok (.aload_n 0, 1) := dq_42 (kX1_init_0 13 rfl)
theorem dX1_init_14 : decode cX1_init 14 = .ok (.iconst 0, 1) := dq_3 (kX1_init_0 14 rfl)
theorem dX1_init_15 : decode cX1_init 15 = .ok (.putfield 17, 3) := dq_181 (kX1_init_0 15 rfl) (kX1_init_0 16 rfl) (kX1_init_0 17 rfl) rfl
theorem dX1_init_18 : decode cX1_init 18 = .ok (.aload_n 0, 1) := dq_42 (kX1_init_0 18 rfl)
theorem dX1_init_19 : decode cX1_init 19 = .ok (.new 21, 3) := dq_187 (kX1_init_0 19 rfl) (kX1_init_0 20 rfl) (kX1_init_0 21 rfl) rfl
theorem dX1_init_22 : decode cX1_init 22 = .ok (.dup, 1) := dq_89 (kX1_init_0 22 rfl)
theorem dX1_init_23 : decode cX1_init 23 = .ok (.iconst 3, 1) := dq_6 (kX1_init_0 23 rfl)
theorem dX1_init_24 : decode cX1_init 24 = .ok (.bipush 20, 2) := dq_16 (kX1_init_0 24 rfl) (kX1_init_0 25 rfl) (by decide)
theorem dX1_init_26 : decode cX1_init 26 = .ok (.invokespecial 23, 3) := dq_183 (kX1_init_0 26 rfl) (kX1_init_0 27 rfl) (kX1_init_0 28 rfl) rfl
theorem dX1_init_29 : decode cX1_init 29 = .ok (.putfield 26, 3) := dq_181 (kX1_init_0 29 rfl) (kX1_init_0 30 rfl) (kX1_init_0 31 rfl) rfl
theorem dX1_init_32 : decode cX1_init 32 = .ok (.aload_n 0, 1) := dq_42 (kX1_init_1 0 rfl)
theorem dX1_init_33 : decode cX1_init 33 = .ok (.bipush 20, 2) := dq_16 (kX1_init_1 1 rfl) (kX1_init_1 2 rfl) (by decide)
theorem dX1_init_35 : decode cX1_init 35 = .ok (.anewarray 9, 3) := dq_189 (kX1_init_1 3 rfl) (kX1_init_1 4 rfl) (kX1_init_1 5 rfl) rfl
theorem dX1_init_38 : decode cX1_init 38 = .ok (.putfield 30, 3) := dq_181 (kX1_init_1 6 rfl) (kX1_init_1 7 rfl) (kX1_init_1 8 rfl) rfl
theorem dX1_init_41 : decode cX1_init 41 = .ok (.aload_n 0, 1) := dq_42 (kX1_init_1 9 rfl)
theorem dX1_init_42 : decode cX1_init 42 = .ok (.bipush 20, 2) := dq_16 (kX1_init_1 10 rfl) (kX1_init_1 11 rfl) (by decide)
theorem dX1_init_44 : decode cX1_init 44 = .ok (.newarray .int, 2) := dq_188_10 (kX1_init_1 12 rfl) (kX1_init_1 13 rfl)
theorem dX1_init_46 : decode cX1_init 46 = .ok (.putfield 33, 3) := dq_181 (kX1_init_1 14 rfl) (kX1_init_1 15 rfl) (kX1_init_1 16 rfl) rfl
theorem dX1_init_49 : decode cX1_init 49 = .ok (.aload_n 0, 1) := dq_42 (kX1_init_1 17 rfl)
theorem dX1_init_50 : decode cX1_init 50 = .ok (.bipush 20, 2) := dq_16 (kX1_init_1 18 rfl) (kX1_init_1 19 rfl) (by decide)
theorem dX1_init_52 : decode cX1_init 52 = .ok (.newarray .int, 2) := dq_188_10 (kX1_init_1 20 rfl) (kX1_init_1 21 rfl)
theorem dX1_init_54 : decode cX1_init 54 = .ok (.putfield 37, 3) := dq_181 (kX1_init_1 22 rfl) (kX1_init_1 23 rfl) (kX1_init_1 24 rfl) rfl
theorem dX1_init_57 : decode cX1_init 57 = .ok (.aload_n 0, 1) := dq_42 (kX1_init_1 25 rfl)
theorem dX1_init_58 : decode cX1_init 58 = .ok (.iconst (-1), 1) := dq_2 (kX1_init_1 26 rfl)
theorem dX1_init_59 : decode cX1_init 59 = .ok (.putfield 40, 3) := dq_181 (kX1_init_1 27 rfl) (kX1_init_1 28 rfl) (kX1_init_1 29 rfl) rfl
theorem dX1_init_62 : decode cX1_init 62 = .ok (.aload_n 0, 1) := dq_42 (kX1_init_1 30 rfl)
theorem dX1_init_63 : decode cX1_init 63 = .ok (.iconst (-1), 1) := dq_2 (kX1_init_1 31 rfl)
theorem dX1_init_64 : decode cX1_init 64 = .ok (.putfield 43, 3) := dq_181 (kX1_init_2 0 rfl) (kX1_init_2 1 rfl) (kX1_init_2 2 rfl) rfl
theorem dX1_init_67 : decode cX1_init 67 = .ok (.aload_n 0, 1) := dq_42 (kX1_init_2 3 rfl)
theorem dX1_init_68 : decode cX1_init 68 = .ok (.bipush 14, 2) := dq_16 (kX1_init_2 4 rfl) (kX1_init_2 5 rfl) (by decide)
theorem dX1_init_70 : decode cX1_init 70 = .ok (.newarray .int, 2) := dq_188_10 (kX1_init_2 6 rfl) (kX1_init_2 7 rfl)
theorem dX1_init_72 : decode cX1_init 72 = .ok (.putfield 46, 3) := dq_181 (kX1_init_2 8 rfl) (kX1_init_2 9 rfl) (kX1_init_2 10 rfl) rfl
theorem dX1_init_75 : decode cX1_init 75 = .ok (.aload_n 0, 1) := dq_42 (kX1_init_2 11 rfl)
theorem dX1_init_76 : decode cX1_init 76 = .ok (.bipush 32, 2) := dq_16 (kX1_init_2 12 rfl) (kX1_init_2 13 rfl) (by decide)
theorem dX1_init_78 : decode cX1_init 78 = .ok (.newarray .int, 2) := dq_188_10 (kX1_init_2 14 rfl) (kX1_init_2 15 rfl)
theorem dX1_init_80 : decode cX1_init 80 = .ok (.putfield 49, 3) := dq_181 (kX1_init_2 16 rfl) (kX1_init_2 17 rfl) (kX1_init_2 18 rfl) rfl
theorem dX1_init_83 : decode cX1_init 83 = .ok (.aload_n 0, 1) := dq_42 (kX1_init_2 19 rfl)
theorem dX1_init_84 : decode cX1_init 84 = .ok (.iconst 0, 1) := dq_3 (kX1_init_2 20 rfl)
theorem dX1_init_85 : decode cX1_init 85 = .ok (.putfield 52, 3) := dq_181 (kX1_init_2 21 rfl) (kX1_init_2 22 rfl) (kX1_init_2 23 rfl) rfl
theorem dX1_init_88 : decode cX1_init 88 = .ok (.aload_n 0, 1) := dq_42 (kX1_init_2 24 rfl)
theorem dX1_init_89 : decode cX1_init 89 = .ok (.iconst (-1), 1) := dq_2 (kX1_init_2 25 rfl)
theorem dX1_init_90 : decode cX1_init 90 = .ok (.putfield 55, 3) := dq_181 (kX1_init_2 26 rfl) (kX1_init_2 27 rfl) (kX1_init_2 28 rfl) rfl
theorem dX1_init_93 : decode cX1_init 93 = .ok (.aload_n 0, 1) := dq_42 (kX1_init_2 29 rfl)
theorem dX1_init_94 : decode cX1_init 94 = .ok (.iconst (-1), 1) := dq_2 (kX1_init_2 30 rfl)
theorem dX1_init_95 : decode cX1_init 95 = .ok (.putfield 58, 3) := dq_181 (kX1_init_2 31 rfl) (kX1_init_3 0 rfl) (kX1_init_3 1 rfl) rfl
theorem dX1_init_98 : decode cX1_init 98 = .ok (.return_, 1) := dq_177 (kX1_init_3 2 rfl)

def bX1_textOf_0 : List UInt8 := [27, 155, 0, 29, 27, 42, 180, 0, 17, 162, 0, 21, 27, 42, 180, 0, 11, 190, 162, 0, 12, 42, 180, 0, 11, 27, 50, 167, 0, 4, 1, 176]
theorem kX1_textOf_0 (j : Nat) {b : UInt8} (hj : bX1_textOf_0[j]? = some b) : AtB cX1_textOf (0 + j) b := at_of32 (by decide +kernel) j hj
theorem dX1_textOf_0 : decode cX1_textOf 0 = .ok (.iload_n 1, 1) := dq_27 (kX1_textOf_0 0 rfl)
theorem dX1_textOf_1 : decode cX1_textOf 1 = .ok (.ifCond .lt 29, 3) := dq_155 (kX1_textOf_0 1 rfl) (kX1_textOf_0 2 rfl) (kX1_textOf_0 3 rfl) (by decide)
theorem dX1_textOf_4 : decode cX1_textOf 4 = .ok (.iload_n 1, 1) := dq_27 (kX1_textOf_0 4 rfl)
theorem dX1_textOf_5 : decode cX1_textOf 5 = .ok (.aload_n 0, 1) := dq_42 (kX1_textOf_0 5 rfl)
theorem dX1_textOf_6 : decode cX1_textOf 6 = .ok (.getfield 17, 3) := dq_180 (kX1_textOf_0 6 rfl) (kX1_textOf_0 7 rfl) (kX1_textOf_0 8 rfl) rfl
theorem dX1_textOf_9 : decode cX1_textOf 9 = .ok (.if_icmp .ge 21, 3) := dq_162 (kX1_textOf_0 9 rfl) (kX1_textOf_0 10 rfl) (kX1_textOf_0 11 rfl) (by decide)
theorem dX1_textOf_12 : decode cX1_textOf 12 = .ok (.iload_n 1, 1) := dq_27 (kX1_textOf_0 12 rfl)
theorem dX1_textOf_13 : decode cX1_textOf 13 = .ok (.aload_n 0, 1) := dq_42 (kX1_textOf_0 13 rfl)
theorem dX1_textOf_14 : decode cX1_textOf 14 = .ok (.getfield 11, 3) := dq_180 (kX1_textOf_0 14 rfl) (kX1_textOf_0 15 rfl) (kX1_textOf_0 16 rfl) rfl
theorem dX1_textOf_17 : decode cX1_textOf 17 = .ok (.arraylength, 1) := dq_190 (kX1_textOf_0 17 rfl)
theorem dX1_textOf_18 : decode cX1_textOf 18 = .ok (.if_icmp .ge 12, 3) := dq_162 (kX1_textOf_0 18 rfl) (kX1_textOf_0 19 rfl) (kX1_textOf_0 20 rfl) (by decide)
theorem dX1_textOf_21 : decode cX1_textOf 21 = .ok (.aload_n 0, 1) := dq_42 (kX1_textOf_0 21 rfl)
theorem dX1_textOf_22 : decode cX1_textOf 22 = .ok (.getfield 11, 3) := dq_180 (kX1_textOf_0 22 rfl) (kX1_textOf_0 23 rfl) (kX1_textOf_0 24 rfl) rfl
theorem dX1_textOf_25 : decode cX1_textOf 25 = .ok (.iload_n 1, 1) := dq_27 (kX1_textOf_0 25 rfl)
theorem dX1_textOf_26 : decode cX1_textOf 26 = .ok (.aaload, 1) := dq_50 (kX1_textOf_0 26 rfl)
theorem dX1_textOf_27 : decode cX1_textOf 27 = .ok (.goto 4, 3) := dq_167 (kX1_textOf_0 27 rfl) (kX1_textOf_0 28 rfl) (kX1_textOf_0 29 rfl) (by decide)
theorem dX1_textOf_30 : decode cX1_textOf 30 = .ok (.aconst_null, 1) := dq_1 (kX1_textOf_0 30 rfl)
theorem dX1_textOf_31 : decode cX1_textOf 31 = .ok (.areturn, 1) := dq_176 (kX1_textOf_0 31 rfl)

def bX1_addText_0 : List UInt8 := [42, 180, 0, 17, 42, 180, 0, 11, 190, 161, 0, 5, 2, 172, 42, 180, 0, 11, 42, 180, 0, 17, 43, 83, 42, 182, 0, 61, 42, 89, 180, 0]
theorem kX1_addText_0 (j : Nat) {b : UInt8} (hj : bX1_addText_0[j]? = some b) : AtB cX1_addText (0 + j) b := at_of32 (by decide +kernel) j hj
def bX1_addText_1 : List UInt8 := [17, 90, 4, 96, 181, 0, 17, 172]
theorem kX1_addText_1 (j : Nat) {b : UInt8} (hj : bX1_addText_1[j]? = some b) : AtB cX1_addText (32 + j) b := at_of32 (by decide +kernel) j hj
theorem dX1_addText_0 : decode cX1_addText 0 = .ok (.aload_n 0, 1) := dq_42 (kX1_addText_0 0 rfl)
theorem dX1_addText_1 : decode cX1_addText 1 = .ok (.getfield 17, 3) := dq_180 (kX1_addText_0 1 rfl) (kX1_addText_0 2 rfl) (kX1_addText_0 3 rfl) rfl
theorem dX1_addText_4 : decode cX1_addText 4 = .ok (.aload_n 0, 1) := dq_42 (kX1_addText_0 4 rfl)
theorem dX1_addText_5 : decode cX1_addText 5 = .ok (.getfield 11, 3) := dq_180 (kX1_addText_0 5 rfl) (kX1_addText_0 6 rfl) (kX1_addText_0 7 rfl) rfl
theorem dX1_addText_8 : decode cX1_addText 8 = .ok (.arraylength, 1) := dq_190 (kX1_addText_0 8 rfl)
theorem dX1_addText_9 : decode cX1_addText 9 = .ok (.if_icmp .lt 5, 3) := dq_161 (kX1_addText_0 9 rfl) (kX1_addText_0 10 rfl) (kX1_addText_0 11 rfl) (by decide)
theorem dX1_addText_12 : decode cX1_addText 12 = .ok (.iconst (-1), 1) := dq_2 (kX1_addText_0 12 rfl)
theorem dX1_addText_13 : decode cX1_addText 13 = .ok (.ireturn, 1) := dq_172 (kX1_addText_0 13 rfl)
theorem dX1_addText_14 : decode cX1_addText 14 = .ok (.aload_n 0, 1) := dq_42 (kX1_addText_0 14 rfl)
theorem dX1_addText_15 : decode cX1_addText 15 = .ok (.getfield 11, 3) := dq_180 (kX1_addText_0 15 rfl) (kX1_addText_0 16 rfl) (kX1_addText_0 17 rfl) rfl
theorem dX1_addText_18 : decode cX1_addText 18 = .ok (.aload_n 0, 1) := dq_42 (kX1_addText_0 18 rfl)
theorem dX1_addText_19 : decode cX1_addText 19 = .ok (.getfield 17, 3) := dq_180 (kX1_addText_0 19 rfl) (kX1_addText_0 20 rfl) (kX1_addText_0 21 rfl) rfl
theorem dX1_addText_22 : decode cX1_addText 22 = .ok (.aload_n 1, 1) := dq_43 (kX1_addText_0 22 rfl)
theorem dX1_addText_23 : decode cX1_addText 23 = .ok (.aastore, 1) := dq_83 (kX1_addText_0 23 rfl)
theorem dX1_addText_24 : decode cX1_addText 24 = .ok (.aload_n 0, 1) := dq_42 (kX1_addText_0 24 rfl)
theorem dX1_addText_25 : decode cX1_addText 25 = .ok (.invokevirtual 61, 3) := dq_182 (kX1_addText_0 25 rfl) (kX1_addText_0 26 rfl) (kX1_addText_0 27 rfl) rfl
theorem dX1_addText_28 : decode cX1_addText 28 = .ok (.aload_n 0, 1) := dq_42 (kX1_addText_0 28 rfl)
theorem dX1_addText_29 : decode cX1_addText 29 = .ok (.dup, 1) := dq_89 (kX1_addText_0 29 rfl)
theorem dX1_addText_30 : decode cX1_addText 30 = .ok (.getfield 17, 3) := dq_180 (kX1_addText_0 30 rfl) (kX1_addText_0 31 rfl) (kX1_addText_1 0 rfl) rfl
theorem dX1_addText_33 : decode cX1_addText 33 = .ok (.dup_x1, 1) := dq_90 (kX1_addText_1 1 rfl)
theorem dX1_addText_34 : decode cX1_addText 34 = .ok (.iconst 1, 1) := dq_4 (kX1_addText_1 2 rfl)
theorem dX1_addText_35 : decode cX1_addText 35 = .ok (.iadd, 1) := dq_96 (kX1_addText_1 3 rfl)
theorem dX1_addText_36 : decode cX1_addText 36 = .ok (.putfield 17, 3) := dq_181 (kX1_addText_1 4 rfl) (kX1_addText_1 5 rfl) (kX1_addText_1 6 rfl) rfl
theorem dX1_addText_39 : decode cX1_addText 39 = .ok (.ireturn, 1) := dq_172 (kX1_addText_1 7 rfl)

def bX1_addReading_0 : List UInt8 := [42, 180, 0, 26, 27, 28, 29, 3, 3, 182, 0, 64, 54, 5, 21, 5, 155, 0, 22, 21, 5, 42, 180, 0, 30, 190, 162, 0, 12, 42, 180, 0]
theorem kX1_addReading_0 (j : Nat) {b : UInt8} (hj : bX1_addReading_0[j]? = some b) : AtB cX1_addReading (0 + j) b := at_of32 (by decide +kernel) j hj
def bX1_addReading_1 : List UInt8 := [30, 21, 5, 25, 4, 83, 177]
theorem kX1_addReading_1 (j : Nat) {b : UInt8} (hj : bX1_addReading_1[j]? = some b) : AtB cX1_addReading (32 + j) b := at_of32 (by decide +kernel) j hj
theorem dX1_addReading_0 : decode cX1_addReading 0 = .ok (.aload_n 0, 1) := dq_42 (kX1_addReading_0 0 rfl)
theorem dX1_addReading_1 : decode cX1_addReading 1 = .ok (.getfield 26, 3) := dq_180 (kX1_addReading_0 1 rfl) (kX1_addReading_0 2 rfl) (kX1_addReading_0 3 rfl) rfl
theorem dX1_addReading_4 : decode cX1_addReading 4 = .ok (.iload_n 1, 1) := dq_27 (kX1_addReading_0 4 rfl)
theorem dX1_addReading_5 : decode cX1_addReading 5 = .ok (.iload_n 2, 1) := dq_28 (kX1_addReading_0 5 rfl)
theorem dX1_addReading_6 : decode cX1_addReading 6 = .ok (.iload_n 3, 1) := dq_29 (kX1_addReading_0 6 rfl)
theorem dX1_addReading_7 : decode cX1_addReading 7 = .ok (.iconst 0, 1) := dq_3 (kX1_addReading_0 7 rfl)
theorem dX1_addReading_8 : decode cX1_addReading 8 = .ok (.iconst 0, 1) := dq_3 (kX1_addReading_0 8 rfl)
theorem dX1_addReading_9 : decode cX1_addReading 9 = .ok (.invokevirtual 64, 3) := dq_182 (kX1_addReading_0 9 rfl) (kX1_addReading_0 10 rfl) (kX1_addReading_0 11 rfl) rfl
theorem dX1_addReading_12 : decode cX1_addReading 12 = .ok (.istore 5, 2) := dq_54 (kX1_addReading_0 12 rfl) (kX1_addReading_0 13 rfl) rfl
theorem dX1_addReading_14 : decode cX1_addReading 14 = .ok (.iload 5, 2) := dq_21 (kX1_addReading_0 14 rfl) (kX1_addReading_0 15 rfl) rfl
theorem dX1_addReading_16 : decode cX1_addReading 16 = .ok (.ifCond .lt 22, 3) := dq_155 (kX1_addReading_0 16 rfl) (kX1_addReading_0 17 rfl) (kX1_addReading_0 18 rfl) (by decide)
theorem dX1_addReading_19 : decode cX1_addReading 19 = .ok (.iload 5, 2) := dq_21 (kX1_addReading_0 19 rfl) (kX1_addReading_0 20 rfl) rfl
theorem dX1_addReading_21 : decode cX1_addReading 21 = .ok (.aload_n 0, 1) := dq_42 (kX1_addReading_0 21 rfl)
theorem dX1_addReading_22 : decode cX1_addReading 22 = .ok (.getfield 30, 3) := dq_180 (kX1_addReading_0 22 rfl) (kX1_addReading_0 23 rfl) (kX1_addReading_0 24 rfl) rfl
theorem dX1_addReading_25 : decode cX1_addReading 25 = .ok (.arraylength, 1) := dq_190 (kX1_addReading_0 25 rfl)
theorem dX1_addReading_26 : decode cX1_addReading 26 = .ok (.if_icmp .ge 12, 3) := dq_162 (kX1_addReading_0 26 rfl) (kX1_addReading_0 27 rfl) (kX1_addReading_0 28 rfl) (by decide)
theorem dX1_addReading_29 : decode cX1_addReading 29 = .ok (.aload_n 0, 1) := dq_42 (kX1_addReading_0 29 rfl)
theorem dX1_addReading_30 : decode cX1_addReading 30 = .ok (.getfield 30, 3) := dq_180 (kX1_addReading_0 30 rfl) (kX1_addReading_0 31 rfl) (kX1_addReading_1 0 rfl) rfl
theorem dX1_addReading_33 : decode cX1_addReading 33 = .ok (.iload 5, 2) := dq_21 (kX1_addReading_1 1 rfl) (kX1_addReading_1 2 rfl) rfl
theorem dX1_addReading_35 : decode cX1_addReading 35 = .ok (.aload 4, 2) := dq_25 (kX1_addReading_1 3 rfl) (kX1_addReading_1 4 rfl) rfl
theorem dX1_addReading_37 : decode cX1_addReading 37 = .ok (.aastore, 1) := dq_83 (kX1_addReading_1 5 rfl)
theorem dX1_addReading_38 : decode cX1_addReading 38 = .ok (.return_, 1) := dq_177 (kX1_addReading_1 6 rfl)

def bX1_forget_0 : List UInt8 := [42, 2, 181, 0, 43, 177]
theorem kX1_forget_0 (j : Nat) {b : UInt8} (hj : bX1_forget_0[j]? = some b) : AtB cX1_forget (0 + j) b := at_of32 (by decide +kernel) j hj
theorem dX1_forget_0 : decode cX1_forget 0 = .ok (.aload_n 0, 1) := dq_42 (kX1_forget_0 0 rfl)
theorem dX1_forget_1 : decode cX1_forget 1 = .ok (.iconst (-1), 1) := dq_2 (kX1_forget_0 1 rfl)
theorem dX1_forget_2 : decode cX1_forget 2 = .ok (.putfield 43, 3) := dq_181 (kX1_forget_0 2 rfl) (kX1_forget_0 3 rfl) (kX1_forget_0 4 rfl) rfl
theorem dX1_forget_5 : decode cX1_forget 5 = .ok (.return_, 1) := dq_177 (kX1_forget_0 5 rfl)

def bX1_weigh_0 : List UInt8 := [42, 180, 0, 40, 27, 160, 0, 12, 42, 180, 0, 43, 29, 160, 0, 4, 177, 3, 54, 4, 3, 54, 5, 21, 5, 42, 180, 0, 17, 162, 0, 31]
theorem kX1_weigh_0 (j : Nat) {b : UInt8} (hj : bX1_weigh_0[j]? = some b) : AtB cX1_weigh (0 + j) b := at_of32 (by decide +kernel) j hj
def bX1_weigh_1 : List UInt8 := [42, 21, 5, 44, 29, 21, 4, 182, 0, 68, 153, 0, 12, 21, 4, 4, 21, 5, 120, 128, 54, 4, 132, 5, 1, 167, 255, 222, 42, 42, 180, 0]
theorem kX1_weigh_1 (j : Nat) {b : UInt8} (hj : bX1_weigh_1[j]? = some b) : AtB cX1_weigh (32 + j) b := at_of32 (by decide +kernel) j hj
def bX1_weigh_2 : List UInt8 := [17, 21, 4, 182, 0, 72, 42, 27, 181, 0, 40, 42, 29, 181, 0, 43, 177]
theorem kX1_weigh_2 (j : Nat) {b : UInt8} (hj : bX1_weigh_2[j]? = some b) : AtB cX1_weigh (64 + j) b := at_of32 (by decide +kernel) j hj
theorem dX1_weigh_0 : decode cX1_weigh 0 = .ok (.aload_n 0, 1) := dq_42 (kX1_weigh_0 0 rfl)
theorem dX1_weigh_1 : decode cX1_weigh 1 = .ok (.getfield 40, 3) := dq_180 (kX1_weigh_0 1 rfl) (kX1_weigh_0 2 rfl) (kX1_weigh_0 3 rfl) rfl
theorem dX1_weigh_4 : decode cX1_weigh 4 = .ok (.iload_n 1, 1) := dq_27 (kX1_weigh_0 4 rfl)
theorem dX1_weigh_5 : decode cX1_weigh 5 = .ok (.if_icmp .ne 12, 3) := dq_160 (kX1_weigh_0 5 rfl) (kX1_weigh_0 6 rfl) (kX1_weigh_0 7 rfl) (by decide)
theorem dX1_weigh_8 : decode cX1_weigh 8 = .ok (.aload_n 0, 1) := dq_42 (kX1_weigh_0 8 rfl)
theorem dX1_weigh_9 : decode cX1_weigh 9 = .ok (.getfield 43, 3) := dq_180 (kX1_weigh_0 9 rfl) (kX1_weigh_0 10 rfl) (kX1_weigh_0 11 rfl) rfl
theorem dX1_weigh_12 : decode cX1_weigh 12 = .ok (.iload_n 3, 1) := dq_29 (kX1_weigh_0 12 rfl)
theorem dX1_weigh_13 : decode cX1_weigh 13 = .ok (.if_icmp .ne 4, 3) := dq_160 (kX1_weigh_0 13 rfl) (kX1_weigh_0 14 rfl) (kX1_weigh_0 15 rfl) (by decide)
theorem dX1_weigh_16 : decode cX1_weigh 16 = .ok (.return_, 1) := dq_177 (kX1_weigh_0 16 rfl)
theorem dX1_weigh_17 : decode cX1_weigh 17 = .ok (.iconst 0, 1) := dq_3 (kX1_weigh_0 17 rfl)
theorem dX1_weigh_18 : decode cX1_weigh 18 = .ok (.istore 4, 2) := dq_54 (kX1_weigh_0 18 rfl) (kX1_weigh_0 19 rfl) rfl
theorem dX1_weigh_20 : decode cX1_weigh 20 = .ok (.iconst 0, 1) := dq_3 (kX1_weigh_0 20 rfl)
theorem dX1_weigh_21 : decode cX1_weigh 21 = .ok (.istore 5, 2) := dq_54 (kX1_weigh_0 21 rfl) (kX1_weigh_0 22 rfl) rfl
theorem dX1_weigh_23 : decode cX1_weigh 23 = .ok (.iload 5, 2) := dq_21 (kX1_weigh_0 23 rfl) (kX1_weigh_0 24 rfl) rfl
theorem dX1_weigh_25 : decode cX1_weigh 25 = .ok (.aload_n 0, 1) := dq_42 (kX1_weigh_0 25 rfl)
theorem dX1_weigh_26 : decode cX1_weigh 26 = .ok (.getfield 17, 3) := dq_180 (kX1_weigh_0 26 rfl) (kX1_weigh_0 27 rfl) (kX1_weigh_0 28 rfl) rfl
theorem dX1_weigh_29 : decode cX1_weigh 29 = .ok (.if_icmp .ge 31, 3) := dq_162 (kX1_weigh_0 29 rfl) (kX1_weigh_0 30 rfl) (kX1_weigh_0 31 rfl) (by decide)
theorem dX1_weigh_32 : decode cX1_weigh 32 = .ok (.aload_n 0, 1) := dq_42 (kX1_weigh_1 0 rfl)
theorem dX1_weigh_33 : decode cX1_weigh 33 = .ok (.iload 5, 2) := dq_21 (kX1_weigh_1 1 rfl) (kX1_weigh_1 2 rfl) rfl
theorem dX1_weigh_35 : decode cX1_weigh 35 = .ok (.aload_n 2, 1) := dq_44 (kX1_weigh_1 3 rfl)
theorem dX1_weigh_36 : decode cX1_weigh 36 = .ok (.iload_n 3, 1) := dq_29 (kX1_weigh_1 4 rfl)
theorem dX1_weigh_37 : decode cX1_weigh 37 = .ok (.iload 4, 2) := dq_21 (kX1_weigh_1 5 rfl) (kX1_weigh_1 6 rfl) rfl
theorem dX1_weigh_39 : decode cX1_weigh 39 = .ok (.invokevirtual 68, 3) := dq_182 (kX1_weigh_1 7 rfl) (kX1_weigh_1 8 rfl) (kX1_weigh_1 9 rfl) rfl
theorem dX1_weigh_42 : decode cX1_weigh 42 = .ok (.ifCond .eq 12, 3) := dq_153 (kX1_weigh_1 10 rfl) (kX1_weigh_1 11 rfl) (kX1_weigh_1 12 rfl) (by decide)
theorem dX1_weigh_45 : decode cX1_weigh 45 = .ok (.iload 4, 2) := dq_21 (kX1_weigh_1 13 rfl) (kX1_weigh_1 14 rfl) rfl
theorem dX1_weigh_47 : decode cX1_weigh 47 = .ok (.iconst 1, 1) := dq_4 (kX1_weigh_1 15 rfl)
theorem dX1_weigh_48 : decode cX1_weigh 48 = .ok (.iload 5, 2) := dq_21 (kX1_weigh_1 16 rfl) (kX1_weigh_1 17 rfl) rfl
theorem dX1_weigh_50 : decode cX1_weigh 50 = .ok (.ishl, 1) := dq_120 (kX1_weigh_1 18 rfl)
theorem dX1_weigh_51 : decode cX1_weigh 51 = .ok (.ior, 1) := dq_128 (kX1_weigh_1 19 rfl)
theorem dX1_weigh_52 : decode cX1_weigh 52 = .ok (.istore 4, 2) := dq_54 (kX1_weigh_1 20 rfl) (kX1_weigh_1 21 rfl) rfl
theorem dX1_weigh_54 : decode cX1_weigh 54 = .ok (.iinc 5 1, 3) := dq_132 (kX1_weigh_1 22 rfl) (kX1_weigh_1 23 rfl) (kX1_weigh_1 24 rfl) rfl (by decide)
theorem dX1_weigh_57 : decode cX1_weigh 57 = .ok (.goto (-34), 3) := dq_167 (kX1_weigh_1 25 rfl) (kX1_weigh_1 26 rfl) (kX1_weigh_1 27 rfl) (by decide)
theorem dX1_weigh_60 : decode cX1_weigh 60 = .ok (.aload_n 0, 1) := dq_42 (kX1_weigh_1 28 rfl)
theorem dX1_weigh_61 : decode cX1_weigh 61 = .ok (.aload_n 0, 1) := dq_42 (kX1_weigh_1 29 rfl)
theorem dX1_weigh_62 : decode cX1_weigh 62 = .ok (.getfield 17, 3) := dq_180 (kX1_weigh_1 30 rfl) (kX1_weigh_1 31 rfl) (kX1_weigh_2 0 rfl) rfl
theorem dX1_weigh_65 : decode cX1_weigh 65 = .ok (.iload 4, 2) := dq_21 (kX1_weigh_2 1 rfl) (kX1_weigh_2 2 rfl) rfl
theorem dX1_weigh_67 : decode cX1_weigh 67 = .ok (.invokevirtual 72, 3) := dq_182 (kX1_weigh_2 3 rfl) (kX1_weigh_2 4 rfl) (kX1_weigh_2 5 rfl) rfl
theorem dX1_weigh_70 : decode cX1_weigh 70 = .ok (.aload_n 0, 1) := dq_42 (kX1_weigh_2 6 rfl)
theorem dX1_weigh_71 : decode cX1_weigh 71 = .ok (.iload_n 1, 1) := dq_27 (kX1_weigh_2 7 rfl)
theorem dX1_weigh_72 : decode cX1_weigh 72 = .ok (.putfield 40, 3) := dq_181 (kX1_weigh_2 8 rfl) (kX1_weigh_2 9 rfl) (kX1_weigh_2 10 rfl) rfl
theorem dX1_weigh_75 : decode cX1_weigh 75 = .ok (.aload_n 0, 1) := dq_42 (kX1_weigh_2 11 rfl)
theorem dX1_weigh_76 : decode cX1_weigh 76 = .ok (.iload_n 3, 1) := dq_29 (kX1_weigh_2 12 rfl)
theorem dX1_weigh_77 : decode cX1_weigh 77 = .ok (.putfield 43, 3) := dq_181 (kX1_weigh_2 13 rfl) (kX1_weigh_2 14 rfl) (kX1_weigh_2 15 rfl) rfl
theorem dX1_weigh_80 : decode cX1_weigh 80 = .ok (.return_, 1) := dq_177 (kX1_weigh_2 16 rfl)

def bX1_binds_0 : List UInt8 := [42, 27, 182, 0, 75, 58, 5, 25, 5, 198, 0, 12, 25, 5, 29, 182, 0, 79, 154, 0, 5, 3, 172, 27, 154, 0, 5, 4, 172, 44, 180, 0]
theorem kX1_binds_0 (j : Nat) {b : UInt8} (hj : bX1_binds_0[j]? = some b) : AtB cX1_binds (0 + j) b := at_of32 (by decide +kernel) j hj
def bX1_binds_1 : List UInt8 := [83, 27, 184, 0, 88, 54, 6, 21, 6, 2, 159, 0, 9, 21, 6, 29, 164, 0, 5, 3, 172, 42, 27, 21, 4, 182, 0, 72, 29, 21, 6, 100]
theorem kX1_binds_1 (j : Nat) {b : UInt8} (hj : bX1_binds_1[j]? = some b) : AtB cX1_binds (32 + j) b := at_of32 (by decide +kernel) j hj
def bX1_binds_2 : List UInt8 := [42, 16, 103, 3, 3, 182, 0, 94, 161, 0, 7, 4, 167, 0, 4, 3, 172]
theorem kX1_binds_2 (j : Nat) {b : UInt8} (hj : bX1_binds_2[j]? = some b) : AtB cX1_binds (64 + j) b := at_of32 (by decide +kernel) j hj
theorem dX1_binds_0 : decode cX1_binds 0 = .ok (.aload_n 0, 1) := dq_42 (kX1_binds_0 0 rfl)
theorem dX1_binds_1 : decode cX1_binds 1 = .ok (.iload_n 1, 1) := dq_27 (kX1_binds_0 1 rfl)
theorem dX1_binds_2 : decode cX1_binds 2 = .ok (.invokevirtual 75, 3) := dq_182 (kX1_binds_0 2 rfl) (kX1_binds_0 3 rfl) (kX1_binds_0 4 rfl) rfl
theorem dX1_binds_5 : decode cX1_binds 5 = .ok (.astore 5, 2) := dq_58 (kX1_binds_0 5 rfl) (kX1_binds_0 6 rfl) rfl
theorem dX1_binds_7 : decode cX1_binds 7 = .ok (.aload 5, 2) := dq_25 (kX1_binds_0 7 rfl) (kX1_binds_0 8 rfl) rfl
theorem dX1_binds_9 : decode cX1_binds 9 = .ok (.ifnull 12, 3) := dq_198 (kX1_binds_0 9 rfl) (kX1_binds_0 10 rfl) (kX1_binds_0 11 rfl) (by decide)
theorem dX1_binds_12 : decode cX1_binds 12 = .ok (.aload 5, 2) := dq_25 (kX1_binds_0 12 rfl) (kX1_binds_0 13 rfl) rfl
theorem dX1_binds_14 : decode cX1_binds 14 = .ok (.iload_n 3, 1) := dq_29 (kX1_binds_0 14 rfl)
theorem dX1_binds_15 : decode cX1_binds 15 = .ok (.invokevirtual 79, 3) := dq_182 (kX1_binds_0 15 rfl) (kX1_binds_0 16 rfl) (kX1_binds_0 17 rfl) rfl
theorem dX1_binds_18 : decode cX1_binds 18 = .ok (.ifCond .ne 5, 3) := dq_154 (kX1_binds_0 18 rfl) (kX1_binds_0 19 rfl) (kX1_binds_0 20 rfl) (by decide)
theorem dX1_binds_21 : decode cX1_binds 21 = .ok (.iconst 0, 1) := dq_3 (kX1_binds_0 21 rfl)
theorem dX1_binds_22 : decode cX1_binds 22 = .ok (.ireturn, 1) := dq_172 (kX1_binds_0 22 rfl)
theorem dX1_binds_23 : decode cX1_binds 23 = .ok (.iload_n 1, 1) := dq_27 (kX1_binds_0 23 rfl)
theorem dX1_binds_24 : decode cX1_binds 24 = .ok (.ifCond .ne 5, 3) := dq_154 (kX1_binds_0 24 rfl) (kX1_binds_0 25 rfl) (kX1_binds_0 26 rfl) (by decide)
theorem dX1_binds_27 : decode cX1_binds 27 = .ok (.iconst 1, 1) := dq_4 (kX1_binds_0 27 rfl)
theorem dX1_binds_28 : decode cX1_binds 28 = .ok (.ireturn, 1) := dq_172 (kX1_binds_0 28 rfl)
theorem dX1_binds_29 : decode cX1_binds 29 = .ok (.aload_n 2, 1) := dq_44 (kX1_binds_0 29 rfl)
theorem dX1_binds_30 : decode cX1_binds 30 = .ok (.getfield 83, 3) := dq_180 (kX1_binds_0 30 rfl) (kX1_binds_0 31 rfl) (kX1_binds_1 0 rfl) rfl
theorem dX1_binds_33 : decode cX1_binds 33 = .ok (.iload_n 1, 1) := dq_27 (kX1_binds_1 1 rfl)
theorem dX1_binds_34 : decode cX1_binds 34 = .ok (.invokestatic 88, 3) := dq_184 (kX1_binds_1 2 rfl) (kX1_binds_1 3 rfl) (kX1_binds_1 4 rfl) rfl
theorem dX1_binds_37 : decode cX1_binds 37 = .ok (.istore 6, 2) := dq_54 (kX1_binds_1 5 rfl) (kX1_binds_1 6 rfl) rfl
theorem dX1_binds_39 : decode cX1_binds 39 = .ok (.iload 6, 2) := dq_21 (kX1_binds_1 7 rfl) (kX1_binds_1 8 rfl) rfl
theorem dX1_binds_41 : decode cX1_binds 41 = .ok (.iconst (-1), 1) := dq_2 (kX1_binds_1 9 rfl)
theorem dX1_binds_42 : decode cX1_binds 42 = .ok (.if_icmp .eq 9, 3) := dq_159 (kX1_binds_1 10 rfl) (kX1_binds_1 11 rfl) (kX1_binds_1 12 rfl) (by decide)
theorem dX1_binds_45 : decode cX1_binds 45 = .ok (.iload 6, 2) := dq_21 (kX1_binds_1 13 rfl) (kX1_binds_1 14 rfl) rfl
theorem dX1_binds_47 : decode cX1_binds 47 = .ok (.iload_n 3, 1) := dq_29 (kX1_binds_1 15 rfl)
theorem dX1_binds_48 : decode cX1_binds 48 = .ok (.if_icmp .le 5, 3) := dq_164 (kX1_binds_1 16 rfl) (kX1_binds_1 17 rfl) (kX1_binds_1 18 rfl) (by decide)
theorem dX1_binds_51 : decode cX1_binds 51 = .ok (.iconst 0, 1) := dq_3 (kX1_binds_1 19 rfl)
theorem dX1_binds_52 : decode cX1_binds 52 = .ok (.ireturn, 1) := dq_172 (kX1_binds_1 20 rfl)
theorem dX1_binds_53 : decode cX1_binds 53 = .ok (.aload_n 0, 1) := dq_42 (kX1_binds_1 21 rfl)
theorem dX1_binds_54 : decode cX1_binds 54 = .ok (.iload_n 1, 1) := dq_27 (kX1_binds_1 22 rfl)
theorem dX1_binds_55 : decode cX1_binds 55 = .ok (.iload 4, 2) := dq_21 (kX1_binds_1 23 rfl) (kX1_binds_1 24 rfl) rfl
theorem dX1_binds_57 : decode cX1_binds 57 = .ok (.invokevirtual 72, 3) := dq_182 (kX1_binds_1 25 rfl) (kX1_binds_1 26 rfl) (kX1_binds_1 27 rfl) rfl
theorem dX1_binds_60 : decode cX1_binds 60 = .ok (.iload_n 3, 1) := dq_29 (kX1_binds_1 28 rfl)
theorem dX1_binds_61 : decode cX1_binds 61 = .ok (.iload 6, 2) := dq_21 (kX1_binds_1 29 rfl) (kX1_binds_1 30 rfl) rfl
theorem dX1_binds_63 : decode cX1_binds 63 = .ok (.isub, 1) := dq_100 (kX1_binds_1 31 rfl)
theorem dX1_binds_64 : decode cX1_binds 64 = .ok (.aload_n 0, 1) := dq_42 (kX1_binds_2 0 rfl)
theorem dX1_binds_65 : decode cX1_binds 65 = .ok (.bipush 103, 2) := dq_16 (kX1_binds_2 1 rfl) (kX1_binds_2 2 rfl) (by decide)
theorem dX1_binds_67 : decode cX1_binds 67 = .ok (.iconst 0, 1) := dq_3 (kX1_binds_2 3 rfl)
theorem dX1_binds_68 : decode cX1_binds 68 = .ok (.iconst 0, 1) := dq_3 (kX1_binds_2 4 rfl)
theorem dX1_binds_69 : decode cX1_binds 69 = .ok (.invokevirtual 94, 3) := dq_182 (kX1_binds_2 5 rfl) (kX1_binds_2 6 rfl) (kX1_binds_2 7 rfl) rfl
theorem dX1_binds_72 : decode cX1_binds 72 = .ok (.if_icmp .lt 7, 3) := dq_161 (kX1_binds_2 8 rfl) (kX1_binds_2 9 rfl) (kX1_binds_2 10 rfl) (by decide)
theorem dX1_binds_75 : decode cX1_binds 75 = .ok (.iconst 1, 1) := dq_4 (kX1_binds_2 11 rfl)
theorem dX1_binds_76 : decode cX1_binds 76 = .ok (.goto 4, 3) := dq_167 (kX1_binds_2 12 rfl) (kX1_binds_2 13 rfl) (kX1_binds_2 14 rfl) (by decide)
theorem dX1_binds_79 : decode cX1_binds 79 = .ok (.iconst 0, 1) := dq_3 (kX1_binds_2 15 rfl)
theorem dX1_binds_80 : decode cX1_binds 80 = .ok (.ireturn, 1) := dq_172 (kX1_binds_2 16 rfl)

def bX1_weighTexts_0 : List UInt8 := [42, 180, 0, 33, 3, 184, 0, 98, 42, 180, 0, 37, 3, 184, 0, 98, 27, 4, 100, 62, 29, 155, 0, 83, 42, 29, 182, 0, 75, 58, 4, 25]
theorem kX1_weighTexts_0 (j : Nat) {b : UInt8} (hj : bX1_weighTexts_0[j]? = some b) : AtB cX1_weighTexts (0 + j) b := at_of32 (by decide +kernel) j hj
def bX1_weighTexts_1 : List UInt8 := [4, 198, 0, 65, 28, 29, 122, 4, 126, 154, 0, 6, 167, 0, 54, 4, 25, 4, 180, 0, 102, 180, 0, 105, 120, 4, 100, 54, 5, 21, 5, 42]
theorem kX1_weighTexts_1 (j : Nat) {b : UInt8} (hj : bX1_weighTexts_1[j]? = some b) : AtB cX1_weighTexts (32 + j) b := at_of32 (by decide +kernel) j hj
def bX1_weighTexts_2 : List UInt8 := [180, 0, 37, 29, 184, 0, 88, 2, 130, 126, 54, 6, 42, 180, 0, 33, 29, 21, 6, 184, 0, 108, 42, 29, 25, 4, 180, 0, 102, 21, 6, 182]
theorem kX1_weighTexts_2 (j : Nat) {b : UInt8} (hj : bX1_weighTexts_2[j]? = some b) : AtB cX1_weighTexts (64 + j) b := at_of32 (by decide +kernel) j hj
def bX1_weighTexts_3 : List UInt8 := [0, 112, 132, 3, 255, 167, 255, 175, 177]
theorem kX1_weighTexts_3 (j : Nat) {b : UInt8} (hj : bX1_weighTexts_3[j]? = some b) : AtB cX1_weighTexts (96 + j) b := at_of32 (by decide +kernel) j hj
theorem dX1_weighTexts_0 : decode cX1_weighTexts 0 = .ok (.aload_n 0, 1) := dq_42 (kX1_weighTexts_0 0 rfl)
theorem dX1_weighTexts_1 : decode cX1_weighTexts 1 = .ok (.getfield 33, 3) := dq_180 (kX1_weighTexts_0 1 rfl) (kX1_weighTexts_0 2 rfl) (kX1_weighTexts_0 3 rfl) rfl
theorem dX1_weighTexts_4 : decode cX1_weighTexts 4 = .ok (.iconst 0, 1) := dq_3 (kX1_weighTexts_0 4 rfl)
theorem dX1_weighTexts_5 : decode cX1_weighTexts 5 = .ok (.invokestatic 98, 3) := dq_184 (kX1_weighTexts_0 5 rfl) (kX1_weighTexts_0 6 rfl) (kX1_weighTexts_0 7 rfl) rfl
theorem dX1_weighTexts_8 : decode cX1_weighTexts 8 = .ok (.aload_n 0, 1) := dq_42 (kX1_weighTexts_0 8 rfl)
theorem dX1_weighTexts_9 : decode cX1_weighTexts 9 = .ok (.getfield 37, 3) := dq_180 (kX1_weighTexts_0 9 rfl) (kX1_weighTexts_0 10 rfl) (kX1_weighTexts_0 11 rfl) rfl
theorem dX1_weighTexts_12 : decode cX1_weighTexts 12 = .ok (.iconst 0, 1) := dq_3 (kX1_weighTexts_0 12 rfl)
theorem dX1_weighTexts_13 : decode cX1_weighTexts 13 = .ok (.invokestatic 98, 3) := dq_184 (kX1_weighTexts_0 13 rfl) (kX1_weighTexts_0 14 rfl) (kX1_weighTexts_0 15 rfl) rfl
theorem dX1_weighTexts_16 : decode cX1_weighTexts 16 = .ok (.iload_n 1, 1) := dq_27 (kX1_weighTexts_0 16 rfl)
theorem dX1_weighTexts_17 : decode cX1_weighTexts 17 = .ok (.iconst 1, 1) := dq_4 (kX1_weighTexts_0 17 rfl)
theorem dX1_weighTexts_18 : decode cX1_weighTexts 18 = .ok (.isub, 1) := dq_100 (kX1_weighTexts_0 18 rfl)
theorem dX1_weighTexts_19 : decode cX1_weighTexts 19 = .ok (.istore_n 3, 1) := dq_62 (kX1_weighTexts_0 19 rfl)
theorem dX1_weighTexts_20 : decode cX1_weighTexts 20 = .ok (.iload_n 3, 1) := dq_29 (kX1_weighTexts_0 20 rfl)
theorem dX1_weighTexts_21 : decode cX1_weighTexts 21 = .ok (.ifCond .lt 83, 3) := dq_155 (kX1_weighTexts_0 21 rfl) (kX1_weighTexts_0 22 rfl) (kX1_weighTexts_0 23 rfl) (by decide)
theorem dX1_weighTexts_24 : decode cX1_weighTexts 24 = .ok (.aload_n 0, 1) := dq_42 (kX1_weighTexts_0 24 rfl)
theorem dX1_weighTexts_25 : decode cX1_weighTexts 25 = .ok (.iload_n 3, 1) := dq_29 (kX1_weighTexts_0 25 rfl)
theorem dX1_weighTexts_26 : decode cX1_weighTexts 26 = .ok (.invokevirtual 75, 3) := dq_182 (kX1_weighTexts_0 26 rfl) (kX1_weighTexts_0 27 rfl) (kX1_weighTexts_0 28 rfl) rfl
theorem dX1_weighTexts_29 : decode cX1_weighTexts 29 = .ok (.astore 4, 2) := dq_58 (kX1_weighTexts_0 29 rfl) (kX1_weighTexts_0 30 rfl) rfl
theorem dX1_weighTexts_31 : decode cX1_weighTexts 31 = .ok (.aload 4, 2) := dq_25 (kX1_weighTexts_0 31 rfl) (kX1_weighTexts_1 0 rfl) rfl
theorem dX1_weighTexts_33 : decode cX1_weighTexts 33 = .ok (.ifnull 65, 3) := dq_198 (kX1_weighTexts_1 1 rfl) (kX1_weighTexts_1 2 rfl) (kX1_weighTexts_1 3 rfl) (by decide)
theorem dX1_weighTexts_36 : decode cX1_weighTexts 36 = .ok (.iload_n 2, 1) := dq_28 (kX1_weighTexts_1 4 rfl)
theorem dX1_weighTexts_37 : decode cX1_weighTexts 37 = .ok (.iload_n 3, 1) := dq_29 (kX1_weighTexts_1 5 rfl)
theorem dX1_weighTexts_38 : decode cX1_weighTexts 38 = .ok (.ishr, 1) := dq_122 (kX1_weighTexts_1 6 rfl)
theorem dX1_weighTexts_39 : decode cX1_weighTexts 39 = .ok (.iconst 1, 1) := dq_4 (kX1_weighTexts_1 7 rfl)
theorem dX1_weighTexts_40 : decode cX1_weighTexts 40 = .ok (.iand, 1) := dq_126 (kX1_weighTexts_1 8 rfl)
theorem dX1_weighTexts_41 : decode cX1_weighTexts 41 = .ok (.ifCond .ne 6, 3) := dq_154 (kX1_weighTexts_1 9 rfl) (kX1_weighTexts_1 10 rfl) (kX1_weighTexts_1 11 rfl) (by decide)
theorem dX1_weighTexts_44 : decode cX1_weighTexts 44 = .ok (.goto 54, 3) := dq_167 (kX1_weighTexts_1 12 rfl) (kX1_weighTexts_1 13 rfl) (kX1_weighTexts_1 14 rfl) (by decide)
theorem dX1_weighTexts_47 : decode cX1_weighTexts 47 = .ok (.iconst 1, 1) := dq_4 (kX1_weighTexts_1 15 rfl)
theorem dX1_weighTexts_48 : decode cX1_weighTexts 48 = .ok (.aload 4, 2) := dq_25 (kX1_weighTexts_1 16 rfl) (kX1_weighTexts_1 17 rfl) rfl
theorem dX1_weighTexts_50 : decode cX1_weighTexts 50 = .ok (.getfield 102, 3) := dq_180 (kX1_weighTexts_1 18 rfl) (kX1_weighTexts_1 19 rfl) (kX1_weighTexts_1 20 rfl) rfl
theorem dX1_weighTexts_53 : decode cX1_weighTexts 53 = .ok (.getfield 105, 3) := dq_180 (kX1_weighTexts_1 21 rfl) (kX1_weighTexts_1 22 rfl) (kX1_weighTexts_1 23 rfl) rfl
theorem dX1_weighTexts_56 : decode cX1_weighTexts 56 = .ok (.ishl, 1) := dq_120 (kX1_weighTexts_1 24 rfl)
theorem dX1_weighTexts_57 : decode cX1_weighTexts 57 = .ok (.iconst 1, 1) := dq_4 (kX1_weighTexts_1 25 rfl)
theorem dX1_weighTexts_58 : decode cX1_weighTexts 58 = .ok (.isub, 1) := dq_100 (kX1_weighTexts_1 26 rfl)
theorem dX1_weighTexts_59 : decode cX1_weighTexts 59 = .ok (.istore 5, 2) := dq_54 (kX1_weighTexts_1 27 rfl) (kX1_weighTexts_1 28 rfl) rfl
theorem dX1_weighTexts_61 : decode cX1_weighTexts 61 = .ok (.iload 5, 2) := dq_21 (kX1_weighTexts_1 29 rfl) (kX1_weighTexts_1 30 rfl) rfl
theorem dX1_weighTexts_63 : decode cX1_weighTexts 63 = .ok (.aload_n 0, 1) := dq_42 (kX1_weighTexts_1 31 rfl)
theorem dX1_weighTexts_64 : decode cX1_weighTexts 64 = .ok (.getfield 37, 3) := dq_180 (kX1_weighTexts_2 0 rfl) (kX1_weighTexts_2 1 rfl) (kX1_weighTexts_2 2 rfl) rfl
theorem dX1_weighTexts_67 : decode cX1_weighTexts 67 = .ok (.iload_n 3, 1) := dq_29 (kX1_weighTexts_2 3 rfl)
theorem dX1_weighTexts_68 : decode cX1_weighTexts 68 = .ok (.invokestatic 88, 3) := dq_184 (kX1_weighTexts_2 4 rfl) (kX1_weighTexts_2 5 rfl) (kX1_weighTexts_2 6 rfl) rfl
theorem dX1_weighTexts_71 : decode cX1_weighTexts 71 = .ok (.iconst (-1), 1) := dq_2 (kX1_weighTexts_2 7 rfl)
theorem dX1_weighTexts_72 : decode cX1_weighTexts 72 = .ok (.ixor, 1) := dq_130 (kX1_weighTexts_2 8 rfl)
theorem dX1_weighTexts_73 : decode cX1_weighTexts 73 = .ok (.iand, 1) := dq_126 (kX1_weighTexts_2 9 rfl)
theorem dX1_weighTexts_74 : decode cX1_weighTexts 74 = .ok (.istore 6, 2) := dq_54 (kX1_weighTexts_2 10 rfl) (kX1_weighTexts_2 11 rfl) rfl
theorem dX1_weighTexts_76 : decode cX1_weighTexts 76 = .ok (.aload_n 0, 1) := dq_42 (kX1_weighTexts_2 12 rfl)
theorem dX1_weighTexts_77 : decode cX1_weighTexts 77 = .ok (.getfield 33, 3) := dq_180 (kX1_weighTexts_2 13 rfl) (kX1_weighTexts_2 14 rfl) (kX1_weighTexts_2 15 rfl) rfl
theorem dX1_weighTexts_80 : decode cX1_weighTexts 80 = .ok (.iload_n 3, 1) := dq_29 (kX1_weighTexts_2 16 rfl)
theorem dX1_weighTexts_81 : decode cX1_weighTexts 81 = .ok (.iload 6, 2) := dq_21 (kX1_weighTexts_2 17 rfl) (kX1_weighTexts_2 18 rfl) rfl
theorem dX1_weighTexts_83 : decode cX1_weighTexts 83 = .ok (.invokestatic 108, 3) := dq_184 (kX1_weighTexts_2 19 rfl) (kX1_weighTexts_2 20 rfl) (kX1_weighTexts_2 21 rfl) rfl
theorem dX1_weighTexts_86 : decode cX1_weighTexts 86 = .ok (.aload_n 0, 1) := dq_42 (kX1_weighTexts_2 22 rfl)
theorem dX1_weighTexts_87 : decode cX1_weighTexts 87 = .ok (.iload_n 3, 1) := dq_29 (kX1_weighTexts_2 23 rfl)
theorem dX1_weighTexts_88 : decode cX1_weighTexts 88 = .ok (.aload 4, 2) := dq_25 (kX1_weighTexts_2 24 rfl) (kX1_weighTexts_2 25 rfl) rfl
theorem dX1_weighTexts_90 : decode cX1_weighTexts 90 = .ok (.getfield 102, 3) := dq_180 (kX1_weighTexts_2 26 rfl) (kX1_weighTexts_2 27 rfl) (kX1_weighTexts_2 28 rfl) rfl
theorem dX1_weighTexts_93 : decode cX1_weighTexts 93 = .ok (.iload 6, 2) := dq_21 (kX1_weighTexts_2 29 rfl) (kX1_weighTexts_2 30 rfl) rfl
theorem dX1_weighTexts_95 : decode cX1_weighTexts 95 = .ok (.invokevirtual 112, 3) := dq_182 (kX1_weighTexts_2 31 rfl) (kX1_weighTexts_3 0 rfl) (kX1_weighTexts_3 1 rfl) rfl
theorem dX1_weighTexts_98 : decode cX1_weighTexts 98 = .ok (.iinc 3 (-1), 3) := dq_132 (kX1_weighTexts_3 2 rfl) (kX1_weighTexts_3 3 rfl) (kX1_weighTexts_3 4 rfl) rfl (by decide)
theorem dX1_weighTexts_101 : decode cX1_weighTexts 101 = .ok (.goto (-81), 3) := dq_167 (kX1_weighTexts_3 5 rfl) (kX1_weighTexts_3 6 rfl) (kX1_weighTexts_3 7 rfl) (by decide)
theorem dX1_weighTexts_104 : decode cX1_weighTexts 104 = .ok (.return_, 1) := dq_177 (kX1_weighTexts_3 8 rfl)

def bX1_strike_0 : List UInt8 := [3, 54, 4, 21, 4, 44, 180, 0, 105, 162, 0, 77, 44, 21, 4, 5, 182, 0, 116, 54, 5, 29, 21, 4, 122, 4, 126, 153, 0, 53, 44, 21]
theorem kX1_strike_0 (j : Nat) {b : UInt8} (hj : bX1_strike_0[j]? = some b) : AtB cX1_strike (0 + j) b := at_of32 (by decide +kernel) j hj
def bX1_strike_1 : List UInt8 := [4, 3, 182, 0, 116, 16, 120, 160, 0, 41, 21, 5, 27, 162, 0, 35, 4, 44, 21, 4, 6, 182, 0, 116, 120, 54, 6, 42, 180, 0, 37, 21]
theorem kX1_strike_1 (j : Nat) {b : UInt8} (hj : bX1_strike_1[j]? = some b) : AtB cX1_strike (32 + j) b := at_of32 (by decide +kernel) j hj
def bX1_strike_2 : List UInt8 := [5, 42, 180, 0, 37, 21, 5, 184, 0, 88, 21, 6, 128, 184, 0, 108, 132, 4, 1, 167, 255, 176, 177]
theorem kX1_strike_2 (j : Nat) {b : UInt8} (hj : bX1_strike_2[j]? = some b) : AtB cX1_strike (64 + j) b := at_of32 (by decide +kernel) j hj
theorem dX1_strike_0 : decode cX1_strike 0 = .ok (.iconst 0, 1) := dq_3 (kX1_strike_0 0 rfl)
theorem dX1_strike_1 : decode cX1_strike 1 = .ok (.istore 4, 2) := dq_54 (kX1_strike_0 1 rfl) (kX1_strike_0 2 rfl) rfl
theorem dX1_strike_3 : decode cX1_strike 3 = .ok (.iload 4, 2) := dq_21 (kX1_strike_0 3 rfl) (kX1_strike_0 4 rfl) rfl
theorem dX1_strike_5 : decode cX1_strike 5 = .ok (.aload_n 2, 1) := dq_44 (kX1_strike_0 5 rfl)
theorem dX1_strike_6 : decode cX1_strike 6 = .ok (.getfield 105, 3) := dq_180 (kX1_strike_0 6 rfl) (kX1_strike_0 7 rfl) (kX1_strike_0 8 rfl) rfl
theorem dX1_strike_9 : decode cX1_strike 9 = .ok (.if_icmp .ge 77, 3) := dq_162 (kX1_strike_0 9 rfl) (kX1_strike_0 10 rfl) (kX1_strike_0 11 rfl) (by decide)
theorem dX1_strike_12 : decode cX1_strike 12 = .ok (.aload_n 2, 1) := dq_44 (kX1_strike_0 12 rfl)
theorem dX1_strike_13 : decode cX1_strike 13 = .ok (.iload 4, 2) := dq_21 (kX1_strike_0 13 rfl) (kX1_strike_0 14 rfl) rfl
theorem dX1_strike_15 : decode cX1_strike 15 = .ok (.iconst 2, 1) := dq_5 (kX1_strike_0 15 rfl)
theorem dX1_strike_16 : decode cX1_strike 16 = .ok (.invokevirtual 116, 3) := dq_182 (kX1_strike_0 16 rfl) (kX1_strike_0 17 rfl) (kX1_strike_0 18 rfl) rfl
theorem dX1_strike_19 : decode cX1_strike 19 = .ok (.istore 5, 2) := dq_54 (kX1_strike_0 19 rfl) (kX1_strike_0 20 rfl) rfl
theorem dX1_strike_21 : decode cX1_strike 21 = .ok (.iload_n 3, 1) := dq_29 (kX1_strike_0 21 rfl)
theorem dX1_strike_22 : decode cX1_strike 22 = .ok (.iload 4, 2) := dq_21 (kX1_strike_0 22 rfl) (kX1_strike_0 23 rfl) rfl
theorem dX1_strike_24 : decode cX1_strike 24 = .ok (.ishr, 1) := dq_122 (kX1_strike_0 24 rfl)
theorem dX1_strike_25 : decode cX1_strike 25 = .ok (.iconst 1, 1) := dq_4 (kX1_strike_0 25 rfl)
theorem dX1_strike_26 : decode cX1_strike 26 = .ok (.iand, 1) := dq_126 (kX1_strike_0 26 rfl)
theorem dX1_strike_27 : decode cX1_strike 27 = .ok (.ifCond .eq 53, 3) := dq_153 (kX1_strike_0 27 rfl) (kX1_strike_0 28 rfl) (kX1_strike_0 29 rfl) (by decide)
theorem dX1_strike_30 : decode cX1_strike 30 = .ok (.aload_n 2, 1) := dq_44 (kX1_strike_0 30 rfl)
theorem dX1_strike_31 : decode cX1_strike 31 = .ok (.iload 4, 2) := dq_21 (kX1_strike_0 31 rfl) (kX1_strike_1 0 rfl) rfl
theorem dX1_strike_33 : decode cX1_strike 33 = .ok (.iconst 0, 1) := dq_3 (kX1_strike_1 1 rfl)
theorem dX1_strike_34 : decode cX1_strike 34 = .ok (.invokevirtual 116, 3) := dq_182 (kX1_strike_1 2 rfl) (kX1_strike_1 3 rfl) (kX1_strike_1 4 rfl) rfl
theorem dX1_strike_37 : decode cX1_strike 37 = .ok (.bipush 120, 2) := dq_16 (kX1_strike_1 5 rfl) (kX1_strike_1 6 rfl) (by decide)
theorem dX1_strike_39 : decode cX1_strike 39 = .ok (.if_icmp .ne 41, 3) := dq_160 (kX1_strike_1 7 rfl) (kX1_strike_1 8 rfl) (kX1_strike_1 9 rfl) (by decide)
theorem dX1_strike_42 : decode cX1_strike 42 = .ok (.iload 5, 2) := dq_21 (kX1_strike_1 10 rfl) (kX1_strike_1 11 rfl) rfl
theorem dX1_strike_44 : decode cX1_strike 44 = .ok (.iload_n 1, 1) := dq_27 (kX1_strike_1 12 rfl)
theorem dX1_strike_45 : decode cX1_strike 45 = .ok (.if_icmp .ge 35, 3) := dq_162 (kX1_strike_1 13 rfl) (kX1_strike_1 14 rfl) (kX1_strike_1 15 rfl) (by decide)
theorem dX1_strike_48 : decode cX1_strike 48 = .ok (.iconst 1, 1) := dq_4 (kX1_strike_1 16 rfl)
theorem dX1_strike_49 : decode cX1_strike 49 = .ok (.aload_n 2, 1) := dq_44 (kX1_strike_1 17 rfl)
theorem dX1_strike_50 : decode cX1_strike 50 = .ok (.iload 4, 2) := dq_21 (kX1_strike_1 18 rfl) (kX1_strike_1 19 rfl) rfl
theorem dX1_strike_52 : decode cX1_strike 52 = .ok (.iconst 3, 1) := dq_6 (kX1_strike_1 20 rfl)
theorem dX1_strike_53 : decode cX1_strike 53 = .ok (.invokevirtual 116, 3) := dq_182 (kX1_strike_1 21 rfl) (kX1_strike_1 22 rfl) (kX1_strike_1 23 rfl) rfl
theorem dX1_strike_56 : decode cX1_strike 56 = .ok (.ishl, 1) := dq_120 (kX1_strike_1 24 rfl)
theorem dX1_strike_57 : decode cX1_strike 57 = .ok (.istore 6, 2) := dq_54 (kX1_strike_1 25 rfl) (kX1_strike_1 26 rfl) rfl
theorem dX1_strike_59 : decode cX1_strike 59 = .ok (.aload_n 0, 1) := dq_42 (kX1_strike_1 27 rfl)
theorem dX1_strike_60 : decode cX1_strike 60 = .ok (.getfield 37, 3) := dq_180 (kX1_strike_1 28 rfl) (kX1_strike_1 29 rfl) (kX1_strike_1 30 rfl) rfl
theorem dX1_strike_63 : decode cX1_strike 63 = .ok (.iload 5, 2) := dq_21 (kX1_strike_1 31 rfl) (kX1_strike_2 0 rfl) rfl
theorem dX1_strike_65 : decode cX1_strike 65 = .ok (.aload_n 0, 1) := dq_42 (kX1_strike_2 1 rfl)
theorem dX1_strike_66 : decode cX1_strike 66 = .ok (.getfield 37, 3) := dq_180 (kX1_strike_2 2 rfl) (kX1_strike_2 3 rfl) (kX1_strike_2 4 rfl) rfl
theorem dX1_strike_69 : decode cX1_strike 69 = .ok (.iload 5, 2) := dq_21 (kX1_strike_2 5 rfl) (kX1_strike_2 6 rfl) rfl
theorem dX1_strike_71 : decode cX1_strike 71 = .ok (.invokestatic 88, 3) := dq_184 (kX1_strike_2 7 rfl) (kX1_strike_2 8 rfl) (kX1_strike_2 9 rfl) rfl
theorem dX1_strike_74 : decode cX1_strike 74 = .ok (.iload 6, 2) := dq_21 (kX1_strike_2 10 rfl) (kX1_strike_2 11 rfl) rfl
theorem dX1_strike_76 : decode cX1_strike 76 = .ok (.ior, 1) := dq_128 (kX1_strike_2 12 rfl)
theorem dX1_strike_77 : decode cX1_strike 77 = .ok (.invokestatic 108, 3) := dq_184 (kX1_strike_2 13 rfl) (kX1_strike_2 14 rfl) (kX1_strike_2 15 rfl) rfl
theorem dX1_strike_80 : decode cX1_strike 80 = .ok (.iinc 4 1, 3) := dq_132 (kX1_strike_2 16 rfl) (kX1_strike_2 17 rfl) (kX1_strike_2 18 rfl) rfl (by decide)
theorem dX1_strike_83 : decode cX1_strike 83 = .ok (.goto (-80), 3) := dq_167 (kX1_strike_2 19 rfl) (kX1_strike_2 20 rfl) (kX1_strike_2 21 rfl) (by decide)
theorem dX1_strike_86 : decode cX1_strike 86 = .ok (.return_, 1) := dq_177 (kX1_strike_2 22 rfl)

def bX1_isCounting_0 : List UInt8 := [42, 180, 0, 33, 27, 184, 0, 88, 28, 122, 4, 126, 153, 0, 7, 4, 167, 0, 4, 3, 172]
theorem kX1_isCounting_0 (j : Nat) {b : UInt8} (hj : bX1_isCounting_0[j]? = some b) : AtB cX1_isCounting (0 + j) b := at_of32 (by decide +kernel) j hj
theorem dX1_isCounting_0 : decode cX1_isCounting 0 = .ok (.aload_n 0, 1) := dq_42 (kX1_isCounting_0 0 rfl)
theorem dX1_isCounting_1 : decode cX1_isCounting 1 = .ok (.getfield 33, 3) := dq_180 (kX1_isCounting_0 1 rfl) (kX1_isCounting_0 2 rfl) (kX1_isCounting_0 3 rfl) rfl
theorem dX1_isCounting_4 : decode cX1_isCounting 4 = .ok (.iload_n 1, 1) := dq_27 (kX1_isCounting_0 4 rfl)
theorem dX1_isCounting_5 : decode cX1_isCounting 5 = .ok (.invokestatic 88, 3) := dq_184 (kX1_isCounting_0 5 rfl) (kX1_isCounting_0 6 rfl) (kX1_isCounting_0 7 rfl) rfl
theorem dX1_isCounting_8 : decode cX1_isCounting 8 = .ok (.iload_n 2, 1) := dq_28 (kX1_isCounting_0 8 rfl)
theorem dX1_isCounting_9 : decode cX1_isCounting 9 = .ok (.ishr, 1) := dq_122 (kX1_isCounting_0 9 rfl)
theorem dX1_isCounting_10 : decode cX1_isCounting 10 = .ok (.iconst 1, 1) := dq_4 (kX1_isCounting_0 10 rfl)
theorem dX1_isCounting_11 : decode cX1_isCounting 11 = .ok (.iand, 1) := dq_126 (kX1_isCounting_0 11 rfl)
theorem dX1_isCounting_12 : decode cX1_isCounting 12 = .ok (.ifCond .eq 7, 3) := dq_153 (kX1_isCounting_0 12 rfl) (kX1_isCounting_0 13 rfl) (kX1_isCounting_0 14 rfl) (by decide)
theorem dX1_isCounting_15 : decode cX1_isCounting 15 = .ok (.iconst 1, 1) := dq_4 (kX1_isCounting_0 15 rfl)
theorem dX1_isCounting_16 : decode cX1_isCounting 16 = .ok (.goto 4, 3) := dq_167 (kX1_isCounting_0 16 rfl) (kX1_isCounting_0 17 rfl) (kX1_isCounting_0 18 rfl) (by decide)
theorem dX1_isCounting_19 : decode cX1_isCounting 19 = .ok (.iconst 0, 1) := dq_3 (kX1_isCounting_0 19 rfl)
theorem dX1_isCounting_20 : decode cX1_isCounting 20 = .ok (.ireturn, 1) := dq_172 (kX1_isCounting_0 20 rfl)

def bX1_numberOf_0 : List UInt8 := [42, 180, 0, 17, 4, 100, 54, 4, 21, 4, 155, 0, 142, 42, 21, 4, 182, 0, 75, 58, 5, 25, 5, 198, 0, 123, 42, 180, 0, 33, 21, 4]
theorem kX1_numberOf_0 (j : Nat) {b : UInt8} (hj : bX1_numberOf_0[j]? = some b) : AtB cX1_numberOf (0 + j) b := at_of32 (by decide +kernel) j hj
def bX1_numberOf_1 : List UInt8 := [184, 0, 88, 154, 0, 6, 167, 0, 108, 25, 5, 180, 0, 102, 180, 0, 105, 4, 100, 54, 6, 21, 6, 155, 0, 91, 27, 16, 107, 160, 0, 37]
theorem kX1_numberOf_1 (j : Nat) {b : UInt8} (hj : bX1_numberOf_1[j]? = some b) : AtB cX1_numberOf (32 + j) b := at_of32 (by decide +kernel) j hj
def bX1_numberOf_2 : List UInt8 := [25, 5, 180, 0, 102, 21, 6, 5, 182, 0, 116, 28, 160, 0, 18, 25, 5, 180, 0, 102, 21, 6, 6, 182, 0, 116, 29, 159, 0, 7, 4, 167]
theorem kX1_numberOf_2 (j : Nat) {b : UInt8} (hj : bX1_numberOf_2[j]? = some b) : AtB cX1_numberOf (64 + j) b := at_of32 (by decide +kernel) j hj
def bX1_numberOf_3 : List UInt8 := [0, 4, 3, 54, 7, 25, 5, 21, 6, 182, 0, 119, 27, 160, 0, 31, 21, 7, 154, 0, 26, 42, 21, 4, 21, 6, 182, 0, 123, 153, 0, 15]
theorem kX1_numberOf_3 (j : Nat) {b : UInt8} (hj : bX1_numberOf_3[j]? = some b) : AtB cX1_numberOf (96 + j) b := at_of32 (by decide +kernel) j hj
def bX1_numberOf_4 : List UInt8 := [25, 5, 180, 0, 102, 21, 6, 4, 182, 0, 116, 172, 132, 6, 255, 167, 255, 166, 132, 4, 255, 167, 255, 115, 2, 172]
theorem kX1_numberOf_4 (j : Nat) {b : UInt8} (hj : bX1_numberOf_4[j]? = some b) : AtB cX1_numberOf (128 + j) b := at_of32 (by decide +kernel) j hj
theorem dX1_numberOf_0 : decode cX1_numberOf 0 = .ok (.aload_n 0, 1) := dq_42 (kX1_numberOf_0 0 rfl)
theorem dX1_numberOf_1 : decode cX1_numberOf 1 = .ok (.getfield 17, 3) := dq_180 (kX1_numberOf_0 1 rfl) (kX1_numberOf_0 2 rfl) (kX1_numberOf_0 3 rfl) rfl
theorem dX1_numberOf_4 : decode cX1_numberOf 4 = .ok (.iconst 1, 1) := dq_4 (kX1_numberOf_0 4 rfl)
theorem dX1_numberOf_5 : decode cX1_numberOf 5 = .ok (.isub, 1) := dq_100 (kX1_numberOf_0 5 rfl)
theorem dX1_numberOf_6 : decode cX1_numberOf 6 = .ok (.istore 4, 2) := dq_54 (kX1_numberOf_0 6 rfl) (kX1_numberOf_0 7 rfl) rfl
theorem dX1_numberOf_8 : decode cX1_numberOf 8 = .ok (.iload 4, 2) := dq_21 (kX1_numberOf_0 8 rfl) (kX1_numberOf_0 9 rfl) rfl
theorem dX1_numberOf_10 : decode cX1_numberOf 10 = .ok (.ifCond .lt 142, 3) := dq_155 (kX1_numberOf_0 10 rfl) (kX1_numberOf_0 11 rfl) (kX1_numberOf_0 12 rfl) (by decide)
theorem dX1_numberOf_13 : decode cX1_numberOf 13 = .ok (.aload_n 0, 1) := dq_42 (kX1_numberOf_0 13 rfl)
theorem dX1_numberOf_14 : decode cX1_numberOf 14 = .ok (.iload 4, 2) := dq_21 (kX1_numberOf_0 14 rfl) (kX1_numberOf_0 15 rfl) rfl
theorem dX1_numberOf_16 : decode cX1_numberOf 16 = .ok (.invokevirtual 75, 3) := dq_182 (kX1_numberOf_0 16 rfl) (kX1_numberOf_0 17 rfl) (kX1_numberOf_0 18 rfl) rfl
theorem dX1_numberOf_19 : decode cX1_numberOf 19 = .ok (.astore 5, 2) := dq_58 (kX1_numberOf_0 19 rfl) (kX1_numberOf_0 20 rfl) rfl
theorem dX1_numberOf_21 : decode cX1_numberOf 21 = .ok (.aload 5, 2) := dq_25 (kX1_numberOf_0 21 rfl) (kX1_numberOf_0 22 rfl) rfl
theorem dX1_numberOf_23 : decode cX1_numberOf 23 = .ok (.ifnull 123, 3) := dq_198 (kX1_numberOf_0 23 rfl) (kX1_numberOf_0 24 rfl) (kX1_numberOf_0 25 rfl) (by decide)
theorem dX1_numberOf_26 : decode cX1_numberOf 26 = .ok (.aload_n 0, 1) := dq_42 (kX1_numberOf_0 26 rfl)
theorem dX1_numberOf_27 : decode cX1_numberOf 27 = .ok (.getfield 33, 3) := dq_180 (kX1_numberOf_0 27 rfl) (kX1_numberOf_0 28 rfl) (kX1_numberOf_0 29 rfl) rfl
theorem dX1_numberOf_30 : decode cX1_numberOf 30 = .ok (.iload 4, 2) := dq_21 (kX1_numberOf_0 30 rfl) (kX1_numberOf_0 31 rfl) rfl
theorem dX1_numberOf_32 : decode cX1_numberOf 32 = .ok (.invokestatic 88, 3) := dq_184 (kX1_numberOf_1 0 rfl) (kX1_numberOf_1 1 rfl) (kX1_numberOf_1 2 rfl) rfl
theorem dX1_numberOf_35 : decode cX1_numberOf 35 = .ok (.ifCond .ne 6, 3) := dq_154 (kX1_numberOf_1 3 rfl) (kX1_numberOf_1 4 rfl) (kX1_numberOf_1 5 rfl) (by decide)
theorem dX1_numberOf_38 : decode cX1_numberOf 38 = .ok (.goto 108, 3) := dq_167 (kX1_numberOf_1 6 rfl) (kX1_numberOf_1 7 rfl) (kX1_numberOf_1 8 rfl) (by decide)
theorem dX1_numberOf_41 : decode cX1_numberOf 41 = .ok (.aload 5, 2) := dq_25 (kX1_numberOf_1 9 rfl) (kX1_numberOf_1 10 rfl) rfl
theorem dX1_numberOf_43 : decode cX1_numberOf 43 = .ok (.getfield 102, 3) := dq_180 (kX1_numberOf_1 11 rfl) (kX1_numberOf_1 12 rfl) (kX1_numberOf_1 13 rfl) rfl
theorem dX1_numberOf_46 : decode cX1_numberOf 46 = .ok (.getfield 105, 3) := dq_180 (kX1_numberOf_1 14 rfl) (kX1_numberOf_1 15 rfl) (kX1_numberOf_1 16 rfl) rfl
theorem dX1_numberOf_49 : decode cX1_numberOf 49 = .ok (.iconst 1, 1) := dq_4 (kX1_numberOf_1 17 rfl)
theorem dX1_numberOf_50 : decode cX1_numberOf 50 = .ok (.isub, 1) := dq_100 (kX1_numberOf_1 18 rfl)
theorem dX1_numberOf_51 : decode cX1_numberOf 51 = .ok (.istore 6, 2) := dq_54 (kX1_numberOf_1 19 rfl) (kX1_numberOf_1 20 rfl) rfl
theorem dX1_numberOf_53 : decode cX1_numberOf 53 = .ok (.iload 6, 2) := dq_21 (kX1_numberOf_1 21 rfl) (kX1_numberOf_1 22 rfl) rfl
theorem dX1_numberOf_55 : decode cX1_numberOf 55 = .ok (.ifCond .lt 91, 3) := dq_155 (kX1_numberOf_1 23 rfl) (kX1_numberOf_1 24 rfl) (kX1_numberOf_1 25 rfl) (by decide)
theorem dX1_numberOf_58 : decode cX1_numberOf 58 = .ok (.iload_n 1, 1) := dq_27 (kX1_numberOf_1 26 rfl)
theorem dX1_numberOf_59 : decode cX1_numberOf 59 = .ok (.bipush 107, 2) := dq_16 (kX1_numberOf_1 27 rfl) (kX1_numberOf_1 28 rfl) (by decide)
theorem dX1_numberOf_61 : decode cX1_numberOf 61 = .ok (.if_icmp .ne 37, 3) := dq_160 (kX1_numberOf_1 29 rfl) (kX1_numberOf_1 30 rfl) (kX1_numberOf_1 31 rfl) (by decide)
theorem dX1_numberOf_64 : decode cX1_numberOf 64 = .ok (.aload 5, 2) := dq_25 (kX1_numberOf_2 0 rfl) (kX1_numberOf_2 1 rfl) rfl
theorem dX1_numberOf_66 : decode cX1_numberOf 66 = .ok (.getfield 102, 3) := dq_180 (kX1_numberOf_2 2 rfl) (kX1_numberOf_2 3 rfl) (kX1_numberOf_2 4 rfl) rfl
theorem dX1_numberOf_69 : decode cX1_numberOf 69 = .ok (.iload 6, 2) := dq_21 (kX1_numberOf_2 5 rfl) (kX1_numberOf_2 6 rfl) rfl
theorem dX1_numberOf_71 : decode cX1_numberOf 71 = .ok (.iconst 2, 1) := dq_5 (kX1_numberOf_2 7 rfl)
theorem dX1_numberOf_72 : decode cX1_numberOf 72 = .ok (.invokevirtual 116, 3) := dq_182 (kX1_numberOf_2 8 rfl) (kX1_numberOf_2 9 rfl) (kX1_numberOf_2 10 rfl) rfl
theorem dX1_numberOf_75 : decode cX1_numberOf 75 = .ok (.iload_n 2, 1) := dq_28 (kX1_numberOf_2 11 rfl)
theorem dX1_numberOf_76 : decode cX1_numberOf 76 = .ok (.if_icmp .ne 18, 3) := dq_160 (kX1_numberOf_2 12 rfl) (kX1_numberOf_2 13 rfl) (kX1_numberOf_2 14 rfl) (by decide)
theorem dX1_numberOf_79 : decode cX1_numberOf 79 = .ok (.aload 5, 2) := dq_25 (kX1_numberOf_2 15 rfl) (kX1_numberOf_2 16 rfl) rfl
theorem dX1_numberOf_81 : decode cX1_numberOf 81 = .ok (.getfield 102, 3) := dq_180 (kX1_numberOf_2 17 rfl) (kX1_numberOf_2 18 rfl) (kX1_numberOf_2 19 rfl) rfl
theorem dX1_numberOf_84 : decode cX1_numberOf 84 = .ok (.iload 6, 2) := dq_21 (kX1_numberOf_2 20 rfl) (kX1_numberOf_2 21 rfl) rfl
theorem dX1_numberOf_86 : decode cX1_numberOf 86 = .ok (.iconst 3, 1) := dq_6 (kX1_numberOf_2 22 rfl)
theorem dX1_numberOf_87 : decode cX1_numberOf 87 = .ok (.invokevirtual 116, 3) := dq_182 (kX1_numberOf_2 23 rfl) (kX1_numberOf_2 24 rfl) (kX1_numberOf_2 25 rfl) rfl
theorem dX1_numberOf_90 : decode cX1_numberOf 90 = .ok (.iload_n 3, 1) := dq_29 (kX1_numberOf_2 26 rfl)
theorem dX1_numberOf_91 : decode cX1_numberOf 91 = .ok (.if_icmp .eq 7, 3) := dq_159 (kX1_numberOf_2 27 rfl) (kX1_numberOf_2 28 rfl) (kX1_numberOf_2 29 rfl) (by decide)
theorem dX1_numberOf_94 : decode cX1_numberOf 94 = .ok (.iconst 1, 1) := dq_4 (kX1_numberOf_2 30 rfl)
theorem dX1_numberOf_95 : decode cX1_numberOf 95 = .ok (.goto 4, 3) := dq_167 (kX1_numberOf_2 31 rfl) (kX1_numberOf_3 0 rfl) (kX1_numberOf_3 1 rfl) (by decide)
theorem dX1_numberOf_98 : decode cX1_numberOf 98 = .ok (.iconst 0, 1) := dq_3 (kX1_numberOf_3 2 rfl)
theorem dX1_numberOf_99 : decode cX1_numberOf 99 = .ok (.istore 7, 2) := dq_54 (kX1_numberOf_3 3 rfl) (kX1_numberOf_3 4 rfl) rfl
theorem dX1_numberOf_101 : decode cX1_numberOf 101 = .ok (.aload 5, 2) := dq_25 (kX1_numberOf_3 5 rfl) (kX1_numberOf_3 6 rfl) rfl
theorem dX1_numberOf_103 : decode cX1_numberOf 103 = .ok (.iload 6, 2) := dq_21 (kX1_numberOf_3 7 rfl) (kX1_numberOf_3 8 rfl) rfl
theorem dX1_numberOf_105 : decode cX1_numberOf 105 = .ok (.invokevirtual 119, 3) := dq_182 (kX1_numberOf_3 9 rfl) (kX1_numberOf_3 10 rfl) (kX1_numberOf_3 11 rfl) rfl
theorem dX1_numberOf_108 : decode cX1_numberOf 108 = .ok (.iload_n 1, 1) := dq_27 (kX1_numberOf_3 12 rfl)
theorem dX1_numberOf_109 : decode cX1_numberOf 109 = .ok (.if_icmp .ne 31, 3) := dq_160 (kX1_numberOf_3 13 rfl) (kX1_numberOf_3 14 rfl) (kX1_numberOf_3 15 rfl) (by decide)
theorem dX1_numberOf_112 : decode cX1_numberOf 112 = .ok (.iload 7, 2) := dq_21 (kX1_numberOf_3 16 rfl) (kX1_numberOf_3 17 rfl) rfl
theorem dX1_numberOf_114 : decode cX1_numberOf 114 = .ok (.ifCond .ne 26, 3) := dq_154 (kX1_numberOf_3 18 rfl) (kX1_numberOf_3 19 rfl) (kX1_numberOf_3 20 rfl) (by decide)
theorem dX1_numberOf_117 : decode cX1_numberOf 117 = .ok (.aload_n 0, 1) := dq_42 (kX1_numberOf_3 21 rfl)
theorem dX1_numberOf_118 : decode cX1_numberOf 118 = .ok (.iload 4, 2) := dq_21 (kX1_numberOf_3 22 rfl) (kX1_numberOf_3 23 rfl) rfl
theorem dX1_numberOf_120 : decode cX1_numberOf 120 = .ok (.iload 6, 2) := dq_21 (kX1_numberOf_3 24 rfl) (kX1_numberOf_3 25 rfl) rfl
theorem dX1_numberOf_122 : decode cX1_numberOf 122 = .ok (.invokevirtual 123, 3) := dq_182 (kX1_numberOf_3 26 rfl) (kX1_numberOf_3 27 rfl) (kX1_numberOf_3 28 rfl) rfl
theorem dX1_numberOf_125 : decode cX1_numberOf 125 = .ok (.ifCond .eq 15, 3) := dq_153 (kX1_numberOf_3 29 rfl) (kX1_numberOf_3 30 rfl) (kX1_numberOf_3 31 rfl) (by decide)
theorem dX1_numberOf_128 : decode cX1_numberOf 128 = .ok (.aload 5, 2) := dq_25 (kX1_numberOf_4 0 rfl) (kX1_numberOf_4 1 rfl) rfl
theorem dX1_numberOf_130 : decode cX1_numberOf 130 = .ok (.getfield 102, 3) := dq_180 (kX1_numberOf_4 2 rfl) (kX1_numberOf_4 3 rfl) (kX1_numberOf_4 4 rfl) rfl
theorem dX1_numberOf_133 : decode cX1_numberOf 133 = .ok (.iload 6, 2) := dq_21 (kX1_numberOf_4 5 rfl) (kX1_numberOf_4 6 rfl) rfl
theorem dX1_numberOf_135 : decode cX1_numberOf 135 = .ok (.iconst 1, 1) := dq_4 (kX1_numberOf_4 7 rfl)
theorem dX1_numberOf_136 : decode cX1_numberOf 136 = .ok (.invokevirtual 116, 3) := dq_182 (kX1_numberOf_4 8 rfl) (kX1_numberOf_4 9 rfl) (kX1_numberOf_4 10 rfl) rfl
theorem dX1_numberOf_139 : decode cX1_numberOf 139 = .ok (.ireturn, 1) := dq_172 (kX1_numberOf_4 11 rfl)
theorem dX1_numberOf_140 : decode cX1_numberOf 140 = .ok (.iinc 6 (-1), 3) := dq_132 (kX1_numberOf_4 12 rfl) (kX1_numberOf_4 13 rfl) (kX1_numberOf_4 14 rfl) rfl (by decide)
theorem dX1_numberOf_143 : decode cX1_numberOf 143 = .ok (.goto (-90), 3) := dq_167 (kX1_numberOf_4 15 rfl) (kX1_numberOf_4 16 rfl) (kX1_numberOf_4 17 rfl) (by decide)
theorem dX1_numberOf_146 : decode cX1_numberOf 146 = .ok (.iinc 4 (-1), 3) := dq_132 (kX1_numberOf_4 18 rfl) (kX1_numberOf_4 19 rfl) (kX1_numberOf_4 20 rfl) rfl (by decide)
theorem dX1_numberOf_149 : decode cX1_numberOf 149 = .ok (.goto (-141), 3) := dq_167 (kX1_numberOf_4 21 rfl) (kX1_numberOf_4 22 rfl) (kX1_numberOf_4 23 rfl) (by decide)
theorem dX1_numberOf_152 : decode cX1_numberOf 152 = .ok (.iconst (-1), 1) := dq_2 (kX1_numberOf_4 24 rfl)
theorem dX1_numberOf_153 : decode cX1_numberOf 153 = .ok (.ireturn, 1) := dq_172 (kX1_numberOf_4 25 rfl)

def bX1_judge_0 : List UInt8 := [42, 2, 181, 0, 55, 42, 2, 181, 0, 58, 3, 54, 5, 21, 5, 42, 180, 0, 17, 162, 0, 184, 42, 21, 5, 182, 0, 75, 58, 6, 25, 6]
theorem kX1_judge_0 (j : Nat) {b : UInt8} (hj : bX1_judge_0[j]? = some b) : AtB cX1_judge (0 + j) b := at_of32 (by decide +kernel) j hj
def bX1_judge_1 : List UInt8 := [198, 0, 165, 42, 180, 0, 33, 21, 5, 184, 0, 88, 154, 0, 6, 167, 0, 150, 3, 54, 7, 21, 7, 25, 6, 180, 0, 102, 180, 0, 105, 162]
theorem kX1_judge_1 (j : Nat) {b : UInt8} (hj : bX1_judge_1[j]? = some b) : AtB cX1_judge (32 + j) b := at_of32 (by decide +kernel) j hj
def bX1_judge_2 : List UInt8 := [0, 134, 42, 21, 5, 21, 7, 182, 0, 123, 153, 0, 117, 25, 6, 21, 7, 182, 0, 127, 154, 0, 6, 167, 0, 104, 29, 153, 0, 18, 42, 43]
theorem kX1_judge_2 (j : Nat) {b : UInt8} (hj : bX1_judge_2[j]? = some b) : AtB cX1_judge (64 + j) b := at_of32 (by decide +kernel) j hj
def bX1_judge_3 : List UInt8 := [180, 0, 130, 21, 5, 21, 7, 182, 0, 135, 167, 0, 4, 1, 58, 8, 25, 8, 199, 0, 14, 42, 25, 6, 21, 7, 182, 0, 139, 167, 0, 10]
theorem kX1_judge_3 (j : Nat) {b : UInt8} (hj : bX1_judge_3[j]? = some b) : AtB cX1_judge (96 + j) b := at_of32 (by decide +kernel) j hj
def bX1_judge_4 : List UInt8 := [42, 25, 8, 3, 182, 0, 139, 54, 9, 21, 9, 16, 254, 160, 0, 8, 16, 6, 167, 0, 23, 21, 9, 154, 0, 7, 3, 167, 0, 14, 25, 6]
theorem kX1_judge_4 (j : Nat) {b : UInt8} (hj : bX1_judge_4[j]? = some b) : AtB cX1_judge (128 + j) b := at_of32 (by decide +kernel) j hj
def bX1_judge_5 : List UInt8 := [21, 7, 43, 28, 21, 4, 184, 0, 143, 54, 10, 21, 10, 153, 0, 18, 42, 21, 5, 181, 0, 55, 42, 21, 7, 181, 0, 58, 21, 10, 172, 132]
theorem kX1_judge_5 (j : Nat) {b : UInt8} (hj : bX1_judge_5[j]? = some b) : AtB cX1_judge (160 + j) b := at_of32 (by decide +kernel) j hj
def bX1_judge_6 : List UInt8 := [7, 1, 167, 255, 115, 132, 5, 1, 167, 255, 69, 3, 172]
theorem kX1_judge_6 (j : Nat) {b : UInt8} (hj : bX1_judge_6[j]? = some b) : AtB cX1_judge (192 + j) b := at_of32 (by decide +kernel) j hj
theorem dX1_judge_0 : decode cX1_judge 0 = .ok (.aload_n 0, 1) := dq_42 (kX1_judge_0 0 rfl)
theorem dX1_judge_1 : decode cX1_judge 1 = .ok (.iconst (-1), 1) := dq_2 (kX1_judge_0 1 rfl)
theorem dX1_judge_2 : decode cX1_judge 2 = .ok (.putfield 55, 3) := dq_181 (kX1_judge_0 2 rfl) (kX1_judge_0 3 rfl) (kX1_judge_0 4 rfl) rfl
theorem dX1_judge_5 : decode cX1_judge 5 = .ok (.aload_n 0, 1) := dq_42 (kX1_judge_0 5 rfl)
theorem dX1_judge_6 : decode cX1_judge 6 = .ok (.iconst (-1), 1) := dq_2 (kX1_judge_0 6 rfl)
theorem dX1_judge_7 : decode cX1_judge 7 = .ok (.putfield 58, 3) := dq_181 (kX1_judge_0 7 rfl) (kX1_judge_0 8 rfl) (kX1_judge_0 9 rfl) rfl
theorem dX1_judge_10 : decode cX1_judge 10 = .ok (.iconst 0, 1) := dq_3 (kX1_judge_0 10 rfl)
theorem dX1_judge_11 : decode cX1_judge 11 = .ok (.istore 5, 2) := dq_54 (kX1_judge_0 11 rfl) (kX1_judge_0 12 rfl) rfl
theorem dX1_judge_13 : decode cX1_judge 13 = .ok (.iload 5, 2) := dq_21 (kX1_judge_0 13 rfl) (kX1_judge_0 14 rfl) rfl
theorem dX1_judge_15 : decode cX1_judge 15 = .ok (.aload_n 0, 1) := dq_42 (kX1_judge_0 15 rfl)
theorem dX1_judge_16 : decode cX1_judge 16 = .ok (.getfield 17, 3) := dq_180 (kX1_judge_0 16 rfl) (kX1_judge_0 17 rfl) (kX1_judge_0 18 rfl) rfl
theorem dX1_judge_19 : decode cX1_judge 19 = .ok (.if_icmp .ge 184, 3) := dq_162 (kX1_judge_0 19 rfl) (kX1_judge_0 20 rfl) (kX1_judge_0 21 rfl) (by decide)
theorem dX1_judge_22 : decode cX1_judge 22 = .ok (.aload_n 0, 1) := dq_42 (kX1_judge_0 22 rfl)
theorem dX1_judge_23 : decode cX1_judge 23 = .ok (.iload 5, 2) := dq_21 (kX1_judge_0 23 rfl) (kX1_judge_0 24 rfl) rfl
theorem dX1_judge_25 : decode cX1_judge 25 = .ok (.invokevirtual 75, 3) := dq_182 (kX1_judge_0 25 rfl) (kX1_judge_0 26 rfl) (kX1_judge_0 27 rfl) rfl
theorem dX1_judge_28 : decode cX1_judge 28 = .ok (.astore 6, 2) := dq_58 (kX1_judge_0 28 rfl) (kX1_judge_0 29 rfl) rfl
theorem dX1_judge_30 : decode cX1_judge 30 = .ok (.aload 6, 2) := dq_25 (kX1_judge_0 30 rfl) (kX1_judge_0 31 rfl) rfl
theorem dX1_judge_32 : decode cX1_judge 32 = .ok (.ifnull 165, 3) := dq_198 (kX1_judge_1 0 rfl) (kX1_judge_1 1 rfl) (kX1_judge_1 2 rfl) (by decide)
theorem dX1_judge_35 : decode cX1_judge 35 = .ok (.aload_n 0, 1) := dq_42 (kX1_judge_1 3 rfl)
theorem dX1_judge_36 : decode cX1_judge 36 = .ok (.getfield 33, 3) := dq_180 (kX1_judge_1 4 rfl) (kX1_judge_1 5 rfl) (kX1_judge_1 6 rfl) rfl
theorem dX1_judge_39 : decode cX1_judge 39 = .ok (.iload 5, 2) := dq_21 (kX1_judge_1 7 rfl) (kX1_judge_1 8 rfl) rfl
theorem dX1_judge_41 : decode cX1_judge 41 = .ok (.invokestatic 88, 3) := dq_184 (kX1_judge_1 9 rfl) (kX1_judge_1 10 rfl) (kX1_judge_1 11 rfl) rfl
theorem dX1_judge_44 : decode cX1_judge 44 = .ok (.ifCond .ne 6, 3) := dq_154 (kX1_judge_1 12 rfl) (kX1_judge_1 13 rfl) (kX1_judge_1 14 rfl) (by decide)
theorem dX1_judge_47 : decode cX1_judge 47 = .ok (.goto 150, 3) := dq_167 (kX1_judge_1 15 rfl) (kX1_judge_1 16 rfl) (kX1_judge_1 17 rfl) (by decide)
theorem dX1_judge_50 : decode cX1_judge 50 = .ok (.iconst 0, 1) := dq_3 (kX1_judge_1 18 rfl)
theorem dX1_judge_51 : decode cX1_judge 51 = .ok (.istore 7, 2) := dq_54 (kX1_judge_1 19 rfl) (kX1_judge_1 20 rfl) rfl
theorem dX1_judge_53 : decode cX1_judge 53 = .ok (.iload 7, 2) := dq_21 (kX1_judge_1 21 rfl) (kX1_judge_1 22 rfl) rfl
theorem dX1_judge_55 : decode cX1_judge 55 = .ok (.aload 6, 2) := dq_25 (kX1_judge_1 23 rfl) (kX1_judge_1 24 rfl) rfl
theorem dX1_judge_57 : decode cX1_judge 57 = .ok (.getfield 102, 3) := dq_180 (kX1_judge_1 25 rfl) (kX1_judge_1 26 rfl) (kX1_judge_1 27 rfl) rfl
theorem dX1_judge_60 : decode cX1_judge 60 = .ok (.getfield 105, 3) := dq_180 (kX1_judge_1 28 rfl) (kX1_judge_1 29 rfl) (kX1_judge_1 30 rfl) rfl
theorem dX1_judge_63 : decode cX1_judge 63 = .ok (.if_icmp .ge 134, 3) := dq_162 (kX1_judge_1 31 rfl) (kX1_judge_2 0 rfl) (kX1_judge_2 1 rfl) (by decide)
theorem dX1_judge_66 : decode cX1_judge 66 = .ok (.aload_n 0, 1) := dq_42 (kX1_judge_2 2 rfl)
theorem dX1_judge_67 : decode cX1_judge 67 = .ok (.iload 5, 2) := dq_21 (kX1_judge_2 3 rfl) (kX1_judge_2 4 rfl) rfl
theorem dX1_judge_69 : decode cX1_judge 69 = .ok (.iload 7, 2) := dq_21 (kX1_judge_2 5 rfl) (kX1_judge_2 6 rfl) rfl
theorem dX1_judge_71 : decode cX1_judge 71 = .ok (.invokevirtual 123, 3) := dq_182 (kX1_judge_2 7 rfl) (kX1_judge_2 8 rfl) (kX1_judge_2 9 rfl) rfl
theorem dX1_judge_74 : decode cX1_judge 74 = .ok (.ifCond .eq 117, 3) := dq_153 (kX1_judge_2 10 rfl) (kX1_judge_2 11 rfl) (kX1_judge_2 12 rfl) (by decide)
theorem dX1_judge_77 : decode cX1_judge 77 = .ok (.aload 6, 2) := dq_25 (kX1_judge_2 13 rfl) (kX1_judge_2 14 rfl) rfl
theorem dX1_judge_79 : decode cX1_judge 79 = .ok (.iload 7, 2) := dq_21 (kX1_judge_2 15 rfl) (kX1_judge_2 16 rfl) rfl
theorem dX1_judge_81 : decode cX1_judge 81 = .ok (.invokevirtual 127, 3) := dq_182 (kX1_judge_2 17 rfl) (kX1_judge_2 18 rfl) (kX1_judge_2 19 rfl) rfl
theorem dX1_judge_84 : decode cX1_judge 84 = .ok (.ifCond .ne 6, 3) := dq_154 (kX1_judge_2 20 rfl) (kX1_judge_2 21 rfl) (kX1_judge_2 22 rfl) (by decide)
theorem dX1_judge_87 : decode cX1_judge 87 = .ok (.goto 104, 3) := dq_167 (kX1_judge_2 23 rfl) (kX1_judge_2 24 rfl) (kX1_judge_2 25 rfl) (by decide)
theorem dX1_judge_90 : decode cX1_judge 90 = .ok (.iload_n 3, 1) := dq_29 (kX1_judge_2 26 rfl)
theorem dX1_judge_91 : decode cX1_judge 91 = .ok (.ifCond .eq 18, 3) := dq_153 (kX1_judge_2 27 rfl) (kX1_judge_2 28 rfl) (kX1_judge_2 29 rfl) (by decide)
theorem dX1_judge_94 : decode cX1_judge 94 = .ok (.aload_n 0, 1) := dq_42 (kX1_judge_2 30 rfl)
theorem dX1_judge_95 : decode cX1_judge 95 = .ok (.aload_n 1, 1) := dq_43 (kX1_judge_2 31 rfl)
theorem dX1_judge_96 : decode cX1_judge 96 = .ok (.getfield 130, 3) := dq_180 (kX1_judge_3 0 rfl) (kX1_judge_3 1 rfl) (kX1_judge_3 2 rfl) rfl
theorem dX1_judge_99 : decode cX1_judge 99 = .ok (.iload 5, 2) := dq_21 (kX1_judge_3 3 rfl) (kX1_judge_3 4 rfl) rfl
theorem dX1_judge_101 : decode cX1_judge 101 = .ok (.iload 7, 2) := dq_21 (kX1_judge_3 5 rfl) (kX1_judge_3 6 rfl) rfl
theorem dX1_judge_103 : decode cX1_judge 103 = .ok (.invokevirtual 135, 3) := dq_182 (kX1_judge_3 7 rfl) (kX1_judge_3 8 rfl) (kX1_judge_3 9 rfl) rfl
theorem dX1_judge_106 : decode cX1_judge 106 = .ok (.goto 4, 3) := dq_167 (kX1_judge_3 10 rfl) (kX1_judge_3 11 rfl) (kX1_judge_3 12 rfl) (by decide)
theorem dX1_judge_109 : decode cX1_judge 109 = .ok (.aconst_null, 1) := dq_1 (kX1_judge_3 13 rfl)
theorem dX1_judge_110 : decode cX1_judge 110 = .ok (.astore 8, 2) := dq_58 (kX1_judge_3 14 rfl) (kX1_judge_3 15 rfl) rfl
theorem dX1_judge_112 : decode cX1_judge 112 = .ok (.aload 8, 2) := dq_25 (kX1_judge_3 16 rfl) (kX1_judge_3 17 rfl) rfl
theorem dX1_judge_114 : decode cX1_judge 114 = .ok (.ifnonnull 14, 3) := dq_199 (kX1_judge_3 18 rfl) (kX1_judge_3 19 rfl) (kX1_judge_3 20 rfl) (by decide)
theorem dX1_judge_117 : decode cX1_judge 117 = .ok (.aload_n 0, 1) := dq_42 (kX1_judge_3 21 rfl)
theorem dX1_judge_118 : decode cX1_judge 118 = .ok (.aload 6, 2) := dq_25 (kX1_judge_3 22 rfl) (kX1_judge_3 23 rfl) rfl
theorem dX1_judge_120 : decode cX1_judge 120 = .ok (.iload 7, 2) := dq_21 (kX1_judge_3 24 rfl) (kX1_judge_3 25 rfl) rfl
theorem dX1_judge_122 : decode cX1_judge 122 = .ok (.invokevirtual 139, 3) := dq_182 (kX1_judge_3 26 rfl) (kX1_judge_3 27 rfl) (kX1_judge_3 28 rfl) rfl
theorem dX1_judge_125 : decode cX1_judge 125 = .ok (.goto 10, 3) := dq_167 (kX1_judge_3 29 rfl) (kX1_judge_3 30 rfl) (kX1_judge_3 31 rfl) (by decide)
theorem dX1_judge_128 : decode cX1_judge 128 = .ok (.aload_n 0, 1) := dq_42 (kX1_judge_4 0 rfl)
theorem dX1_judge_129 : decode cX1_judge 129 = .ok (.aload 8, 2) := dq_25 (kX1_judge_4 1 rfl) (kX1_judge_4 2 rfl) rfl
theorem dX1_judge_131 : decode cX1_judge 131 = .ok (.iconst 0, 1) := dq_3 (kX1_judge_4 3 rfl)
theorem dX1_judge_132 : decode cX1_judge 132 = .ok (.invokevirtual 139, 3) := dq_182 (kX1_judge_4 4 rfl) (kX1_judge_4 5 rfl) (kX1_judge_4 6 rfl) rfl
theorem dX1_judge_135 : decode cX1_judge 135 = .ok (.istore 9, 2) := dq_54 (kX1_judge_4 7 rfl) (kX1_judge_4 8 rfl) rfl
theorem dX1_judge_137 : decode cX1_judge 137 = .ok (.iload 9, 2) := dq_21 (kX1_judge_4 9 rfl) (kX1_judge_4 10 rfl) rfl
theorem dX1_judge_139 : decode cX1_judge 139 = .ok (.bipush (-2), 2) := dq_16 (kX1_judge_4 11 rfl) (kX1_judge_4 12 rfl) (by decide)
theorem dX1_judge_141 : decode cX1_judge 141 = .ok (.if_icmp .ne 8, 3) := dq_160 (kX1_judge_4 13 rfl) (kX1_judge_4 14 rfl) (kX1_judge_4 15 rfl) (by decide)
theorem dX1_judge_144 : decode cX1_judge 144 = .ok (.bipush 6, 2) := dq_16 (kX1_judge_4 16 rfl) (kX1_judge_4 17 rfl) (by decide)
theorem dX1_judge_146 : decode cX1_judge 146 = .ok (.goto 23, 3) := dq_167 (kX1_judge_4 18 rfl) (kX1_judge_4 19 rfl) (kX1_judge_4 20 rfl) (by decide)
theorem dX1_judge_149 : decode cX1_judge 149 = .ok (.iload 9, 2) := dq_21 (kX1_judge_4 21 rfl) (kX1_judge_4 22 rfl) rfl
theorem dX1_judge_151 : decode cX1_judge 151 = .ok (.ifCond .ne 7, 3) := dq_154 (kX1_judge_4 23 rfl) (kX1_judge_4 24 rfl) (kX1_judge_4 25 rfl) (by decide)
theorem dX1_judge_154 : decode cX1_judge 154 = .ok (.iconst 0, 1) := dq_3 (kX1_judge_4 26 rfl)
theorem dX1_judge_155 : decode cX1_judge 155 = .ok (.goto 14, 3) := dq_167 (kX1_judge_4 27 rfl) (kX1_judge_4 28 rfl) (kX1_judge_4 29 rfl) (by decide)
theorem dX1_judge_158 : decode cX1_judge 158 = .ok (.aload 6, 2) := dq_25 (kX1_judge_4 30 rfl) (kX1_judge_4 31 rfl) rfl
theorem dX1_judge_160 : decode cX1_judge 160 = .ok (.iload 7, 2) := dq_21 (kX1_judge_5 0 rfl) (kX1_judge_5 1 rfl) rfl
theorem dX1_judge_162 : decode cX1_judge 162 = .ok (.aload_n 1, 1) := dq_43 (kX1_judge_5 2 rfl)
theorem dX1_judge_163 : decode cX1_judge 163 = .ok (.iload_n 2, 1) := dq_28 (kX1_judge_5 3 rfl)
theorem dX1_judge_164 : decode cX1_judge 164 = .ok (.iload 4, 2) := dq_21 (kX1_judge_5 4 rfl) (kX1_judge_5 5 rfl) rfl
theorem dX1_judge_166 : decode cX1_judge 166 = .ok (.invokestatic 143, 3) := dq_184 (kX1_judge_5 6 rfl) (kX1_judge_5 7 rfl) (kX1_judge_5 8 rfl) rfl
theorem dX1_judge_169 : decode cX1_judge 169 = .ok (.istore 10, 2) := dq_54 (kX1_judge_5 9 rfl) (kX1_judge_5 10 rfl) rfl
theorem dX1_judge_171 : decode cX1_judge 171 = .ok (.iload 10, 2) := dq_21 (kX1_judge_5 11 rfl) (kX1_judge_5 12 rfl) rfl
theorem dX1_judge_173 : decode cX1_judge 173 = .ok (.ifCond .eq 18, 3) := dq_153 (kX1_judge_5 13 rfl) (kX1_judge_5 14 rfl) (kX1_judge_5 15 rfl) (by decide)
theorem dX1_judge_176 : decode cX1_judge 176 = .ok (.aload_n 0, 1) := dq_42 (kX1_judge_5 16 rfl)
theorem dX1_judge_177 : decode cX1_judge 177 = .ok (.iload 5, 2) := dq_21 (kX1_judge_5 17 rfl) (kX1_judge_5 18 rfl) rfl
theorem dX1_judge_179 : decode cX1_judge 179 = .ok (.putfield 55, 3) := dq_181 (kX1_judge_5 19 rfl) (kX1_judge_5 20 rfl) (kX1_judge_5 21 rfl) rfl
theorem dX1_judge_182 : decode cX1_judge 182 = .ok (.aload_n 0, 1) := dq_42 (kX1_judge_5 22 rfl)
theorem dX1_judge_183 : decode cX1_judge 183 = .ok (.iload 7, 2) := dq_21 (kX1_judge_5 23 rfl) (kX1_judge_5 24 rfl) rfl
theorem dX1_judge_185 : decode cX1_judge 185 = .ok (.putfield 58, 3) := dq_181 (kX1_judge_5 25 rfl) (kX1_judge_5 26 rfl) (kX1_judge_5 27 rfl) rfl
theorem dX1_judge_188 : decode cX1_judge 188 = .ok (.iload 10, 2) := dq_21 (kX1_judge_5 28 rfl) (kX1_judge_5 29 rfl) rfl
theorem dX1_judge_190 : decode cX1_judge 190 = .ok (.ireturn, 1) := dq_172 (kX1_judge_5 30 rfl)
theorem dX1_judge_191 : decode cX1_judge 191 = .ok (.iinc 7 1, 3) := dq_132 (kX1_judge_5 31 rfl) (kX1_judge_6 0 rfl) (kX1_judge_6 1 rfl) rfl (by decide)
theorem dX1_judge_194 : decode cX1_judge 194 = .ok (.goto (-141), 3) := dq_167 (kX1_judge_6 2 rfl) (kX1_judge_6 3 rfl) (kX1_judge_6 4 rfl) (by decide)
theorem dX1_judge_197 : decode cX1_judge 197 = .ok (.iinc 5 1, 3) := dq_132 (kX1_judge_6 5 rfl) (kX1_judge_6 6 rfl) (kX1_judge_6 7 rfl) rfl (by decide)
theorem dX1_judge_200 : decode cX1_judge 200 = .ok (.goto (-187), 3) := dq_167 (kX1_judge_6 8 rfl) (kX1_judge_6 9 rfl) (kX1_judge_6 10 rfl) (by decide)
theorem dX1_judge_203 : decode cX1_judge 203 = .ok (.iconst 0, 1) := dq_3 (kX1_judge_6 11 rfl)
theorem dX1_judge_204 : decode cX1_judge 204 = .ok (.ireturn, 1) := dq_172 (kX1_judge_6 12 rfl)

def bX1_readingOf_0 : List UInt8 := [42, 180, 0, 26, 180, 0, 105, 4, 100, 54, 4, 21, 4, 155, 0, 81, 42, 180, 0, 26, 21, 4, 3, 182, 0, 116, 27, 160, 0, 35, 42, 180]
theorem kX1_readingOf_0 (j : Nat) {b : UInt8} (hj : bX1_readingOf_0[j]? = some b) : AtB cX1_readingOf (0 + j) b := at_of32 (by decide +kernel) j hj
def bX1_readingOf_1 : List UInt8 := [0, 26, 21, 4, 4, 182, 0, 116, 28, 160, 0, 21, 42, 180, 0, 26, 21, 4, 5, 182, 0, 116, 29, 160, 0, 7, 4, 167, 0, 4, 3, 54]
theorem kX1_readingOf_1 (j : Nat) {b : UInt8} (hj : bX1_readingOf_1[j]? = some b) : AtB cX1_readingOf (32 + j) b := at_of32 (by decide +kernel) j hj
def bX1_readingOf_2 : List UInt8 := [5, 21, 5, 153, 0, 21, 21, 4, 42, 180, 0, 30, 190, 162, 0, 11, 42, 180, 0, 30, 21, 4, 50, 176, 132, 4, 255, 167, 255, 176, 1, 176]
theorem kX1_readingOf_2 (j : Nat) {b : UInt8} (hj : bX1_readingOf_2[j]? = some b) : AtB cX1_readingOf (64 + j) b := at_of32 (by decide +kernel) j hj
theorem dX1_readingOf_0 : decode cX1_readingOf 0 = .ok (.aload_n 0, 1) := dq_42 (kX1_readingOf_0 0 rfl)
theorem dX1_readingOf_1 : decode cX1_readingOf 1 = .ok (.getfield 26, 3) := dq_180 (kX1_readingOf_0 1 rfl) (kX1_readingOf_0 2 rfl) (kX1_readingOf_0 3 rfl) rfl
theorem dX1_readingOf_4 : decode cX1_readingOf 4 = .ok (.getfield 105, 3) := dq_180 (kX1_readingOf_0 4 rfl) (kX1_readingOf_0 5 rfl) (kX1_readingOf_0 6 rfl) rfl
theorem dX1_readingOf_7 : decode cX1_readingOf 7 = .ok (.iconst 1, 1) := dq_4 (kX1_readingOf_0 7 rfl)
theorem dX1_readingOf_8 : decode cX1_readingOf 8 = .ok (.isub, 1) := dq_100 (kX1_readingOf_0 8 rfl)
theorem dX1_readingOf_9 : decode cX1_readingOf 9 = .ok (.istore 4, 2) := dq_54 (kX1_readingOf_0 9 rfl) (kX1_readingOf_0 10 rfl) rfl
theorem dX1_readingOf_11 : decode cX1_readingOf 11 = .ok (.iload 4, 2) := dq_21 (kX1_readingOf_0 11 rfl) (kX1_readingOf_0 12 rfl) rfl
theorem dX1_readingOf_13 : decode cX1_readingOf 13 = .ok (.ifCond .lt 81, 3) := dq_155 (kX1_readingOf_0 13 rfl) (kX1_readingOf_0 14 rfl) (kX1_readingOf_0 15 rfl) (by decide)
theorem dX1_readingOf_16 : decode cX1_readingOf 16 = .ok (.aload_n 0, 1) := dq_42 (kX1_readingOf_0 16 rfl)
theorem dX1_readingOf_17 : decode cX1_readingOf 17 = .ok (.getfield 26, 3) := dq_180 (kX1_readingOf_0 17 rfl) (kX1_readingOf_0 18 rfl) (kX1_readingOf_0 19 rfl) rfl
theorem dX1_readingOf_20 : decode cX1_readingOf 20 = .ok (.iload 4, 2) := dq_21 (kX1_readingOf_0 20 rfl) (kX1_readingOf_0 21 rfl) rfl
theorem dX1_readingOf_22 : decode cX1_readingOf 22 = .ok (.iconst 0, 1) := dq_3 (kX1_readingOf_0 22 rfl)
theorem dX1_readingOf_23 : decode cX1_readingOf 23 = .ok (.invokevirtual 116, 3) := dq_182 (kX1_readingOf_0 23 rfl) (kX1_readingOf_0 24 rfl) (kX1_readingOf_0 25 rfl) rfl
theorem dX1_readingOf_26 : decode cX1_readingOf 26 = .ok (.iload_n 1, 1) := dq_27 (kX1_readingOf_0 26 rfl)
theorem dX1_readingOf_27 : decode cX1_readingOf 27 = .ok (.if_icmp .ne 35, 3) := dq_160 (kX1_readingOf_0 27 rfl) (kX1_readingOf_0 28 rfl) (kX1_readingOf_0 29 rfl) (by decide)
theorem dX1_readingOf_30 : decode cX1_readingOf 30 = .ok (.aload_n 0, 1) := dq_42 (kX1_readingOf_0 30 rfl)
theorem dX1_readingOf_31 : decode cX1_readingOf 31 = .ok (.getfield 26, 3) := dq_180 (kX1_readingOf_0 31 rfl) (kX1_readingOf_1 0 rfl) (kX1_readingOf_1 1 rfl) rfl
theorem dX1_readingOf_34 : decode cX1_readingOf 34 = .ok (.iload 4, 2) := dq_21 (kX1_readingOf_1 2 rfl) (kX1_readingOf_1 3 rfl) rfl
theorem dX1_readingOf_36 : decode cX1_readingOf 36 = .ok (.iconst 1, 1) := dq_4 (kX1_readingOf_1 4 rfl)
theorem dX1_readingOf_37 : decode cX1_readingOf 37 = .ok (.invokevirtual 116, 3) := dq_182 (kX1_readingOf_1 5 rfl) (kX1_readingOf_1 6 rfl) (kX1_readingOf_1 7 rfl) rfl
theorem dX1_readingOf_40 : decode cX1_readingOf 40 = .ok (.iload_n 2, 1) := dq_28 (kX1_readingOf_1 8 rfl)
theorem dX1_readingOf_41 : decode cX1_readingOf 41 = .ok (.if_icmp .ne 21, 3) := dq_160 (kX1_readingOf_1 9 rfl) (kX1_readingOf_1 10 rfl) (kX1_readingOf_1 11 rfl) (by decide)
theorem dX1_readingOf_44 : decode cX1_readingOf 44 = .ok (.aload_n 0, 1) := dq_42 (kX1_readingOf_1 12 rfl)
theorem dX1_readingOf_45 : decode cX1_readingOf 45 = .ok (.getfield 26, 3) := dq_180 (kX1_readingOf_1 13 rfl) (kX1_readingOf_1 14 rfl) (kX1_readingOf_1 15 rfl) rfl
theorem dX1_readingOf_48 : decode cX1_readingOf 48 = .ok (.iload 4, 2) := dq_21 (kX1_readingOf_1 16 rfl) (kX1_readingOf_1 17 rfl) rfl
theorem dX1_readingOf_50 : decode cX1_readingOf 50 = .ok (.iconst 2, 1) := dq_5 (kX1_readingOf_1 18 rfl)
theorem dX1_readingOf_51 : decode cX1_readingOf 51 = .ok (.invokevirtual 116, 3) := dq_182 (kX1_readingOf_1 19 rfl) (kX1_readingOf_1 20 rfl) (kX1_readingOf_1 21 rfl) rfl
theorem dX1_readingOf_54 : decode cX1_readingOf 54 = .ok (.iload_n 3, 1) := dq_29 (kX1_readingOf_1 22 rfl)
theorem dX1_readingOf_55 : decode cX1_readingOf 55 = .ok (.if_icmp .ne 7, 3) := dq_160 (kX1_readingOf_1 23 rfl) (kX1_readingOf_1 24 rfl) (kX1_readingOf_1 25 rfl) (by decide)
theorem dX1_readingOf_58 : decode cX1_readingOf 58 = .ok (.iconst 1, 1) := dq_4 (kX1_readingOf_1 26 rfl)
theorem dX1_readingOf_59 : decode cX1_readingOf 59 = .ok (.goto 4, 3) := dq_167 (kX1_readingOf_1 27 rfl) (kX1_readingOf_1 28 rfl) (kX1_readingOf_1 29 rfl) (by decide)
theorem dX1_readingOf_62 : decode cX1_readingOf 62 = .ok (.iconst 0, 1) := dq_3 (kX1_readingOf_1 30 rfl)
theorem dX1_readingOf_63 : decode cX1_readingOf 63 = .ok (.istore 5, 2) := dq_54 (kX1_readingOf_1 31 rfl) (kX1_readingOf_2 0 rfl) rfl
theorem dX1_readingOf_65 : decode cX1_readingOf 65 = .ok (.iload 5, 2) := dq_21 (kX1_readingOf_2 1 rfl) (kX1_readingOf_2 2 rfl) rfl
theorem dX1_readingOf_67 : decode cX1_readingOf 67 = .ok (.ifCond .eq 21, 3) := dq_153 (kX1_readingOf_2 3 rfl) (kX1_readingOf_2 4 rfl) (kX1_readingOf_2 5 rfl) (by decide)
theorem dX1_readingOf_70 : decode cX1_readingOf 70 = .ok (.iload 4, 2) := dq_21 (kX1_readingOf_2 6 rfl) (kX1_readingOf_2 7 rfl) rfl
theorem dX1_readingOf_72 : decode cX1_readingOf 72 = .ok (.aload_n 0, 1) := dq_42 (kX1_readingOf_2 8 rfl)
theorem dX1_readingOf_73 : decode cX1_readingOf 73 = .ok (.getfield 30, 3) := dq_180 (kX1_readingOf_2 9 rfl) (kX1_readingOf_2 10 rfl) (kX1_readingOf_2 11 rfl) rfl
theorem dX1_readingOf_76 : decode cX1_readingOf 76 = .ok (.arraylength, 1) := dq_190 (kX1_readingOf_2 12 rfl)
theorem dX1_readingOf_77 : decode cX1_readingOf 77 = .ok (.if_icmp .ge 11, 3) := dq_162 (kX1_readingOf_2 13 rfl) (kX1_readingOf_2 14 rfl) (kX1_readingOf_2 15 rfl) (by decide)
theorem dX1_readingOf_80 : decode cX1_readingOf 80 = .ok (.aload_n 0, 1) := dq_42 (kX1_readingOf_2 16 rfl)
theorem dX1_readingOf_81 : decode cX1_readingOf 81 = .ok (.getfield 30, 3) := dq_180 (kX1_readingOf_2 17 rfl) (kX1_readingOf_2 18 rfl) (kX1_readingOf_2 19 rfl) rfl
theorem dX1_readingOf_84 : decode cX1_readingOf 84 = .ok (.iload 4, 2) := dq_21 (kX1_readingOf_2 20 rfl) (kX1_readingOf_2 21 rfl) rfl
theorem dX1_readingOf_86 : decode cX1_readingOf 86 = .ok (.aaload, 1) := dq_50 (kX1_readingOf_2 22 rfl)
theorem dX1_readingOf_87 : decode cX1_readingOf 87 = .ok (.areturn, 1) := dq_176 (kX1_readingOf_2 23 rfl)
theorem dX1_readingOf_88 : decode cX1_readingOf 88 = .ok (.iinc 4 (-1), 3) := dq_132 (kX1_readingOf_2 24 rfl) (kX1_readingOf_2 25 rfl) (kX1_readingOf_2 26 rfl) rfl (by decide)
theorem dX1_readingOf_91 : decode cX1_readingOf 91 = .ok (.goto (-80), 3) := dq_167 (kX1_readingOf_2 27 rfl) (kX1_readingOf_2 28 rfl) (kX1_readingOf_2 29 rfl) (by decide)
theorem dX1_readingOf_94 : decode cX1_readingOf 94 = .ok (.aconst_null, 1) := dq_1 (kX1_readingOf_2 30 rfl)
theorem dX1_readingOf_95 : decode cX1_readingOf 95 = .ok (.areturn, 1) := dq_176 (kX1_readingOf_2 31 rfl)

def bX1_bar_0 : List UInt8 := [44, 180, 0, 147, 42, 180, 0, 102, 27, 4, 182, 0, 116, 100, 54, 5, 42, 27, 182, 0, 119, 171, 0, 0, 0, 0, 0, 117, 0, 0, 0, 5]
theorem kX1_bar_0 (j : Nat) {b : UInt8} (hj : bX1_bar_0[j]? = some b) : AtB cX1_bar (0 + j) b := at_of32 (by decide +kernel) j hj
def bX1_bar_1 : List UInt8 := [0, 0, 0, 99, 0, 0, 0, 106, 0, 0, 0, 102, 0, 0, 0, 51, 0, 0, 0, 108, 0, 0, 0, 53, 0, 0, 0, 110, 0, 0, 0, 70]
theorem kX1_bar_1 (j : Nat) {b : UInt8} (hj : bX1_bar_1[j]? = some b) : AtB cX1_bar (32 + j) b := at_of32 (by decide +kernel) j hj
def bX1_bar_2 : List UInt8 := [0, 0, 0, 115, 0, 0, 0, 88, 4, 172, 44, 180, 0, 150, 29, 184, 0, 153, 153, 0, 7, 3, 167, 0, 4, 5, 172, 44, 180, 0, 156, 21]
theorem kX1_bar_2 (j : Nat) {b : UInt8} (hj : bX1_bar_2[j]? = some b) : AtB cX1_bar (64 + j) b := at_of32 (by decide +kernel) j hj
def bX1_bar_3 : List UInt8 := [5, 184, 0, 153, 153, 0, 7, 3, 167, 0, 4, 6, 172, 44, 180, 0, 159, 21, 5, 184, 0, 153, 153, 0, 7, 3, 167, 0, 4, 7, 172, 21]
theorem kX1_bar_3 (j : Nat) {b : UInt8} (hj : bX1_bar_3[j]? = some b) : AtB cX1_bar (96 + j) b := at_of32 (by decide +kernel) j hj
def bX1_bar_4 : List UInt8 := [4, 153, 0, 7, 3, 167, 0, 4, 8, 172, 3, 172]
theorem kX1_bar_4 (j : Nat) {b : UInt8} (hj : bX1_bar_4[j]? = some b) : AtB cX1_bar (128 + j) b := at_of32 (by decide +kernel) j hj
theorem dX1_bar_0 : decode cX1_bar 0 = .ok (.aload_n 2, 1) := dq_44 (kX1_bar_0 0 rfl)
theorem dX1_bar_1 : decode cX1_bar 1 = .ok (.getfield 147, 3) := dq_180 (kX1_bar_0 1 rfl) (kX1_bar_0 2 rfl) (kX1_bar_0 3 rfl) rfl
theorem dX1_bar_4 : decode cX1_bar 4 = .ok (.aload_n 0, 1) := dq_42 (kX1_bar_0 4 rfl)
theorem dX1_bar_5 : decode cX1_bar 5 = .ok (.getfield 102, 3) := dq_180 (kX1_bar_0 5 rfl) (kX1_bar_0 6 rfl) (kX1_bar_0 7 rfl) rfl
theorem dX1_bar_8 : decode cX1_bar 8 = .ok (.iload_n 1, 1) := dq_27 (kX1_bar_0 8 rfl)
theorem dX1_bar_9 : decode cX1_bar 9 = .ok (.iconst 1, 1) := dq_4 (kX1_bar_0 9 rfl)
theorem dX1_bar_10 : decode cX1_bar 10 = .ok (.invokevirtual 116, 3) := dq_182 (kX1_bar_0 10 rfl) (kX1_bar_0 11 rfl) (kX1_bar_0 12 rfl) rfl
theorem dX1_bar_13 : decode cX1_bar 13 = .ok (.isub, 1) := dq_100 (kX1_bar_0 13 rfl)
theorem dX1_bar_14 : decode cX1_bar 14 = .ok (.istore 5, 2) := dq_54 (kX1_bar_0 14 rfl) (kX1_bar_0 15 rfl) rfl
theorem dX1_bar_16 : decode cX1_bar 16 = .ok (.aload_n 0, 1) := dq_42 (kX1_bar_0 16 rfl)
theorem dX1_bar_17 : decode cX1_bar 17 = .ok (.iload_n 1, 1) := dq_27 (kX1_bar_0 17 rfl)
theorem dX1_bar_18 : decode cX1_bar 18 = .ok (.invokevirtual 119, 3) := dq_182 (kX1_bar_0 18 rfl) (kX1_bar_0 19 rfl) (kX1_bar_0 20 rfl) rfl
theorem dX1_bar_72 : decode cX1_bar 72 = .ok (.iconst 1, 1) := dq_4 (kX1_bar_2 8 rfl)
theorem dX1_bar_73 : decode cX1_bar 73 = .ok (.ireturn, 1) := dq_172 (kX1_bar_2 9 rfl)
theorem dX1_bar_74 : decode cX1_bar 74 = .ok (.aload_n 2, 1) := dq_44 (kX1_bar_2 10 rfl)
theorem dX1_bar_75 : decode cX1_bar 75 = .ok (.getfield 150, 3) := dq_180 (kX1_bar_2 11 rfl) (kX1_bar_2 12 rfl) (kX1_bar_2 13 rfl) rfl
theorem dX1_bar_78 : decode cX1_bar 78 = .ok (.iload_n 3, 1) := dq_29 (kX1_bar_2 14 rfl)
theorem dX1_bar_79 : decode cX1_bar 79 = .ok (.invokestatic 153, 3) := dq_184 (kX1_bar_2 15 rfl) (kX1_bar_2 16 rfl) (kX1_bar_2 17 rfl) rfl
theorem dX1_bar_82 : decode cX1_bar 82 = .ok (.ifCond .eq 7, 3) := dq_153 (kX1_bar_2 18 rfl) (kX1_bar_2 19 rfl) (kX1_bar_2 20 rfl) (by decide)
theorem dX1_bar_85 : decode cX1_bar 85 = .ok (.iconst 0, 1) := dq_3 (kX1_bar_2 21 rfl)
theorem dX1_bar_86 : decode cX1_bar 86 = .ok (.goto 4, 3) := dq_167 (kX1_bar_2 22 rfl) (kX1_bar_2 23 rfl) (kX1_bar_2 24 rfl) (by decide)
theorem dX1_bar_89 : decode cX1_bar 89 = .ok (.iconst 2, 1) := dq_5 (kX1_bar_2 25 rfl)
theorem dX1_bar_90 : decode cX1_bar 90 = .ok (.ireturn, 1) := dq_172 (kX1_bar_2 26 rfl)
theorem dX1_bar_91 : decode cX1_bar 91 = .ok (.aload_n 2, 1) := dq_44 (kX1_bar_2 27 rfl)
theorem dX1_bar_92 : decode cX1_bar 92 = .ok (.getfield 156, 3) := dq_180 (kX1_bar_2 28 rfl) (kX1_bar_2 29 rfl) (kX1_bar_2 30 rfl) rfl
theorem dX1_bar_95 : decode cX1_bar 95 = .ok (.iload 5, 2) := dq_21 (kX1_bar_2 31 rfl) (kX1_bar_3 0 rfl) rfl
theorem dX1_bar_97 : decode cX1_bar 97 = .ok (.invokestatic 153, 3) := dq_184 (kX1_bar_3 1 rfl) (kX1_bar_3 2 rfl) (kX1_bar_3 3 rfl) rfl
theorem dX1_bar_100 : decode cX1_bar 100 = .ok (.ifCond .eq 7, 3) := dq_153 (kX1_bar_3 4 rfl) (kX1_bar_3 5 rfl) (kX1_bar_3 6 rfl) (by decide)
theorem dX1_bar_103 : decode cX1_bar 103 = .ok (.iconst 0, 1) := dq_3 (kX1_bar_3 7 rfl)
theorem dX1_bar_104 : decode cX1_bar 104 = .ok (.goto 4, 3) := dq_167 (kX1_bar_3 8 rfl) (kX1_bar_3 9 rfl) (kX1_bar_3 10 rfl) (by decide)
theorem dX1_bar_107 : decode cX1_bar 107 = .ok (.iconst 3, 1) := dq_6 (kX1_bar_3 11 rfl)
theorem dX1_bar_108 : decode cX1_bar 108 = .ok (.ireturn, 1) := dq_172 (kX1_bar_3 12 rfl)
theorem dX1_bar_109 : decode cX1_bar 109 = .ok (.aload_n 2, 1) := dq_44 (kX1_bar_3 13 rfl)
theorem dX1_bar_110 : decode cX1_bar 110 = .ok (.getfield 159, 3) := dq_180 (kX1_bar_3 14 rfl) (kX1_bar_3 15 rfl) (kX1_bar_3 16 rfl) rfl
theorem dX1_bar_113 : decode cX1_bar 113 = .ok (.iload 5, 2) := dq_21 (kX1_bar_3 17 rfl) (kX1_bar_3 18 rfl) rfl
theorem dX1_bar_115 : decode cX1_bar 115 = .ok (.invokestatic 153, 3) := dq_184 (kX1_bar_3 19 rfl) (kX1_bar_3 20 rfl) (kX1_bar_3 21 rfl) rfl
theorem dX1_bar_118 : decode cX1_bar 118 = .ok (.ifCond .eq 7, 3) := dq_153 (kX1_bar_3 22 rfl) (kX1_bar_3 23 rfl) (kX1_bar_3 24 rfl) (by decide)
theorem dX1_bar_121 : decode cX1_bar 121 = .ok (.iconst 0, 1) := dq_3 (kX1_bar_3 25 rfl)
theorem dX1_bar_122 : decode cX1_bar 122 = .ok (.goto 4, 3) := dq_167 (kX1_bar_3 26 rfl) (kX1_bar_3 27 rfl) (kX1_bar_3 28 rfl) (by decide)
theorem dX1_bar_125 : decode cX1_bar 125 = .ok (.iconst 4, 1) := dq_7 (kX1_bar_3 29 rfl)
theorem dX1_bar_126 : decode cX1_bar 126 = .ok (.ireturn, 1) := dq_172 (kX1_bar_3 30 rfl)
theorem dX1_bar_127 : decode cX1_bar 127 = .ok (.iload 4, 2) := dq_21 (kX1_bar_3 31 rfl) (kX1_bar_4 0 rfl) rfl
theorem dX1_bar_129 : decode cX1_bar 129 = .ok (.ifCond .eq 7, 3) := dq_153 (kX1_bar_4 1 rfl) (kX1_bar_4 2 rfl) (kX1_bar_4 3 rfl) (by decide)
theorem dX1_bar_132 : decode cX1_bar 132 = .ok (.iconst 0, 1) := dq_3 (kX1_bar_4 4 rfl)
theorem dX1_bar_133 : decode cX1_bar 133 = .ok (.goto 4, 3) := dq_167 (kX1_bar_4 5 rfl) (kX1_bar_4 6 rfl) (kX1_bar_4 7 rfl) (by decide)
theorem dX1_bar_136 : decode cX1_bar 136 = .ok (.iconst 5, 1) := dq_8 (kX1_bar_4 8 rfl)
theorem dX1_bar_137 : decode cX1_bar 137 = .ok (.ireturn, 1) := dq_172 (kX1_bar_4 9 rfl)
theorem dX1_bar_138 : decode cX1_bar 138 = .ok (.iconst 0, 1) := dq_3 (kX1_bar_4 10 rfl)
theorem dX1_bar_139 : decode cX1_bar 139 = .ok (.ireturn, 1) := dq_172 (kX1_bar_4 11 rfl)
def LX1_bar : List (Nat × Instr × Nat) := [(21, .lookupswitch 117 #[(99, 106), (102, 51), (108, 53), (110, 70), (115, 88)], 51)]
theorem kkX1_bar : chkB cX1_bar LX1_bar = true := by decide +kernel
theorem dX1_bar_21 : decode cX1_bar 21 = .ok (.lookupswitch 117 #[(99, 106), (102, 51), (108, 53), (110, 70), (115, 88)], 51) := getB' kkX1_bar 0 rfl

def bX1_wasTold_0 : List UInt8 := [26, 2, 159, 0, 12, 26, 27, 163, 0, 7, 4, 167, 0, 4, 3, 172]
theorem kX1_wasTold_0 (j : Nat) {b : UInt8} (hj : bX1_wasTold_0[j]? = some b) : AtB cX1_wasTold (0 + j) b := at_of32 (by decide +kernel) j hj
theorem dX1_wasTold_0 : decode cX1_wasTold 0 = .ok (.iload_n 0, 1) := dq_26 (kX1_wasTold_0 0 rfl)
theorem dX1_wasTold_1 : decode cX1_wasTold 1 = .ok (.iconst (-1), 1) := dq_2 (kX1_wasTold_0 1 rfl)
theorem dX1_wasTold_2 : decode cX1_wasTold 2 = .ok (.if_icmp .eq 12, 3) := dq_159 (kX1_wasTold_0 2 rfl) (kX1_wasTold_0 3 rfl) (kX1_wasTold_0 4 rfl) (by decide)
theorem dX1_wasTold_5 : decode cX1_wasTold 5 = .ok (.iload_n 0, 1) := dq_26 (kX1_wasTold_0 5 rfl)
theorem dX1_wasTold_6 : decode cX1_wasTold 6 = .ok (.iload_n 1, 1) := dq_27 (kX1_wasTold_0 6 rfl)
theorem dX1_wasTold_7 : decode cX1_wasTold 7 = .ok (.if_icmp .gt 7, 3) := dq_163 (kX1_wasTold_0 7 rfl) (kX1_wasTold_0 8 rfl) (kX1_wasTold_0 9 rfl) (by decide)
theorem dX1_wasTold_10 : decode cX1_wasTold 10 = .ok (.iconst 1, 1) := dq_4 (kX1_wasTold_0 10 rfl)
theorem dX1_wasTold_11 : decode cX1_wasTold 11 = .ok (.goto 4, 3) := dq_167 (kX1_wasTold_0 11 rfl) (kX1_wasTold_0 12 rfl) (kX1_wasTold_0 13 rfl) (by decide)
theorem dX1_wasTold_14 : decode cX1_wasTold 14 = .ok (.iconst 0, 1) := dq_3 (kX1_wasTold_0 14 rfl)
theorem dX1_wasTold_15 : decode cX1_wasTold 15 = .ok (.ireturn, 1) := dq_172 (kX1_wasTold_0 15 rfl)

def bX1_holds_0 : List UInt8 := [43, 180, 0, 102, 28, 7, 182, 0, 116, 62, 43, 180, 0, 102, 28, 8, 182, 0, 116, 54, 4, 42, 3, 181, 0, 52, 3, 54, 5, 21, 5, 17]
theorem kX1_holds_0 (j : Nat) {b : UInt8} (hj : bX1_holds_0[j]? = some b) : AtB cX1_holds (0 + j) b := at_of32 (by decide +kernel) j hj
def bX1_holds_1 : List UInt8 := [0, 200, 162, 0, 191, 29, 21, 4, 162, 0, 185, 43, 180, 0, 162, 29, 184, 0, 88, 16, 31, 126, 54, 6, 43, 180, 0, 162, 29, 184, 0, 88]
theorem kX1_holds_1 (j : Nat) {b : UInt8} (hj : bX1_holds_1[j]? = some b) : AtB cX1_holds (32 + j) b := at_of32 (by decide +kernel) j hj
def bX1_holds_2 : List UInt8 := [8, 122, 54, 7, 132, 3, 1, 21, 6, 154, 0, 12, 42, 21, 7, 182, 0, 165, 167, 0, 137, 21, 6, 4, 160, 0, 19, 42, 42, 180, 0, 46]
theorem kX1_holds_2 (j : Nat) {b : UInt8} (hj : bX1_holds_2[j]? = some b) : AtB cX1_holds (64 + j) b := at_of32 (by decide +kernel) j hj
def bX1_holds_3 : List UInt8 := [21, 7, 184, 0, 88, 182, 0, 165, 167, 0, 115, 21, 6, 5, 160, 0, 16, 42, 4, 42, 182, 0, 169, 100, 182, 0, 165, 167, 0, 96, 21, 6]
theorem kX1_holds_3 (j : Nat) {b : UInt8} (hj : bX1_holds_3[j]? = some b) : AtB cX1_holds (96 + j) b := at_of32 (by decide +kernel) j hj
def bX1_holds_4 : List UInt8 := [6, 159, 0, 9, 21, 6, 7, 160, 0, 37, 42, 182, 0, 169, 54, 8, 21, 8, 21, 6, 6, 160, 0, 7, 4, 167, 0, 4, 3, 160, 0, 12]
theorem kX1_holds_4 (j : Nat) {b : UInt8} (hj : bX1_holds_4[j]? = some b) : AtB cX1_holds (128 + j) b := at_of32 (by decide +kernel) j hj
def bX1_holds_5 : List UInt8 := [42, 21, 8, 182, 0, 165, 21, 7, 62, 167, 0, 50, 42, 182, 0, 169, 54, 8, 42, 182, 0, 169, 54, 9, 21, 8, 154, 0, 20, 21, 6, 16]
theorem kX1_holds_5 (j : Nat) {b : UInt8} (hj : bX1_holds_5[j]? = some b) : AtB cX1_holds (160 + j) b := at_of32 (by decide +kernel) j hj
def bX1_holds_6 : List UInt8 := [8, 159, 0, 10, 21, 6, 16, 9, 160, 0, 6, 16, 254, 172, 42, 21, 6, 21, 9, 21, 8, 184, 0, 173, 182, 0, 165, 132, 5, 1, 167, 255]
theorem kX1_holds_6 (j : Nat) {b : UInt8} (hj : bX1_holds_6[j]? = some b) : AtB cX1_holds (192 + j) b := at_of32 (by decide +kernel) j hj
def bX1_holds_7 : List UInt8 := [63, 42, 182, 0, 169, 172]
theorem kX1_holds_7 (j : Nat) {b : UInt8} (hj : bX1_holds_7[j]? = some b) : AtB cX1_holds (224 + j) b := at_of32 (by decide +kernel) j hj
theorem dX1_holds_0 : decode cX1_holds 0 = .ok (.aload_n 1, 1) := dq_43 (kX1_holds_0 0 rfl)
theorem dX1_holds_1 : decode cX1_holds 1 = .ok (.getfield 102, 3) := dq_180 (kX1_holds_0 1 rfl) (kX1_holds_0 2 rfl) (kX1_holds_0 3 rfl) rfl
theorem dX1_holds_4 : decode cX1_holds 4 = .ok (.iload_n 2, 1) := dq_28 (kX1_holds_0 4 rfl)
theorem dX1_holds_5 : decode cX1_holds 5 = .ok (.iconst 4, 1) := dq_7 (kX1_holds_0 5 rfl)
theorem dX1_holds_6 : decode cX1_holds 6 = .ok (.invokevirtual 116, 3) := dq_182 (kX1_holds_0 6 rfl) (kX1_holds_0 7 rfl) (kX1_holds_0 8 rfl) rfl
theorem dX1_holds_9 : decode cX1_holds 9 = .ok (.istore_n 3, 1) := dq_62 (kX1_holds_0 9 rfl)
theorem dX1_holds_10 : decode cX1_holds 10 = .ok (.aload_n 1, 1) := dq_43 (kX1_holds_0 10 rfl)
theorem dX1_holds_11 : decode cX1_holds 11 = .ok (.getfield 102, 3) := dq_180 (kX1_holds_0 11 rfl) (kX1_holds_0 12 rfl) (kX1_holds_0 13 rfl) rfl
theorem dX1_holds_14 : decode cX1_holds 14 = .ok (.iload_n 2, 1) := dq_28 (kX1_holds_0 14 rfl)
theorem dX1_holds_15 : decode cX1_holds 15 = .ok (.iconst 5, 1) := dq_8 (kX1_holds_0 15 rfl)
theorem dX1_holds_16 : decode cX1_holds 16 = .ok (.invokevirtual 116, 3) := dq_182 (kX1_holds_0 16 rfl) (kX1_holds_0 17 rfl) (kX1_holds_0 18 rfl) rfl
theorem dX1_holds_19 : decode cX1_holds 19 = .ok (.istore 4, 2) := dq_54 (kX1_holds_0 19 rfl) (kX1_holds_0 20 rfl) rfl
theorem dX1_holds_21 : decode cX1_holds 21 = .ok (.aload_n 0, 1) := dq_42 (kX1_holds_0 21 rfl)
theorem dX1_holds_22 : decode cX1_holds 22 = .ok (.iconst 0, 1) := dq_3 (kX1_holds_0 22 rfl)
theorem dX1_holds_23 : decode cX1_holds 23 = .ok (.putfield 52, 3) := dq_181 (kX1_holds_0 23 rfl) (kX1_holds_0 24 rfl) (kX1_holds_0 25 rfl) rfl
theorem dX1_holds_26 : decode cX1_holds 26 = .ok (.iconst 0, 1) := dq_3 (kX1_holds_0 26 rfl)
theorem dX1_holds_27 : decode cX1_holds 27 = .ok (.istore 5, 2) := dq_54 (kX1_holds_0 27 rfl) (kX1_holds_0 28 rfl) rfl
theorem dX1_holds_29 : decode cX1_holds 29 = .ok (.iload 5, 2) := dq_21 (kX1_holds_0 29 rfl) (kX1_holds_0 30 rfl) rfl
theorem dX1_holds_31 : decode cX1_holds 31 = .ok (.sipush 200, 3) := dq_17 (kX1_holds_0 31 rfl) (kX1_holds_1 0 rfl) (kX1_holds_1 1 rfl) (by decide)
theorem dX1_holds_34 : decode cX1_holds 34 = .ok (.if_icmp .ge 191, 3) := dq_162 (kX1_holds_1 2 rfl) (kX1_holds_1 3 rfl) (kX1_holds_1 4 rfl) (by decide)
theorem dX1_holds_37 : decode cX1_holds 37 = .ok (.iload_n 3, 1) := dq_29 (kX1_holds_1 5 rfl)
theorem dX1_holds_38 : decode cX1_holds 38 = .ok (.iload 4, 2) := dq_21 (kX1_holds_1 6 rfl) (kX1_holds_1 7 rfl) rfl
theorem dX1_holds_40 : decode cX1_holds 40 = .ok (.if_icmp .ge 185, 3) := dq_162 (kX1_holds_1 8 rfl) (kX1_holds_1 9 rfl) (kX1_holds_1 10 rfl) (by decide)
theorem dX1_holds_43 : decode cX1_holds 43 = .ok (.aload_n 1, 1) := dq_43 (kX1_holds_1 11 rfl)
theorem dX1_holds_44 : decode cX1_holds 44 = .ok (.getfield 162, 3) := dq_180 (kX1_holds_1 12 rfl) (kX1_holds_1 13 rfl) (kX1_holds_1 14 rfl) rfl
theorem dX1_holds_47 : decode cX1_holds 47 = .ok (.iload_n 3, 1) := dq_29 (kX1_holds_1 15 rfl)
theorem dX1_holds_48 : decode cX1_holds 48 = .ok (.invokestatic 88, 3) := dq_184 (kX1_holds_1 16 rfl) (kX1_holds_1 17 rfl) (kX1_holds_1 18 rfl) rfl
theorem dX1_holds_51 : decode cX1_holds 51 = .ok (.bipush 31, 2) := dq_16 (kX1_holds_1 19 rfl) (kX1_holds_1 20 rfl) (by decide)
theorem dX1_holds_53 : decode cX1_holds 53 = .ok (.iand, 1) := dq_126 (kX1_holds_1 21 rfl)
theorem dX1_holds_54 : decode cX1_holds 54 = .ok (.istore 6, 2) := dq_54 (kX1_holds_1 22 rfl) (kX1_holds_1 23 rfl) rfl
theorem dX1_holds_56 : decode cX1_holds 56 = .ok (.aload_n 1, 1) := dq_43 (kX1_holds_1 24 rfl)
theorem dX1_holds_57 : decode cX1_holds 57 = .ok (.getfield 162, 3) := dq_180 (kX1_holds_1 25 rfl) (kX1_holds_1 26 rfl) (kX1_holds_1 27 rfl) rfl
theorem dX1_holds_60 : decode cX1_holds 60 = .ok (.iload_n 3, 1) := dq_29 (kX1_holds_1 28 rfl)
theorem dX1_holds_61 : decode cX1_holds 61 = .ok (.invokestatic 88, 3) := dq_184 (kX1_holds_1 29 rfl) (kX1_holds_1 30 rfl) (kX1_holds_1 31 rfl) rfl
theorem dX1_holds_64 : decode cX1_holds 64 = .ok (.iconst 5, 1) := dq_8 (kX1_holds_2 0 rfl)
theorem dX1_holds_65 : decode cX1_holds 65 = .ok (.ishr, 1) := dq_122 (kX1_holds_2 1 rfl)
theorem dX1_holds_66 : decode cX1_holds 66 = .ok (.istore 7, 2) := dq_54 (kX1_holds_2 2 rfl) (kX1_holds_2 3 rfl) rfl
theorem dX1_holds_68 : decode cX1_holds 68 = .ok (.iinc 3 1, 3) := dq_132 (kX1_holds_2 4 rfl) (kX1_holds_2 5 rfl) (kX1_holds_2 6 rfl) rfl (by decide)
theorem dX1_holds_71 : decode cX1_holds 71 = .ok (.iload 6, 2) := dq_21 (kX1_holds_2 7 rfl) (kX1_holds_2 8 rfl) rfl
theorem dX1_holds_73 : decode cX1_holds 73 = .ok (.ifCond .ne 12, 3) := dq_154 (kX1_holds_2 9 rfl) (kX1_holds_2 10 rfl) (kX1_holds_2 11 rfl) (by decide)
theorem dX1_holds_76 : decode cX1_holds 76 = .ok (.aload_n 0, 1) := dq_42 (kX1_holds_2 12 rfl)
theorem dX1_holds_77 : decode cX1_holds 77 = .ok (.iload 7, 2) := dq_21 (kX1_holds_2 13 rfl) (kX1_holds_2 14 rfl) rfl
theorem dX1_holds_79 : decode cX1_holds 79 = .ok (.invokevirtual 165, 3) := dq_182 (kX1_holds_2 15 rfl) (kX1_holds_2 16 rfl) (kX1_holds_2 17 rfl) rfl
theorem dX1_holds_82 : decode cX1_holds 82 = .ok (.goto 137, 3) := dq_167 (kX1_holds_2 18 rfl) (kX1_holds_2 19 rfl) (kX1_holds_2 20 rfl) (by decide)
theorem dX1_holds_85 : decode cX1_holds 85 = .ok (.iload 6, 2) := dq_21 (kX1_holds_2 21 rfl) (kX1_holds_2 22 rfl) rfl
theorem dX1_holds_87 : decode cX1_holds 87 = .ok (.iconst 1, 1) := dq_4 (kX1_holds_2 23 rfl)
theorem dX1_holds_88 : decode cX1_holds 88 = .ok (.if_icmp .ne 19, 3) := dq_160 (kX1_holds_2 24 rfl) (kX1_holds_2 25 rfl) (kX1_holds_2 26 rfl) (by decide)
theorem dX1_holds_91 : decode cX1_holds 91 = .ok (.aload_n 0, 1) := dq_42 (kX1_holds_2 27 rfl)
theorem dX1_holds_92 : decode cX1_holds 92 = .ok (.aload_n 0, 1) := dq_42 (kX1_holds_2 28 rfl)
theorem dX1_holds_93 : decode cX1_holds 93 = .ok (.getfield 46, 3) := dq_180 (kX1_holds_2 29 rfl) (kX1_holds_2 30 rfl) (kX1_holds_2 31 rfl) rfl
theorem dX1_holds_96 : decode cX1_holds 96 = .ok (.iload 7, 2) := dq_21 (kX1_holds_3 0 rfl) (kX1_holds_3 1 rfl) rfl
theorem dX1_holds_98 : decode cX1_holds 98 = .ok (.invokestatic 88, 3) := dq_184 (kX1_holds_3 2 rfl) (kX1_holds_3 3 rfl) (kX1_holds_3 4 rfl) rfl
theorem dX1_holds_101 : decode cX1_holds 101 = .ok (.invokevirtual 165, 3) := dq_182 (kX1_holds_3 5 rfl) (kX1_holds_3 6 rfl) (kX1_holds_3 7 rfl) rfl
theorem dX1_holds_104 : decode cX1_holds 104 = .ok (.goto 115, 3) := dq_167 (kX1_holds_3 8 rfl) (kX1_holds_3 9 rfl) (kX1_holds_3 10 rfl) (by decide)
theorem dX1_holds_107 : decode cX1_holds 107 = .ok (.iload 6, 2) := dq_21 (kX1_holds_3 11 rfl) (kX1_holds_3 12 rfl) rfl
theorem dX1_holds_109 : decode cX1_holds 109 = .ok (.iconst 2, 1) := dq_5 (kX1_holds_3 13 rfl)
theorem dX1_holds_110 : decode cX1_holds 110 = .ok (.if_icmp .ne 16, 3) := dq_160 (kX1_holds_3 14 rfl) (kX1_holds_3 15 rfl) (kX1_holds_3 16 rfl) (by decide)
theorem dX1_holds_113 : decode cX1_holds 113 = .ok (.aload_n 0, 1) := dq_42 (kX1_holds_3 17 rfl)
theorem dX1_holds_114 : decode cX1_holds 114 = .ok (.iconst 1, 1) := dq_4 (kX1_holds_3 18 rfl)
theorem dX1_holds_115 : decode cX1_holds 115 = .ok (.aload_n 0, 1) := dq_42 (kX1_holds_3 19 rfl)
theorem dX1_holds_116 : decode cX1_holds 116 = .ok (.invokevirtual 169, 3) := dq_182 (kX1_holds_3 20 rfl) (kX1_holds_3 21 rfl) (kX1_holds_3 22 rfl) rfl
theorem dX1_holds_119 : decode cX1_holds 119 = .ok (.isub, 1) := dq_100 (kX1_holds_3 23 rfl)
theorem dX1_holds_120 : decode cX1_holds 120 = .ok (.invokevirtual 165, 3) := dq_182 (kX1_holds_3 24 rfl) (kX1_holds_3 25 rfl) (kX1_holds_3 26 rfl) rfl
theorem dX1_holds_123 : decode cX1_holds 123 = .ok (.goto 96, 3) := dq_167 (kX1_holds_3 27 rfl) (kX1_holds_3 28 rfl) (kX1_holds_3 29 rfl) (by decide)
theorem dX1_holds_126 : decode cX1_holds 126 = .ok (.iload 6, 2) := dq_21 (kX1_holds_3 30 rfl) (kX1_holds_3 31 rfl) rfl
theorem dX1_holds_128 : decode cX1_holds 128 = .ok (.iconst 3, 1) := dq_6 (kX1_holds_4 0 rfl)
theorem dX1_holds_129 : decode cX1_holds 129 = .ok (.if_icmp .eq 9, 3) := dq_159 (kX1_holds_4 1 rfl) (kX1_holds_4 2 rfl) (kX1_holds_4 3 rfl) (by decide)
theorem dX1_holds_132 : decode cX1_holds 132 = .ok (.iload 6, 2) := dq_21 (kX1_holds_4 4 rfl) (kX1_holds_4 5 rfl) rfl
theorem dX1_holds_134 : decode cX1_holds 134 = .ok (.iconst 4, 1) := dq_7 (kX1_holds_4 6 rfl)
theorem dX1_holds_135 : decode cX1_holds 135 = .ok (.if_icmp .ne 37, 3) := dq_160 (kX1_holds_4 7 rfl) (kX1_holds_4 8 rfl) (kX1_holds_4 9 rfl) (by decide)
theorem dX1_holds_138 : decode cX1_holds 138 = .ok (.aload_n 0, 1) := dq_42 (kX1_holds_4 10 rfl)
theorem dX1_holds_139 : decode cX1_holds 139 = .ok (.invokevirtual 169, 3) := dq_182 (kX1_holds_4 11 rfl) (kX1_holds_4 12 rfl) (kX1_holds_4 13 rfl) rfl
theorem dX1_holds_142 : decode cX1_holds 142 = .ok (.istore 8, 2) := dq_54 (kX1_holds_4 14 rfl) (kX1_holds_4 15 rfl) rfl
theorem dX1_holds_144 : decode cX1_holds 144 = .ok (.iload 8, 2) := dq_21 (kX1_holds_4 16 rfl) (kX1_holds_4 17 rfl) rfl
theorem dX1_holds_146 : decode cX1_holds 146 = .ok (.iload 6, 2) := dq_21 (kX1_holds_4 18 rfl) (kX1_holds_4 19 rfl) rfl
theorem dX1_holds_148 : decode cX1_holds 148 = .ok (.iconst 3, 1) := dq_6 (kX1_holds_4 20 rfl)
theorem dX1_holds_149 : decode cX1_holds 149 = .ok (.if_icmp .ne 7, 3) := dq_160 (kX1_holds_4 21 rfl) (kX1_holds_4 22 rfl) (kX1_holds_4 23 rfl) (by decide)
theorem dX1_holds_152 : decode cX1_holds 152 = .ok (.iconst 1, 1) := dq_4 (kX1_holds_4 24 rfl)
theorem dX1_holds_153 : decode cX1_holds 153 = .ok (.goto 4, 3) := dq_167 (kX1_holds_4 25 rfl) (kX1_holds_4 26 rfl) (kX1_holds_4 27 rfl) (by decide)
theorem dX1_holds_156 : decode cX1_holds 156 = .ok (.iconst 0, 1) := dq_3 (kX1_holds_4 28 rfl)
theorem dX1_holds_157 : decode cX1_holds 157 = .ok (.if_icmp .ne 12, 3) := dq_160 (kX1_holds_4 29 rfl) (kX1_holds_4 30 rfl) (kX1_holds_4 31 rfl) (by decide)
theorem dX1_holds_160 : decode cX1_holds 160 = .ok (.aload_n 0, 1) := dq_42 (kX1_holds_5 0 rfl)
theorem dX1_holds_161 : decode cX1_holds 161 = .ok (.iload 8, 2) := dq_21 (kX1_holds_5 1 rfl) (kX1_holds_5 2 rfl) rfl
theorem dX1_holds_163 : decode cX1_holds 163 = .ok (.invokevirtual 165, 3) := dq_182 (kX1_holds_5 3 rfl) (kX1_holds_5 4 rfl) (kX1_holds_5 5 rfl) rfl
theorem dX1_holds_166 : decode cX1_holds 166 = .ok (.iload 7, 2) := dq_21 (kX1_holds_5 6 rfl) (kX1_holds_5 7 rfl) rfl
theorem dX1_holds_168 : decode cX1_holds 168 = .ok (.istore_n 3, 1) := dq_62 (kX1_holds_5 8 rfl)
theorem dX1_holds_169 : decode cX1_holds 169 = .ok (.goto 50, 3) := dq_167 (kX1_holds_5 9 rfl) (kX1_holds_5 10 rfl) (kX1_holds_5 11 rfl) (by decide)
theorem dX1_holds_172 : decode cX1_holds 172 = .ok (.aload_n 0, 1) := dq_42 (kX1_holds_5 12 rfl)
theorem dX1_holds_173 : decode cX1_holds 173 = .ok (.invokevirtual 169, 3) := dq_182 (kX1_holds_5 13 rfl) (kX1_holds_5 14 rfl) (kX1_holds_5 15 rfl) rfl
theorem dX1_holds_176 : decode cX1_holds 176 = .ok (.istore 8, 2) := dq_54 (kX1_holds_5 16 rfl) (kX1_holds_5 17 rfl) rfl
theorem dX1_holds_178 : decode cX1_holds 178 = .ok (.aload_n 0, 1) := dq_42 (kX1_holds_5 18 rfl)
theorem dX1_holds_179 : decode cX1_holds 179 = .ok (.invokevirtual 169, 3) := dq_182 (kX1_holds_5 19 rfl) (kX1_holds_5 20 rfl) (kX1_holds_5 21 rfl) rfl
theorem dX1_holds_182 : decode cX1_holds 182 = .ok (.istore 9, 2) := dq_54 (kX1_holds_5 22 rfl) (kX1_holds_5 23 rfl) rfl
theorem dX1_holds_184 : decode cX1_holds 184 = .ok (.iload 8, 2) := dq_21 (kX1_holds_5 24 rfl) (kX1_holds_5 25 rfl) rfl
theorem dX1_holds_186 : decode cX1_holds 186 = .ok (.ifCond .ne 20, 3) := dq_154 (kX1_holds_5 26 rfl) (kX1_holds_5 27 rfl) (kX1_holds_5 28 rfl) (by decide)
theorem dX1_holds_189 : decode cX1_holds 189 = .ok (.iload 6, 2) := dq_21 (kX1_holds_5 29 rfl) (kX1_holds_5 30 rfl) rfl
theorem dX1_holds_191 : decode cX1_holds 191 = .ok (.bipush 8, 2) := dq_16 (kX1_holds_5 31 rfl) (kX1_holds_6 0 rfl) (by decide)
theorem dX1_holds_193 : decode cX1_holds 193 = .ok (.if_icmp .eq 10, 3) := dq_159 (kX1_holds_6 1 rfl) (kX1_holds_6 2 rfl) (kX1_holds_6 3 rfl) (by decide)
theorem dX1_holds_196 : decode cX1_holds 196 = .ok (.iload 6, 2) := dq_21 (kX1_holds_6 4 rfl) (kX1_holds_6 5 rfl) rfl
theorem dX1_holds_198 : decode cX1_holds 198 = .ok (.bipush 9, 2) := dq_16 (kX1_holds_6 6 rfl) (kX1_holds_6 7 rfl) (by decide)
theorem dX1_holds_200 : decode cX1_holds 200 = .ok (.if_icmp .ne 6, 3) := dq_160 (kX1_holds_6 8 rfl) (kX1_holds_6 9 rfl) (kX1_holds_6 10 rfl) (by decide)
theorem dX1_holds_203 : decode cX1_holds 203 = .ok (.bipush (-2), 2) := dq_16 (kX1_holds_6 11 rfl) (kX1_holds_6 12 rfl) (by decide)
theorem dX1_holds_205 : decode cX1_holds 205 = .ok (.ireturn, 1) := dq_172 (kX1_holds_6 13 rfl)
theorem dX1_holds_206 : decode cX1_holds 206 = .ok (.aload_n 0, 1) := dq_42 (kX1_holds_6 14 rfl)
theorem dX1_holds_207 : decode cX1_holds 207 = .ok (.iload 6, 2) := dq_21 (kX1_holds_6 15 rfl) (kX1_holds_6 16 rfl) rfl
theorem dX1_holds_209 : decode cX1_holds 209 = .ok (.iload 9, 2) := dq_21 (kX1_holds_6 17 rfl) (kX1_holds_6 18 rfl) rfl
theorem dX1_holds_211 : decode cX1_holds 211 = .ok (.iload 8, 2) := dq_21 (kX1_holds_6 19 rfl) (kX1_holds_6 20 rfl) rfl
theorem dX1_holds_213 : decode cX1_holds 213 = .ok (.invokestatic 173, 3) := dq_184 (kX1_holds_6 21 rfl) (kX1_holds_6 22 rfl) (kX1_holds_6 23 rfl) rfl
theorem dX1_holds_216 : decode cX1_holds 216 = .ok (.invokevirtual 165, 3) := dq_182 (kX1_holds_6 24 rfl) (kX1_holds_6 25 rfl) (kX1_holds_6 26 rfl) rfl
theorem dX1_holds_219 : decode cX1_holds 219 = .ok (.iinc 5 1, 3) := dq_132 (kX1_holds_6 27 rfl) (kX1_holds_6 28 rfl) (kX1_holds_6 29 rfl) rfl (by decide)
theorem dX1_holds_222 : decode cX1_holds 222 = .ok (.goto (-193), 3) := dq_167 (kX1_holds_6 30 rfl) (kX1_holds_6 31 rfl) (kX1_holds_7 0 rfl) (by decide)
theorem dX1_holds_225 : decode cX1_holds 225 = .ok (.aload_n 0, 1) := dq_42 (kX1_holds_7 1 rfl)
theorem dX1_holds_226 : decode cX1_holds 226 = .ok (.invokevirtual 169, 3) := dq_182 (kX1_holds_7 2 rfl) (kX1_holds_7 3 rfl) (kX1_holds_7 4 rfl) rfl
theorem dX1_holds_229 : decode cX1_holds 229 = .ok (.ireturn, 1) := dq_172 (kX1_holds_7 5 rfl)

def bX1_reckon_0 : List UInt8 := [26, 170, 0, 0, 0, 0, 0, 101, 0, 0, 0, 5, 0, 0, 0, 11, 0, 0, 0, 43, 0, 0, 0, 47, 0, 0, 0, 51, 0, 0, 0, 55]
theorem kX1_reckon_0 (j : Nat) {b : UInt8} (hj : bX1_reckon_0[j]? = some b) : AtB cX1_reckon (0 + j) b := at_of32 (by decide +kernel) j hj
def bX1_reckon_1 : List UInt8 := [0, 0, 0, 67, 0, 0, 0, 79, 0, 0, 0, 90, 27, 28, 96, 172, 27, 28, 100, 172, 27, 28, 104, 172, 28, 154, 0, 7, 3, 167, 0, 6]
theorem kX1_reckon_1 (j : Nat) {b : UInt8} (hj : bX1_reckon_1[j]? = some b) : AtB cX1_reckon (32 + j) b := at_of32 (by decide +kernel) j hj
def bX1_reckon_2 : List UInt8 := [27, 28, 108, 172, 28, 154, 0, 7, 3, 167, 0, 6, 27, 28, 112, 172, 27, 28, 162, 0, 7, 4, 167, 0, 4, 3, 172, 27, 28, 164, 0, 7]
theorem kX1_reckon_2 (j : Nat) {b : UInt8} (hj : bX1_reckon_2[j]? = some b) : AtB cX1_reckon (64 + j) b := at_of32 (by decide +kernel) j hj
def bX1_reckon_3 : List UInt8 := [4, 167, 0, 4, 3, 172, 27, 28, 160, 0, 7, 4, 167, 0, 4, 3, 172]
theorem kX1_reckon_3 (j : Nat) {b : UInt8} (hj : bX1_reckon_3[j]? = some b) : AtB cX1_reckon (96 + j) b := at_of32 (by decide +kernel) j hj
theorem dX1_reckon_0 : decode cX1_reckon 0 = .ok (.iload_n 0, 1) := dq_26 (kX1_reckon_0 0 rfl)
theorem dX1_reckon_44 : decode cX1_reckon 44 = .ok (.iload_n 1, 1) := dq_27 (kX1_reckon_1 12 rfl)
theorem dX1_reckon_45 : decode cX1_reckon 45 = .ok (.iload_n 2, 1) := dq_28 (kX1_reckon_1 13 rfl)
theorem dX1_reckon_46 : decode cX1_reckon 46 = .ok (.iadd, 1) := dq_96 (kX1_reckon_1 14 rfl)
theorem dX1_reckon_47 : decode cX1_reckon 47 = .ok (.ireturn, 1) := dq_172 (kX1_reckon_1 15 rfl)
theorem dX1_reckon_48 : decode cX1_reckon 48 = .ok (.iload_n 1, 1) := dq_27 (kX1_reckon_1 16 rfl)
theorem dX1_reckon_49 : decode cX1_reckon 49 = .ok (.iload_n 2, 1) := dq_28 (kX1_reckon_1 17 rfl)
theorem dX1_reckon_50 : decode cX1_reckon 50 = .ok (.isub, 1) := dq_100 (kX1_reckon_1 18 rfl)
theorem dX1_reckon_51 : decode cX1_reckon 51 = .ok (.ireturn, 1) := dq_172 (kX1_reckon_1 19 rfl)
theorem dX1_reckon_52 : decode cX1_reckon 52 = .ok (.iload_n 1, 1) := dq_27 (kX1_reckon_1 20 rfl)
theorem dX1_reckon_53 : decode cX1_reckon 53 = .ok (.iload_n 2, 1) := dq_28 (kX1_reckon_1 21 rfl)
theorem dX1_reckon_54 : decode cX1_reckon 54 = .ok (.imul, 1) := dq_104 (kX1_reckon_1 22 rfl)
theorem dX1_reckon_55 : decode cX1_reckon 55 = .ok (.ireturn, 1) := dq_172 (kX1_reckon_1 23 rfl)
theorem dX1_reckon_56 : decode cX1_reckon 56 = .ok (.iload_n 2, 1) := dq_28 (kX1_reckon_1 24 rfl)
theorem dX1_reckon_57 : decode cX1_reckon 57 = .ok (.ifCond .ne 7, 3) := dq_154 (kX1_reckon_1 25 rfl) (kX1_reckon_1 26 rfl) (kX1_reckon_1 27 rfl) (by decide)
theorem dX1_reckon_60 : decode cX1_reckon 60 = .ok (.iconst 0, 1) := dq_3 (kX1_reckon_1 28 rfl)
theorem dX1_reckon_61 : decode cX1_reckon 61 = .ok (.goto 6, 3) := dq_167 (kX1_reckon_1 29 rfl) (kX1_reckon_1 30 rfl) (kX1_reckon_1 31 rfl) (by decide)
theorem dX1_reckon_64 : decode cX1_reckon 64 = .ok (.iload_n 1, 1) := dq_27 (kX1_reckon_2 0 rfl)
theorem dX1_reckon_65 : decode cX1_reckon 65 = .ok (.iload_n 2, 1) := dq_28 (kX1_reckon_2 1 rfl)
theorem dX1_reckon_66 : decode cX1_reckon 66 = .ok (.idiv, 1) := dq_108 (kX1_reckon_2 2 rfl)
theorem dX1_reckon_67 : decode cX1_reckon 67 = .ok (.ireturn, 1) := dq_172 (kX1_reckon_2 3 rfl)
theorem dX1_reckon_68 : decode cX1_reckon 68 = .ok (.iload_n 2, 1) := dq_28 (kX1_reckon_2 4 rfl)
theorem dX1_reckon_69 : decode cX1_reckon 69 = .ok (.ifCond .ne 7, 3) := dq_154 (kX1_reckon_2 5 rfl) (kX1_reckon_2 6 rfl) (kX1_reckon_2 7 rfl) (by decide)
theorem dX1_reckon_72 : decode cX1_reckon 72 = .ok (.iconst 0, 1) := dq_3 (kX1_reckon_2 8 rfl)
theorem dX1_reckon_73 : decode cX1_reckon 73 = .ok (.goto 6, 3) := dq_167 (kX1_reckon_2 9 rfl) (kX1_reckon_2 10 rfl) (kX1_reckon_2 11 rfl) (by decide)
theorem dX1_reckon_76 : decode cX1_reckon 76 = .ok (.iload_n 1, 1) := dq_27 (kX1_reckon_2 12 rfl)
theorem dX1_reckon_77 : decode cX1_reckon 77 = .ok (.iload_n 2, 1) := dq_28 (kX1_reckon_2 13 rfl)
theorem dX1_reckon_78 : decode cX1_reckon 78 = .ok (.irem, 1) := dq_112 (kX1_reckon_2 14 rfl)
theorem dX1_reckon_79 : decode cX1_reckon 79 = .ok (.ireturn, 1) := dq_172 (kX1_reckon_2 15 rfl)
theorem dX1_reckon_80 : decode cX1_reckon 80 = .ok (.iload_n 1, 1) := dq_27 (kX1_reckon_2 16 rfl)
theorem dX1_reckon_81 : decode cX1_reckon 81 = .ok (.iload_n 2, 1) := dq_28 (kX1_reckon_2 17 rfl)
theorem dX1_reckon_82 : decode cX1_reckon 82 = .ok (.if_icmp .ge 7, 3) := dq_162 (kX1_reckon_2 18 rfl) (kX1_reckon_2 19 rfl) (kX1_reckon_2 20 rfl) (by decide)
theorem dX1_reckon_85 : decode cX1_reckon 85 = .ok (.iconst 1, 1) := dq_4 (kX1_reckon_2 21 rfl)
theorem dX1_reckon_86 : decode cX1_reckon 86 = .ok (.goto 4, 3) := dq_167 (kX1_reckon_2 22 rfl) (kX1_reckon_2 23 rfl) (kX1_reckon_2 24 rfl) (by decide)
theorem dX1_reckon_89 : decode cX1_reckon 89 = .ok (.iconst 0, 1) := dq_3 (kX1_reckon_2 25 rfl)
theorem dX1_reckon_90 : decode cX1_reckon 90 = .ok (.ireturn, 1) := dq_172 (kX1_reckon_2 26 rfl)
theorem dX1_reckon_91 : decode cX1_reckon 91 = .ok (.iload_n 1, 1) := dq_27 (kX1_reckon_2 27 rfl)
theorem dX1_reckon_92 : decode cX1_reckon 92 = .ok (.iload_n 2, 1) := dq_28 (kX1_reckon_2 28 rfl)
theorem dX1_reckon_93 : decode cX1_reckon 93 = .ok (.if_icmp .le 7, 3) := dq_164 (kX1_reckon_2 29 rfl) (kX1_reckon_2 30 rfl) (kX1_reckon_2 31 rfl) (by decide)
theorem dX1_reckon_96 : decode cX1_reckon 96 = .ok (.iconst 1, 1) := dq_4 (kX1_reckon_3 0 rfl)
theorem dX1_reckon_97 : decode cX1_reckon 97 = .ok (.goto 4, 3) := dq_167 (kX1_reckon_3 1 rfl) (kX1_reckon_3 2 rfl) (kX1_reckon_3 3 rfl) (by decide)
theorem dX1_reckon_100 : decode cX1_reckon 100 = .ok (.iconst 0, 1) := dq_3 (kX1_reckon_3 4 rfl)
theorem dX1_reckon_101 : decode cX1_reckon 101 = .ok (.ireturn, 1) := dq_172 (kX1_reckon_3 5 rfl)
theorem dX1_reckon_102 : decode cX1_reckon 102 = .ok (.iload_n 1, 1) := dq_27 (kX1_reckon_3 6 rfl)
theorem dX1_reckon_103 : decode cX1_reckon 103 = .ok (.iload_n 2, 1) := dq_28 (kX1_reckon_3 7 rfl)
theorem dX1_reckon_104 : decode cX1_reckon 104 = .ok (.if_icmp .ne 7, 3) := dq_160 (kX1_reckon_3 8 rfl) (kX1_reckon_3 9 rfl) (kX1_reckon_3 10 rfl) (by decide)
theorem dX1_reckon_107 : decode cX1_reckon 107 = .ok (.iconst 1, 1) := dq_4 (kX1_reckon_3 11 rfl)
theorem dX1_reckon_108 : decode cX1_reckon 108 = .ok (.goto 4, 3) := dq_167 (kX1_reckon_3 12 rfl) (kX1_reckon_3 13 rfl) (kX1_reckon_3 14 rfl) (by decide)
theorem dX1_reckon_111 : decode cX1_reckon 111 = .ok (.iconst 0, 1) := dq_3 (kX1_reckon_3 15 rfl)
theorem dX1_reckon_112 : decode cX1_reckon 112 = .ok (.ireturn, 1) := dq_172 (kX1_reckon_3 16 rfl)
def LX1_reckon : List (Nat × Instr × Nat) := [(1, .tableswitch 101 5 11 #[43, 47, 51, 55, 67, 79, 90], 43)]
theorem kkX1_reckon : chkB cX1_reckon LX1_reckon = true := by decide +kernel
theorem dX1_reckon_1 : decode cX1_reckon 1 = .ok (.tableswitch 101 5 11 #[43, 47, 51, 55, 67, 79, 90], 43) := getB' kkX1_reckon 0 rfl

def bX1_push_0 : List UInt8 := [42, 180, 0, 49, 42, 180, 0, 52, 27, 184, 0, 108, 42, 89, 180, 0, 52, 4, 96, 181, 0, 52, 177]
theorem kX1_push_0 (j : Nat) {b : UInt8} (hj : bX1_push_0[j]? = some b) : AtB cX1_push (0 + j) b := at_of32 (by decide +kernel) j hj
theorem dX1_push_0 : decode cX1_push 0 = .ok (.aload_n 0, 1) := dq_42 (kX1_push_0 0 rfl)
theorem dX1_push_1 : decode cX1_push 1 = .ok (.getfield 49, 3) := dq_180 (kX1_push_0 1 rfl) (kX1_push_0 2 rfl) (kX1_push_0 3 rfl) rfl
theorem dX1_push_4 : decode cX1_push 4 = .ok (.aload_n 0, 1) := dq_42 (kX1_push_0 4 rfl)
theorem dX1_push_5 : decode cX1_push 5 = .ok (.getfield 52, 3) := dq_180 (kX1_push_0 5 rfl) (kX1_push_0 6 rfl) (kX1_push_0 7 rfl) rfl
theorem dX1_push_8 : decode cX1_push 8 = .ok (.iload_n 1, 1) := dq_27 (kX1_push_0 8 rfl)
theorem dX1_push_9 : decode cX1_push 9 = .ok (.invokestatic 108, 3) := dq_184 (kX1_push_0 9 rfl) (kX1_push_0 10 rfl) (kX1_push_0 11 rfl) rfl
theorem dX1_push_12 : decode cX1_push 12 = .ok (.aload_n 0, 1) := dq_42 (kX1_push_0 12 rfl)
theorem dX1_push_13 : decode cX1_push 13 = .ok (.dup, 1) := dq_89 (kX1_push_0 13 rfl)
theorem dX1_push_14 : decode cX1_push 14 = .ok (.getfield 52, 3) := dq_180 (kX1_push_0 14 rfl) (kX1_push_0 15 rfl) (kX1_push_0 16 rfl) rfl
theorem dX1_push_17 : decode cX1_push 17 = .ok (.iconst 1, 1) := dq_4 (kX1_push_0 17 rfl)
theorem dX1_push_18 : decode cX1_push 18 = .ok (.iadd, 1) := dq_96 (kX1_push_0 18 rfl)
theorem dX1_push_19 : decode cX1_push 19 = .ok (.putfield 52, 3) := dq_181 (kX1_push_0 19 rfl) (kX1_push_0 20 rfl) (kX1_push_0 21 rfl) rfl
theorem dX1_push_22 : decode cX1_push 22 = .ok (.return_, 1) := dq_177 (kX1_push_0 22 rfl)

def bX1_pop_0 : List UInt8 := [42, 89, 180, 0, 52, 4, 100, 181, 0, 52, 42, 180, 0, 49, 42, 180, 0, 52, 184, 0, 88, 172]
theorem kX1_pop_0 (j : Nat) {b : UInt8} (hj : bX1_pop_0[j]? = some b) : AtB cX1_pop (0 + j) b := at_of32 (by decide +kernel) j hj
theorem dX1_pop_0 : decode cX1_pop 0 = .ok (.aload_n 0, 1) := dq_42 (kX1_pop_0 0 rfl)
theorem dX1_pop_1 : decode cX1_pop 1 = .ok (.dup, 1) := dq_89 (kX1_pop_0 1 rfl)
theorem dX1_pop_2 : decode cX1_pop 2 = .ok (.getfield 52, 3) := dq_180 (kX1_pop_0 2 rfl) (kX1_pop_0 3 rfl) (kX1_pop_0 4 rfl) rfl
theorem dX1_pop_5 : decode cX1_pop 5 = .ok (.iconst 1, 1) := dq_4 (kX1_pop_0 5 rfl)
theorem dX1_pop_6 : decode cX1_pop 6 = .ok (.isub, 1) := dq_100 (kX1_pop_0 6 rfl)
theorem dX1_pop_7 : decode cX1_pop 7 = .ok (.putfield 52, 3) := dq_181 (kX1_pop_0 7 rfl) (kX1_pop_0 8 rfl) (kX1_pop_0 9 rfl) rfl
theorem dX1_pop_10 : decode cX1_pop 10 = .ok (.aload_n 0, 1) := dq_42 (kX1_pop_0 10 rfl)
theorem dX1_pop_11 : decode cX1_pop 11 = .ok (.getfield 49, 3) := dq_180 (kX1_pop_0 11 rfl) (kX1_pop_0 12 rfl) (kX1_pop_0 13 rfl) rfl
theorem dX1_pop_14 : decode cX1_pop 14 = .ok (.aload_n 0, 1) := dq_42 (kX1_pop_0 14 rfl)
theorem dX1_pop_15 : decode cX1_pop 15 = .ok (.getfield 52, 3) := dq_180 (kX1_pop_0 15 rfl) (kX1_pop_0 16 rfl) (kX1_pop_0 17 rfl) rfl
theorem dX1_pop_18 : decode cX1_pop 18 = .ok (.invokestatic 88, 3) := dq_184 (kX1_pop_0 18 rfl) (kX1_pop_0 19 rfl) (kX1_pop_0 20 rfl) rfl
theorem dX1_pop_21 : decode cX1_pop 21 = .ok (.ireturn, 1) := dq_172 (kX1_pop_0 21 rfl)

def bX2_init_0 : List UInt8 := [42, 183, 0, 3, 42, 3, 181, 0, 9, 42, 3, 181, 0, 15, 42, 16, 20, 188, 10, 181, 0, 18, 42, 16, 7, 188, 10, 181, 0, 22, 42, 27]
theorem kX2_init_0 (j : Nat) {b : UInt8} (hj : bX2_init_0[j]? = some b) : AtB cX2_init (0 + j) b := at_of32 (by decide +kernel) j hj
def bX2_init_1 : List UInt8 := [181, 0, 25, 42, 180, 0, 18, 2, 184, 0, 28, 177]
theorem kX2_init_1 (j : Nat) {b : UInt8} (hj : bX2_init_1[j]? = some b) : AtB cX2_init (32 + j) b := at_of32 (by decide +kernel) j hj
theorem dX2_init_0 : decode cX2_init 0 = .ok (.aload_n 0, 1) := dq_42 (kX2_init_0 0 rfl)
theorem dX2_init_1 : decode cX2_init 1 = .ok (.invokespecial 3, 3) := dq_183 (kX2_init_0 1 rfl) (kX2_init_0 2 rfl) (kX2_init_0 3 rfl) rfl
theorem dX2_init_4 : decode cX2_init 4 = .ok (.aload_n 0, 1) := dq_42 (kX2_init_0 4 rfl)
theorem dX2_init_5 : decode cX2_init 5 = .ok (.iconst 0, 1) := dq_3 (kX2_init_0 5 rfl)
theorem dX2_init_6 : decode cX2_init 6 = .ok (.putfield 9, 3) := dq_181 (kX2_init_0 6 rfl) (kX2_init_0 7 rfl) (kX2_init_0 8 rfl) rfl
theorem dX2_init_9 : decode cX2_init 9 = .ok (.aload_n 0, 1) := dq_42 (kX2_init_0 9 rfl)
theorem dX2_init_10 : decode cX2_init 10 = .ok (.iconst 0, 1) := dq_3 (kX2_init_0 10 rfl)
theorem dX2_init_11 : decode cX2_init 11 = .ok (.putfield 15, 3) := dq_181 (kX2_init_0 11 rfl) (kX2_init_0 12 rfl) (kX2_init_0 13 rfl) rfl
theorem dX2_init_14 : decode cX2_init 14 = .ok (.aload_n 0, 1) := dq_42 (kX2_init_0 14 rfl)
theorem dX2_init_15 : decode cX2_init 15 = .ok (.bipush 20, 2) := dq_16 (kX2_init_0 15 rfl) (kX2_init_0 16 rfl) (by decide)
theorem dX2_init_17 : decode cX2_init 17 = .ok (.newarray .int, 2) := dq_188_10 (kX2_init_0 17 rfl) (kX2_init_0 18 rfl)
theorem dX2_init_19 : decode cX2_init 19 = .ok (.putfield 18, 3) := dq_181 (kX2_init_0 19 rfl) (kX2_init_0 20 rfl) (kX2_init_0 21 rfl) rfl
theorem dX2_init_22 : decode cX2_init 22 = .ok (.aload_n 0, 1) := dq_42 (kX2_init_0 22 rfl)
theorem dX2_init_23 : decode cX2_init 23 = .ok (.bipush 7, 2) := dq_16 (kX2_init_0 23 rfl) (kX2_init_0 24 rfl) (by decide)
theorem dX2_init_25 : decode cX2_init 25 = .ok (.newarray .int, 2) := dq_188_10 (kX2_init_0 25 rfl) (kX2_init_0 26 rfl)
theorem dX2_init_27 : decode cX2_init 27 = .ok (.putfield 22, 3) := dq_181 (kX2_init_0 27 rfl) (kX2_init_0 28 rfl) (kX2_init_0 29 rfl) rfl
theorem dX2_init_30 : decode cX2_init 30 = .ok (.aload_n 0, 1) := dq_42 (kX2_init_0 30 rfl)
theorem dX2_init_31 : decode cX2_init 31 = .ok (.iload_n 1, 1) := dq_27 (kX2_init_0 31 rfl)
theorem dX2_init_32 : decode cX2_init 32 = .ok (.putfield 25, 3) := dq_181 (kX2_init_1 0 rfl) (kX2_init_1 1 rfl) (kX2_init_1 2 rfl) rfl
theorem dX2_init_35 : decode cX2_init 35 = .ok (.aload_n 0, 1) := dq_42 (kX2_init_1 3 rfl)
theorem dX2_init_36 : decode cX2_init 36 = .ok (.getfield 18, 3) := dq_180 (kX2_init_1 4 rfl) (kX2_init_1 5 rfl) (kX2_init_1 6 rfl) rfl
theorem dX2_init_39 : decode cX2_init 39 = .ok (.iconst (-1), 1) := dq_2 (kX2_init_1 7 rfl)
theorem dX2_init_40 : decode cX2_init 40 = .ok (.invokestatic 28, 3) := dq_184 (kX2_init_1 8 rfl) (kX2_init_1 9 rfl) (kX2_init_1 10 rfl) rfl
theorem dX2_init_43 : decode cX2_init 43 = .ok (.return_, 1) := dq_177 (kX2_init_1 11 rfl)

def bX2_decidesOn_0 : List UInt8 := [42, 180, 0, 25, 2, 159, 0, 15, 42, 180, 0, 25, 27, 163, 0, 7, 4, 167, 0, 4, 3, 172]
theorem kX2_decidesOn_0 (j : Nat) {b : UInt8} (hj : bX2_decidesOn_0[j]? = some b) : AtB cX2_decidesOn (0 + j) b := at_of32 (by decide +kernel) j hj
theorem dX2_decidesOn_0 : decode cX2_decidesOn 0 = .ok (.aload_n 0, 1) := dq_42 (kX2_decidesOn_0 0 rfl)
theorem dX2_decidesOn_1 : decode cX2_decidesOn 1 = .ok (.getfield 25, 3) := dq_180 (kX2_decidesOn_0 1 rfl) (kX2_decidesOn_0 2 rfl) (kX2_decidesOn_0 3 rfl) rfl
theorem dX2_decidesOn_4 : decode cX2_decidesOn 4 = .ok (.iconst (-1), 1) := dq_2 (kX2_decidesOn_0 4 rfl)
theorem dX2_decidesOn_5 : decode cX2_decidesOn 5 = .ok (.if_icmp .eq 15, 3) := dq_159 (kX2_decidesOn_0 5 rfl) (kX2_decidesOn_0 6 rfl) (kX2_decidesOn_0 7 rfl) (by decide)
theorem dX2_decidesOn_8 : decode cX2_decidesOn 8 = .ok (.aload_n 0, 1) := dq_42 (kX2_decidesOn_0 8 rfl)
theorem dX2_decidesOn_9 : decode cX2_decidesOn 9 = .ok (.getfield 25, 3) := dq_180 (kX2_decidesOn_0 9 rfl) (kX2_decidesOn_0 10 rfl) (kX2_decidesOn_0 11 rfl) rfl
theorem dX2_decidesOn_12 : decode cX2_decidesOn 12 = .ok (.iload_n 1, 1) := dq_27 (kX2_decidesOn_0 12 rfl)
theorem dX2_decidesOn_13 : decode cX2_decidesOn 13 = .ok (.if_icmp .gt 7, 3) := dq_163 (kX2_decidesOn_0 13 rfl) (kX2_decidesOn_0 14 rfl) (kX2_decidesOn_0 15 rfl) (by decide)
theorem dX2_decidesOn_16 : decode cX2_decidesOn 16 = .ok (.iconst 1, 1) := dq_4 (kX2_decidesOn_0 16 rfl)
theorem dX2_decidesOn_17 : decode cX2_decidesOn 17 = .ok (.goto 4, 3) := dq_167 (kX2_decidesOn_0 17 rfl) (kX2_decidesOn_0 18 rfl) (kX2_decidesOn_0 19 rfl) (by decide)
theorem dX2_decidesOn_20 : decode cX2_decidesOn 20 = .ok (.iconst 0, 1) := dq_3 (kX2_decidesOn_0 20 rfl)
theorem dX2_decidesOn_21 : decode cX2_decidesOn 21 = .ok (.ireturn, 1) := dq_172 (kX2_decidesOn_0 21 rfl)

def bX2_blocksWords_0 : List UInt8 := [42, 180, 0, 15, 27, 126, 153, 0, 5, 4, 172, 3, 61, 28, 16, 7, 162, 0, 34, 27, 28, 122, 4, 126, 153, 0, 20, 42, 180, 0, 22, 28]
theorem kX2_blocksWords_0 (j : Nat) {b : UInt8} (hj : bX2_blocksWords_0[j]? = some b) : AtB cX2_blocksWords (0 + j) b := at_of32 (by decide +kernel) j hj
def bX2_blocksWords_1 : List UInt8 := [184, 0, 34, 27, 2, 130, 126, 153, 0, 5, 4, 172, 132, 2, 1, 167, 255, 222, 3, 172]
theorem kX2_blocksWords_1 (j : Nat) {b : UInt8} (hj : bX2_blocksWords_1[j]? = some b) : AtB cX2_blocksWords (32 + j) b := at_of32 (by decide +kernel) j hj
theorem dX2_blocksWords_0 : decode cX2_blocksWords 0 = .ok (.aload_n 0, 1) := dq_42 (kX2_blocksWords_0 0 rfl)
theorem dX2_blocksWords_1 : decode cX2_blocksWords 1 = .ok (.getfield 15, 3) := dq_180 (kX2_blocksWords_0 1 rfl) (kX2_blocksWords_0 2 rfl) (kX2_blocksWords_0 3 rfl) rfl
theorem dX2_blocksWords_4 : decode cX2_blocksWords 4 = .ok (.iload_n 1, 1) := dq_27 (kX2_blocksWords_0 4 rfl)
theorem dX2_blocksWords_5 : decode cX2_blocksWords 5 = .ok (.iand, 1) := dq_126 (kX2_blocksWords_0 5 rfl)
theorem dX2_blocksWords_6 : decode cX2_blocksWords 6 = .ok (.ifCond .eq 5, 3) := dq_153 (kX2_blocksWords_0 6 rfl) (kX2_blocksWords_0 7 rfl) (kX2_blocksWords_0 8 rfl) (by decide)
theorem dX2_blocksWords_9 : decode cX2_blocksWords 9 = .ok (.iconst 1, 1) := dq_4 (kX2_blocksWords_0 9 rfl)
theorem dX2_blocksWords_10 : decode cX2_blocksWords 10 = .ok (.ireturn, 1) := dq_172 (kX2_blocksWords_0 10 rfl)
theorem dX2_blocksWords_11 : decode cX2_blocksWords 11 = .ok (.iconst 0, 1) := dq_3 (kX2_blocksWords_0 11 rfl)
theorem dX2_blocksWords_12 : decode cX2_blocksWords 12 = .ok (.istore_n 2, 1) := dq_61 (kX2_blocksWords_0 12 rfl)
theorem dX2_blocksWords_13 : decode cX2_blocksWords 13 = .ok (.iload_n 2, 1) := dq_28 (kX2_blocksWords_0 13 rfl)
theorem dX2_blocksWords_14 : decode cX2_blocksWords 14 = .ok (.bipush 7, 2) := dq_16 (kX2_blocksWords_0 14 rfl) (kX2_blocksWords_0 15 rfl) (by decide)
theorem dX2_blocksWords_16 : decode cX2_blocksWords 16 = .ok (.if_icmp .ge 34, 3) := dq_162 (kX2_blocksWords_0 16 rfl) (kX2_blocksWords_0 17 rfl) (kX2_blocksWords_0 18 rfl) (by decide)
theorem dX2_blocksWords_19 : decode cX2_blocksWords 19 = .ok (.iload_n 1, 1) := dq_27 (kX2_blocksWords_0 19 rfl)
theorem dX2_blocksWords_20 : decode cX2_blocksWords 20 = .ok (.iload_n 2, 1) := dq_28 (kX2_blocksWords_0 20 rfl)
theorem dX2_blocksWords_21 : decode cX2_blocksWords 21 = .ok (.ishr, 1) := dq_122 (kX2_blocksWords_0 21 rfl)
theorem dX2_blocksWords_22 : decode cX2_blocksWords 22 = .ok (.iconst 1, 1) := dq_4 (kX2_blocksWords_0 22 rfl)
theorem dX2_blocksWords_23 : decode cX2_blocksWords 23 = .ok (.iand, 1) := dq_126 (kX2_blocksWords_0 23 rfl)
theorem dX2_blocksWords_24 : decode cX2_blocksWords 24 = .ok (.ifCond .eq 20, 3) := dq_153 (kX2_blocksWords_0 24 rfl) (kX2_blocksWords_0 25 rfl) (kX2_blocksWords_0 26 rfl) (by decide)
theorem dX2_blocksWords_27 : decode cX2_blocksWords 27 = .ok (.aload_n 0, 1) := dq_42 (kX2_blocksWords_0 27 rfl)
theorem dX2_blocksWords_28 : decode cX2_blocksWords 28 = .ok (.getfield 22, 3) := dq_180 (kX2_blocksWords_0 28 rfl) (kX2_blocksWords_0 29 rfl) (kX2_blocksWords_0 30 rfl) rfl
theorem dX2_blocksWords_31 : decode cX2_blocksWords 31 = .ok (.iload_n 2, 1) := dq_28 (kX2_blocksWords_0 31 rfl)
theorem dX2_blocksWords_32 : decode cX2_blocksWords 32 = .ok (.invokestatic 34, 3) := dq_184 (kX2_blocksWords_1 0 rfl) (kX2_blocksWords_1 1 rfl) (kX2_blocksWords_1 2 rfl) rfl
theorem dX2_blocksWords_35 : decode cX2_blocksWords 35 = .ok (.iload_n 1, 1) := dq_27 (kX2_blocksWords_1 3 rfl)
theorem dX2_blocksWords_36 : decode cX2_blocksWords 36 = .ok (.iconst (-1), 1) := dq_2 (kX2_blocksWords_1 4 rfl)
theorem dX2_blocksWords_37 : decode cX2_blocksWords 37 = .ok (.ixor, 1) := dq_130 (kX2_blocksWords_1 5 rfl)
theorem dX2_blocksWords_38 : decode cX2_blocksWords 38 = .ok (.iand, 1) := dq_126 (kX2_blocksWords_1 6 rfl)
theorem dX2_blocksWords_39 : decode cX2_blocksWords 39 = .ok (.ifCond .eq 5, 3) := dq_153 (kX2_blocksWords_1 7 rfl) (kX2_blocksWords_1 8 rfl) (kX2_blocksWords_1 9 rfl) (by decide)
theorem dX2_blocksWords_42 : decode cX2_blocksWords 42 = .ok (.iconst 1, 1) := dq_4 (kX2_blocksWords_1 10 rfl)
theorem dX2_blocksWords_43 : decode cX2_blocksWords 43 = .ok (.ireturn, 1) := dq_172 (kX2_blocksWords_1 11 rfl)
theorem dX2_blocksWords_44 : decode cX2_blocksWords 44 = .ok (.iinc 2 1, 3) := dq_132 (kX2_blocksWords_1 12 rfl) (kX2_blocksWords_1 13 rfl) (kX2_blocksWords_1 14 rfl) rfl (by decide)
theorem dX2_blocksWords_47 : decode cX2_blocksWords 47 = .ok (.goto (-34), 3) := dq_167 (kX2_blocksWords_1 15 rfl) (kX2_blocksWords_1 16 rfl) (kX2_blocksWords_1 17 rfl) (by decide)
theorem dX2_blocksWords_50 : decode cX2_blocksWords 50 = .ok (.iconst 0, 1) := dq_3 (kX2_blocksWords_1 18 rfl)
theorem dX2_blocksWords_51 : decode cX2_blocksWords 51 = .ok (.ireturn, 1) := dq_172 (kX2_blocksWords_1 19 rfl)

def bX3_init_0 : List UInt8 := [42, 183, 0, 3, 42, 3, 181, 0, 9, 42, 3, 181, 0, 15, 42, 3, 181, 0, 19, 42, 3, 181, 0, 22, 42, 3, 181, 0, 25, 42, 3, 181]
theorem kX3_init_0 (j : Nat) {b : UInt8} (hj : bX3_init_0[j]? = some b) : AtB cX3_init (0 + j) b := at_of32 (by decide +kernel) j hj
def bX3_init_1 : List UInt8 := [0, 28, 42, 3, 181, 0, 31, 42, 3, 181, 0, 34, 42, 27, 181, 0, 37, 42, 28, 181, 0, 40, 42, 29, 181, 0, 43, 42, 21, 4, 181, 0]
theorem kX3_init_1 (j : Nat) {b : UInt8} (hj : bX3_init_1[j]? = some b) : AtB cX3_init (32 + j) b := at_of32 (by decide +kernel) j hj
def bX3_init_2 : List UInt8 := [46, 42, 21, 5, 181, 0, 49, 42, 27, 4, 160, 0, 9, 7, 188, 10, 167, 0, 16, 27, 8, 160, 0, 10, 16, 10, 188, 10, 167, 0, 4, 1]
theorem kX3_init_2 (j : Nat) {b : UInt8} (hj : bX3_init_2[j]? = some b) : AtB cX3_init (64 + j) b := at_of32 (by decide +kernel) j hj
def bX3_init_3 : List UInt8 := [181, 0, 52, 42, 27, 8, 160, 0, 10, 16, 10, 188, 10, 167, 0, 4, 1, 181, 0, 56, 42, 27, 7, 160, 0, 16, 187, 0, 59, 89, 5, 16]
theorem kX3_init_3 (j : Nat) {b : UInt8} (hj : bX3_init_3[j]? = some b) : AtB cX3_init (96 + j) b := at_of32 (by decide +kernel) j hj
def bX3_init_4 : List UInt8 := [8, 183, 0, 61, 167, 0, 4, 1, 181, 0, 64, 27, 8, 160, 0, 11, 42, 180, 0, 52, 2, 184, 0, 68, 177]
theorem kX3_init_4 (j : Nat) {b : UInt8} (hj : bX3_init_4[j]? = some b) : AtB cX3_init (128 + j) b := at_of32 (by decide +kernel) j hj
theorem dX3_init_0 : decode cX3_init 0 = .ok (.aload_n 0, 1) := dq_42 (kX3_init_0 0 rfl)
theorem dX3_init_1 : decode cX3_init 1 = .ok (.invokespecial 3, 3) := dq_183 (kX3_init_0 1 rfl) (kX3_init_0 2 rfl) (kX3_init_0 3 rfl) rfl
theorem dX3_init_4 : decode cX3_init 4 = .ok (.aload_n 0, 1) := dq_42 (kX3_init_0 4 rfl)
theorem dX3_init_5 : decode cX3_init 5 = .ok (.iconst 0, 1) := dq_3 (kX3_init_0 5 rfl)
theorem dX3_init_6 : decode cX3_init 6 = .ok (.putfield 9, 3) := dq_181 (kX3_init_0 6 rfl) (kX3_init_0 7 rfl) (kX3_init_0 8 rfl) rfl
theorem dX3_init_9 : decode cX3_init 9 = .ok (.aload_n 0, 1) := dq_42 (kX3_init_0 9 rfl)
theorem dX3_init_10 : decode cX3_init 10 = .ok (.iconst 0, 1) := dq_3 (kX3_init_0 10 rfl)
theorem dX3_init_11 : decode cX3_init 11 = .ok (.putfield 15, 3) := dq_181 (kX3_init_0 11 rfl) (kX3_init_0 12 rfl) (kX3_init_0 13 rfl) rfl
theorem dX3_init_14 : decode cX3_init 14 = .ok (.aload_n 0, 1) := dq_42 (kX3_init_0 14 rfl)
theorem dX3_init_15 : decode cX3_init 15 = .ok (.iconst 0, 1) := dq_3 (kX3_init_0 15 rfl)
theorem dX3_init_16 : decode cX3_init 16 = .ok (.putfield 19, 3) := dq_181 (kX3_init_0 16 rfl) (kX3_init_0 17 rfl) (kX3_init_0 18 rfl) rfl
theorem dX3_init_19 : decode cX3_init 19 = .ok (.aload_n 0, 1) := dq_42 (kX3_init_0 19 rfl)
theorem dX3_init_20 : decode cX3_init 20 = .ok (.iconst 0, 1) := dq_3 (kX3_init_0 20 rfl)
theorem dX3_init_21 : decode cX3_init 21 = .ok (.putfield 22, 3) := dq_181 (kX3_init_0 21 rfl) (kX3_init_0 22 rfl) (kX3_init_0 23 rfl) rfl
theorem dX3_init_24 : decode cX3_init 24 = .ok (.aload_n 0, 1) := dq_42 (kX3_init_0 24 rfl)
theorem dX3_init_25 : decode cX3_init 25 = .ok (.iconst 0, 1) := dq_3 (kX3_init_0 25 rfl)
theorem dX3_init_26 : decode cX3_init 26 = .ok (.putfield 25, 3) := dq_181 (kX3_init_0 26 rfl) (kX3_init_0 27 rfl) (kX3_init_0 28 rfl) rfl
theorem dX3_init_29 : decode cX3_init 29 = .ok (.aload_n 0, 1) := dq_42 (kX3_init_0 29 rfl)
theorem dX3_init_30 : decode cX3_init 30 = .ok (.iconst 0, 1) := dq_3 (kX3_init_0 30 rfl)
theorem dX3_init_31 : decode cX3_init 31 = .ok (.putfield 28, 3) := dq_181 (kX3_init_0 31 rfl) (kX3_init_1 0 rfl) (kX3_init_1 1 rfl) rfl
theorem dX3_init_34 : decode cX3_init 34 = .ok (.aload_n 0, 1) := dq_42 (kX3_init_1 2 rfl)
theorem dX3_init_35 : decode cX3_init 35 = .ok (.iconst 0, 1) := dq_3 (kX3_init_1 3 rfl)
theorem dX3_init_36 : decode cX3_init 36 = .ok (.putfield 31, 3) := dq_181 (kX3_init_1 4 rfl) (kX3_init_1 5 rfl) (kX3_init_1 6 rfl) rfl
theorem dX3_init_39 : decode cX3_init 39 = .ok (.aload_n 0, 1) := dq_42 (kX3_init_1 7 rfl)
theorem dX3_init_40 : decode cX3_init 40 = .ok (.iconst 0, 1) := dq_3 (kX3_init_1 8 rfl)
theorem dX3_init_41 : decode cX3_init 41 = .ok (.putfield 34, 3) := dq_181 (kX3_init_1 9 rfl) (kX3_init_1 10 rfl) (kX3_init_1 11 rfl) rfl
theorem dX3_init_44 : decode cX3_init 44 = .ok (.aload_n 0, 1) := dq_42 (kX3_init_1 12 rfl)
theorem dX3_init_45 : decode cX3_init 45 = .ok (.iload_n 1, 1) := dq_27 (kX3_init_1 13 rfl)
theorem dX3_init_46 : decode cX3_init 46 = .ok (.putfield 37, 3) := dq_181 (kX3_init_1 14 rfl) (kX3_init_1 15 rfl) (kX3_init_1 16 rfl) rfl
theorem dX3_init_49 : decode cX3_init 49 = .ok (.aload_n 0, 1) := dq_42 (kX3_init_1 17 rfl)
theorem dX3_init_50 : decode cX3_init 50 = .ok (.iload_n 2, 1) := dq_28 (kX3_init_1 18 rfl)
theorem dX3_init_51 : decode cX3_init 51 = .ok (.putfield 40, 3) := dq_181 (kX3_init_1 19 rfl) (kX3_init_1 20 rfl) (kX3_init_1 21 rfl) rfl
theorem dX3_init_54 : decode cX3_init 54 = .ok (.aload_n 0, 1) := dq_42 (kX3_init_1 22 rfl)
theorem dX3_init_55 : decode cX3_init 55 = .ok (.iload_n 3, 1) := dq_29 (kX3_init_1 23 rfl)
theorem dX3_init_56 : decode cX3_init 56 = .ok (.putfield 43, 3) := dq_181 (kX3_init_1 24 rfl) (kX3_init_1 25 rfl) (kX3_init_1 26 rfl) rfl
theorem dX3_init_59 : decode cX3_init 59 = .ok (.aload_n 0, 1) := dq_42 (kX3_init_1 27 rfl)
theorem dX3_init_60 : decode cX3_init 60 = .ok (.iload 4, 2) := dq_21 (kX3_init_1 28 rfl) (kX3_init_1 29 rfl) rfl
theorem dX3_init_62 : decode cX3_init 62 = .ok (.putfield 46, 3) := dq_181 (kX3_init_1 30 rfl) (kX3_init_1 31 rfl) (kX3_init_2 0 rfl) rfl
theorem dX3_init_65 : decode cX3_init 65 = .ok (.aload_n 0, 1) := dq_42 (kX3_init_2 1 rfl)
theorem dX3_init_66 : decode cX3_init 66 = .ok (.iload 5, 2) := dq_21 (kX3_init_2 2 rfl) (kX3_init_2 3 rfl) rfl
theorem dX3_init_68 : decode cX3_init 68 = .ok (.putfield 49, 3) := dq_181 (kX3_init_2 4 rfl) (kX3_init_2 5 rfl) (kX3_init_2 6 rfl) rfl
theorem dX3_init_71 : decode cX3_init 71 = .ok (.aload_n 0, 1) := dq_42 (kX3_init_2 7 rfl)
theorem dX3_init_72 : decode cX3_init 72 = .ok (.iload_n 1, 1) := dq_27 (kX3_init_2 8 rfl)
theorem dX3_init_73 : decode cX3_init 73 = .ok (.iconst 1, 1) := dq_4 (kX3_init_2 9 rfl)
theorem dX3_init_74 : decode cX3_init 74 = .ok (.if_icmp .ne 9, 3) := dq_160 (kX3_init_2 10 rfl) (kX3_init_2 11 rfl) (kX3_init_2 12 rfl) (by decide)
theorem dX3_init_77 : decode cX3_init 77 = .ok (.iconst 4, 1) := dq_7 (kX3_init_2 13 rfl)
theorem dX3_init_78 : decode cX3_init 78 = .ok (.newarray .int, 2) := dq_188_10 (kX3_init_2 14 rfl) (kX3_init_2 15 rfl)
theorem dX3_init_80 : decode cX3_init 80 = .ok (.goto 16, 3) := dq_167 (kX3_init_2 16 rfl) (kX3_init_2 17 rfl) (kX3_init_2 18 rfl) (by decide)
theorem dX3_init_83 : decode cX3_init 83 = .ok (.iload_n 1, 1) := dq_27 (kX3_init_2 19 rfl)
theorem dX3_init_84 : decode cX3_init 84 = .ok (.iconst 5, 1) := dq_8 (kX3_init_2 20 rfl)
theorem dX3_init_85 : decode cX3_init 85 = .ok (.if_icmp .ne 10, 3) := dq_160 (kX3_init_2 21 rfl) (kX3_init_2 22 rfl) (kX3_init_2 23 rfl) (by decide)
theorem dX3_init_88 : decode cX3_init 88 = .ok (.bipush 10, 2) := dq_16 (kX3_init_2 24 rfl) (kX3_init_2 25 rfl) (by decide)
theorem dX3_init_90 : decode cX3_init 90 = .ok (.newarray .int, 2) := dq_188_10 (kX3_init_2 26 rfl) (kX3_init_2 27 rfl)
theorem dX3_init_92 : decode cX3_init 92 = .ok (.goto 4, 3) := dq_167 (kX3_init_2 28 rfl) (kX3_init_2 29 rfl) (kX3_init_2 30 rfl) (by decide)
theorem dX3_init_95 : decode cX3_init 95 = .ok (.aconst_null, 1) := dq_1 (kX3_init_2 31 rfl)
theorem dX3_init_96 : decode cX3_init 96 = .ok (.putfield 52, 3) := dq_181 (kX3_init_3 0 rfl) (kX3_init_3 1 rfl) (kX3_init_3 2 rfl) rfl
theorem dX3_init_99 : decode cX3_init 99 = .ok (.aload_n 0, 1) := dq_42 (kX3_init_3 3 rfl)
theorem dX3_init_100 : decode cX3_init 100 = .ok (.iload_n 1, 1) := dq_27 (kX3_init_3 4 rfl)
theorem dX3_init_101 : decode cX3_init 101 = .ok (.iconst 5, 1) := dq_8 (kX3_init_3 5 rfl)
theorem dX3_init_102 : decode cX3_init 102 = .ok (.if_icmp .ne 10, 3) := dq_160 (kX3_init_3 6 rfl) (kX3_init_3 7 rfl) (kX3_init_3 8 rfl) (by decide)
theorem dX3_init_105 : decode cX3_init 105 = .ok (.bipush 10, 2) := dq_16 (kX3_init_3 9 rfl) (kX3_init_3 10 rfl) (by decide)
theorem dX3_init_107 : decode cX3_init 107 = .ok (.newarray .int, 2) := dq_188_10 (kX3_init_3 11 rfl) (kX3_init_3 12 rfl)
theorem dX3_init_109 : decode cX3_init 109 = .ok (.goto 4, 3) := dq_167 (kX3_init_3 13 rfl) (kX3_init_3 14 rfl) (kX3_init_3 15 rfl) (by decide)
theorem dX3_init_112 : decode cX3_init 112 = .ok (.aconst_null, 1) := dq_1 (kX3_init_3 16 rfl)
theorem dX3_init_113 : decode cX3_init 113 = .ok (.putfield 56, 3) := dq_181 (kX3_init_3 17 rfl) (kX3_init_3 18 rfl) (kX3_init_3 19 rfl) rfl
theorem dX3_init_116 : decode cX3_init 116 = .ok (.aload_n 0, 1) := dq_42 (kX3_init_3 20 rfl)
theorem dX3_init_117 : decode cX3_init 117 = .ok (.iload_n 1, 1) := dq_27 (kX3_init_3 21 rfl)
theorem dX3_init_118 : decode cX3_init 118 = .ok (.iconst 4, 1) := dq_7 (kX3_init_3 22 rfl)
theorem dX3_init_119 : decode cX3_init 119 = .ok (.if_icmp .ne 16, 3) := dq_160 (kX3_init_3 23 rfl) (kX3_init_3 24 rfl) (kX3_init_3 25 rfl) (by decide)
theorem dX3_init_122 : decode cX3_init 122 = .ok (.new 59, 3) := dq_187 (kX3_init_3 26 rfl) (kX3_init_3 27 rfl) (kX3_init_3 28 rfl) rfl
theorem dX3_init_125 : decode cX3_init 125 = .ok (.dup, 1) := dq_89 (kX3_init_3 29 rfl)
theorem dX3_init_126 : decode cX3_init 126 = .ok (.iconst 2, 1) := dq_5 (kX3_init_3 30 rfl)
theorem dX3_init_127 : decode cX3_init 127 = .ok (.bipush 8, 2) := dq_16 (kX3_init_3 31 rfl) (kX3_init_4 0 rfl) (by decide)
theorem dX3_init_129 : decode cX3_init 129 = .ok (.invokespecial 61, 3) := dq_183 (kX3_init_4 1 rfl) (kX3_init_4 2 rfl) (kX3_init_4 3 rfl) rfl
theorem dX3_init_132 : decode cX3_init 132 = .ok (.goto 4, 3) := dq_167 (kX3_init_4 4 rfl) (kX3_init_4 5 rfl) (kX3_init_4 6 rfl) (by decide)
theorem dX3_init_135 : decode cX3_init 135 = .ok (.aconst_null, 1) := dq_1 (kX3_init_4 7 rfl)
theorem dX3_init_136 : decode cX3_init 136 = .ok (.putfield 64, 3) := dq_181 (kX3_init_4 8 rfl) (kX3_init_4 9 rfl) (kX3_init_4 10 rfl) rfl
theorem dX3_init_139 : decode cX3_init 139 = .ok (.iload_n 1, 1) := dq_27 (kX3_init_4 11 rfl)
theorem dX3_init_140 : decode cX3_init 140 = .ok (.iconst 5, 1) := dq_8 (kX3_init_4 12 rfl)
theorem dX3_init_141 : decode cX3_init 141 = .ok (.if_icmp .ne 11, 3) := dq_160 (kX3_init_4 13 rfl) (kX3_init_4 14 rfl) (kX3_init_4 15 rfl) (by decide)
theorem dX3_init_144 : decode cX3_init 144 = .ok (.aload_n 0, 1) := dq_42 (kX3_init_4 16 rfl)
theorem dX3_init_145 : decode cX3_init 145 = .ok (.getfield 52, 3) := dq_180 (kX3_init_4 17 rfl) (kX3_init_4 18 rfl) (kX3_init_4 19 rfl) rfl
theorem dX3_init_148 : decode cX3_init 148 = .ok (.iconst (-1), 1) := dq_2 (kX3_init_4 20 rfl)
theorem dX3_init_149 : decode cX3_init 149 = .ok (.invokestatic 68, 3) := dq_184 (kX3_init_4 21 rfl) (kX3_init_4 22 rfl) (kX3_init_4 23 rfl) rfl
theorem dX3_init_152 : decode cX3_init 152 = .ok (.return_, 1) := dq_177 (kX3_init_4 24 rfl)

def bX3_addSounding_0 : List UInt8 := [42, 180, 0, 64, 198, 0, 27, 42, 180, 0, 64, 27, 28, 100, 27, 28, 96, 3, 3, 3, 182, 0, 74, 2, 159, 0, 7, 4, 167, 0, 4, 3]
theorem kX3_addSounding_0 (j : Nat) {b : UInt8} (hj : bX3_addSounding_0[j]? = some b) : AtB cX3_addSounding (0 + j) b := at_of32 (by decide +kernel) j hj
def bX3_addSounding_1 : List UInt8 := [172]
theorem kX3_addSounding_1 (j : Nat) {b : UInt8} (hj : bX3_addSounding_1[j]? = some b) : AtB cX3_addSounding (32 + j) b := at_of32 (by decide +kernel) j hj
theorem dX3_addSounding_0 : decode cX3_addSounding 0 = .ok (.aload_n 0, 1) := dq_42 (kX3_addSounding_0 0 rfl)
theorem dX3_addSounding_1 : decode cX3_addSounding 1 = .ok (.getfield 64, 3) := dq_180 (kX3_addSounding_0 1 rfl) (kX3_addSounding_0 2 rfl) (kX3_addSounding_0 3 rfl) rfl
theorem dX3_addSounding_4 : decode cX3_addSounding 4 = .ok (.ifnull 27, 3) := dq_198 (kX3_addSounding_0 4 rfl) (kX3_addSounding_0 5 rfl) (kX3_addSounding_0 6 rfl) (by decide)
theorem dX3_addSounding_7 : decode cX3_addSounding 7 = .ok (.aload_n 0, 1) := dq_42 (kX3_addSounding_0 7 rfl)
theorem dX3_addSounding_8 : decode cX3_addSounding 8 = .ok (.getfield 64, 3) := dq_180 (kX3_addSounding_0 8 rfl) (kX3_addSounding_0 9 rfl) (kX3_addSounding_0 10 rfl) rfl
theorem dX3_addSounding_11 : decode cX3_addSounding 11 = .ok (.iload_n 1, 1) := dq_27 (kX3_addSounding_0 11 rfl)
theorem dX3_addSounding_12 : decode cX3_addSounding 12 = .ok (.iload_n 2, 1) := dq_28 (kX3_addSounding_0 12 rfl)
theorem dX3_addSounding_13 : decode cX3_addSounding 13 = .ok (.isub, 1) := dq_100 (kX3_addSounding_0 13 rfl)
theorem dX3_addSounding_14 : decode cX3_addSounding 14 = .ok (.iload_n 1, 1) := dq_27 (kX3_addSounding_0 14 rfl)
theorem dX3_addSounding_15 : decode cX3_addSounding 15 = .ok (.iload_n 2, 1) := dq_28 (kX3_addSounding_0 15 rfl)
theorem dX3_addSounding_16 : decode cX3_addSounding 16 = .ok (.iadd, 1) := dq_96 (kX3_addSounding_0 16 rfl)
theorem dX3_addSounding_17 : decode cX3_addSounding 17 = .ok (.iconst 0, 1) := dq_3 (kX3_addSounding_0 17 rfl)
theorem dX3_addSounding_18 : decode cX3_addSounding 18 = .ok (.iconst 0, 1) := dq_3 (kX3_addSounding_0 18 rfl)
theorem dX3_addSounding_19 : decode cX3_addSounding 19 = .ok (.iconst 0, 1) := dq_3 (kX3_addSounding_0 19 rfl)
theorem dX3_addSounding_20 : decode cX3_addSounding 20 = .ok (.invokevirtual 74, 3) := dq_182 (kX3_addSounding_0 20 rfl) (kX3_addSounding_0 21 rfl) (kX3_addSounding_0 22 rfl) rfl
theorem dX3_addSounding_23 : decode cX3_addSounding 23 = .ok (.iconst (-1), 1) := dq_2 (kX3_addSounding_0 23 rfl)
theorem dX3_addSounding_24 : decode cX3_addSounding 24 = .ok (.if_icmp .eq 7, 3) := dq_159 (kX3_addSounding_0 24 rfl) (kX3_addSounding_0 25 rfl) (kX3_addSounding_0 26 rfl) (by decide)
theorem dX3_addSounding_27 : decode cX3_addSounding 27 = .ok (.iconst 1, 1) := dq_4 (kX3_addSounding_0 27 rfl)
theorem dX3_addSounding_28 : decode cX3_addSounding 28 = .ok (.goto 4, 3) := dq_167 (kX3_addSounding_0 28 rfl) (kX3_addSounding_0 29 rfl) (kX3_addSounding_0 30 rfl) (by decide)
theorem dX3_addSounding_31 : decode cX3_addSounding 31 = .ok (.iconst 0, 1) := dq_3 (kX3_addSounding_0 31 rfl)
theorem dX3_addSounding_32 : decode cX3_addSounding 32 = .ok (.ireturn, 1) := dq_172 (kX3_addSounding_1 0 rfl)

def bX3_sureDepth_0 : List UInt8 := [42, 180, 0, 64, 198, 0, 13, 42, 180, 0, 64, 180, 0, 78, 154, 0, 5, 3, 172, 42, 180, 0, 64, 3, 3, 182, 0, 81, 60, 27, 61, 42]
theorem kX3_sureDepth_0 (j : Nat) {b : UInt8} (hj : bX3_sureDepth_0[j]? = some b) : AtB cX3_sureDepth (0 + j) b := at_of32 (by decide +kernel) j hj
def bX3_sureDepth_1 : List UInt8 := [180, 0, 64, 3, 4, 182, 0, 81, 62, 4, 54, 4, 21, 4, 42, 180, 0, 64, 180, 0, 78, 162, 0, 54, 27, 42, 180, 0, 64, 21, 4, 3]
theorem kX3_sureDepth_1 (j : Nat) {b : UInt8} (hj : bX3_sureDepth_1[j]? = some b) : AtB cX3_sureDepth (32 + j) b := at_of32 (by decide +kernel) j hj
def bX3_sureDepth_2 : List UInt8 := [182, 0, 81, 184, 0, 85, 60, 28, 42, 180, 0, 64, 21, 4, 3, 182, 0, 81, 184, 0, 90, 61, 29, 42, 180, 0, 64, 21, 4, 4, 182, 0]
theorem kX3_sureDepth_2 (j : Nat) {b : UInt8} (hj : bX3_sureDepth_2[j]? = some b) : AtB cX3_sureDepth (64 + j) b := at_of32 (by decide +kernel) j hj
def bX3_sureDepth_3 : List UInt8 := [81, 184, 0, 85, 62, 132, 4, 1, 167, 255, 196, 3, 28, 29, 163, 0, 7, 28, 167, 0, 4, 27, 184, 0, 90, 172]
theorem kX3_sureDepth_3 (j : Nat) {b : UInt8} (hj : bX3_sureDepth_3[j]? = some b) : AtB cX3_sureDepth (96 + j) b := at_of32 (by decide +kernel) j hj
theorem dX3_sureDepth_0 : decode cX3_sureDepth 0 = .ok (.aload_n 0, 1) := dq_42 (kX3_sureDepth_0 0 rfl)
theorem dX3_sureDepth_1 : decode cX3_sureDepth 1 = .ok (.getfield 64, 3) := dq_180 (kX3_sureDepth_0 1 rfl) (kX3_sureDepth_0 2 rfl) (kX3_sureDepth_0 3 rfl) rfl
theorem dX3_sureDepth_4 : decode cX3_sureDepth 4 = .ok (.ifnull 13, 3) := dq_198 (kX3_sureDepth_0 4 rfl) (kX3_sureDepth_0 5 rfl) (kX3_sureDepth_0 6 rfl) (by decide)
theorem dX3_sureDepth_7 : decode cX3_sureDepth 7 = .ok (.aload_n 0, 1) := dq_42 (kX3_sureDepth_0 7 rfl)
theorem dX3_sureDepth_8 : decode cX3_sureDepth 8 = .ok (.getfield 64, 3) := dq_180 (kX3_sureDepth_0 8 rfl) (kX3_sureDepth_0 9 rfl) (kX3_sureDepth_0 10 rfl) rfl
theorem dX3_sureDepth_11 : decode cX3_sureDepth 11 = .ok (.getfield 78, 3) := dq_180 (kX3_sureDepth_0 11 rfl) (kX3_sureDepth_0 12 rfl) (kX3_sureDepth_0 13 rfl) rfl
theorem dX3_sureDepth_14 : decode cX3_sureDepth 14 = .ok (.ifCond .ne 5, 3) := dq_154 (kX3_sureDepth_0 14 rfl) (kX3_sureDepth_0 15 rfl) (kX3_sureDepth_0 16 rfl) (by decide)
theorem dX3_sureDepth_17 : decode cX3_sureDepth 17 = .ok (.iconst 0, 1) := dq_3 (kX3_sureDepth_0 17 rfl)
theorem dX3_sureDepth_18 : decode cX3_sureDepth 18 = .ok (.ireturn, 1) := dq_172 (kX3_sureDepth_0 18 rfl)
theorem dX3_sureDepth_19 : decode cX3_sureDepth 19 = .ok (.aload_n 0, 1) := dq_42 (kX3_sureDepth_0 19 rfl)
theorem dX3_sureDepth_20 : decode cX3_sureDepth 20 = .ok (.getfield 64, 3) := dq_180 (kX3_sureDepth_0 20 rfl) (kX3_sureDepth_0 21 rfl) (kX3_sureDepth_0 22 rfl) rfl
theorem dX3_sureDepth_23 : decode cX3_sureDepth 23 = .ok (.iconst 0, 1) := dq_3 (kX3_sureDepth_0 23 rfl)
theorem dX3_sureDepth_24 : decode cX3_sureDepth 24 = .ok (.iconst 0, 1) := dq_3 (kX3_sureDepth_0 24 rfl)
theorem dX3_sureDepth_25 : decode cX3_sureDepth 25 = .ok (.invokevirtual 81, 3) := dq_182 (kX3_sureDepth_0 25 rfl) (kX3_sureDepth_0 26 rfl) (kX3_sureDepth_0 27 rfl) rfl
theorem dX3_sureDepth_28 : decode cX3_sureDepth 28 = .ok (.istore_n 1, 1) := dq_60 (kX3_sureDepth_0 28 rfl)
theorem dX3_sureDepth_29 : decode cX3_sureDepth 29 = .ok (.iload_n 1, 1) := dq_27 (kX3_sureDepth_0 29 rfl)
theorem dX3_sureDepth_30 : decode cX3_sureDepth 30 = .ok (.istore_n 2, 1) := dq_61 (kX3_sureDepth_0 30 rfl)
theorem dX3_sureDepth_31 : decode cX3_sureDepth 31 = .ok (.aload_n 0, 1) := dq_42 (kX3_sureDepth_0 31 rfl)
theorem dX3_sureDepth_32 : decode cX3_sureDepth 32 = .ok (.getfield 64, 3) := dq_180 (kX3_sureDepth_1 0 rfl) (kX3_sureDepth_1 1 rfl) (kX3_sureDepth_1 2 rfl) rfl
theorem dX3_sureDepth_35 : decode cX3_sureDepth 35 = .ok (.iconst 0, 1) := dq_3 (kX3_sureDepth_1 3 rfl)
theorem dX3_sureDepth_36 : decode cX3_sureDepth 36 = .ok (.iconst 1, 1) := dq_4 (kX3_sureDepth_1 4 rfl)
theorem dX3_sureDepth_37 : decode cX3_sureDepth 37 = .ok (.invokevirtual 81, 3) := dq_182 (kX3_sureDepth_1 5 rfl) (kX3_sureDepth_1 6 rfl) (kX3_sureDepth_1 7 rfl) rfl
theorem dX3_sureDepth_40 : decode cX3_sureDepth 40 = .ok (.istore_n 3, 1) := dq_62 (kX3_sureDepth_1 8 rfl)
theorem dX3_sureDepth_41 : decode cX3_sureDepth 41 = .ok (.iconst 1, 1) := dq_4 (kX3_sureDepth_1 9 rfl)
theorem dX3_sureDepth_42 : decode cX3_sureDepth 42 = .ok (.istore 4, 2) := dq_54 (kX3_sureDepth_1 10 rfl) (kX3_sureDepth_1 11 rfl) rfl
theorem dX3_sureDepth_44 : decode cX3_sureDepth 44 = .ok (.iload 4, 2) := dq_21 (kX3_sureDepth_1 12 rfl) (kX3_sureDepth_1 13 rfl) rfl
theorem dX3_sureDepth_46 : decode cX3_sureDepth 46 = .ok (.aload_n 0, 1) := dq_42 (kX3_sureDepth_1 14 rfl)
theorem dX3_sureDepth_47 : decode cX3_sureDepth 47 = .ok (.getfield 64, 3) := dq_180 (kX3_sureDepth_1 15 rfl) (kX3_sureDepth_1 16 rfl) (kX3_sureDepth_1 17 rfl) rfl
theorem dX3_sureDepth_50 : decode cX3_sureDepth 50 = .ok (.getfield 78, 3) := dq_180 (kX3_sureDepth_1 18 rfl) (kX3_sureDepth_1 19 rfl) (kX3_sureDepth_1 20 rfl) rfl
theorem dX3_sureDepth_53 : decode cX3_sureDepth 53 = .ok (.if_icmp .ge 54, 3) := dq_162 (kX3_sureDepth_1 21 rfl) (kX3_sureDepth_1 22 rfl) (kX3_sureDepth_1 23 rfl) (by decide)
theorem dX3_sureDepth_56 : decode cX3_sureDepth 56 = .ok (.iload_n 1, 1) := dq_27 (kX3_sureDepth_1 24 rfl)
theorem dX3_sureDepth_57 : decode cX3_sureDepth 57 = .ok (.aload_n 0, 1) := dq_42 (kX3_sureDepth_1 25 rfl)
theorem dX3_sureDepth_58 : decode cX3_sureDepth 58 = .ok (.getfield 64, 3) := dq_180 (kX3_sureDepth_1 26 rfl) (kX3_sureDepth_1 27 rfl) (kX3_sureDepth_1 28 rfl) rfl
theorem dX3_sureDepth_61 : decode cX3_sureDepth 61 = .ok (.iload 4, 2) := dq_21 (kX3_sureDepth_1 29 rfl) (kX3_sureDepth_1 30 rfl) rfl
theorem dX3_sureDepth_63 : decode cX3_sureDepth 63 = .ok (.iconst 0, 1) := dq_3 (kX3_sureDepth_1 31 rfl)
theorem dX3_sureDepth_64 : decode cX3_sureDepth 64 = .ok (.invokevirtual 81, 3) := dq_182 (kX3_sureDepth_2 0 rfl) (kX3_sureDepth_2 1 rfl) (kX3_sureDepth_2 2 rfl) rfl
theorem dX3_sureDepth_67 : decode cX3_sureDepth 67 = .ok (.invokestatic 85, 3) := dq_184 (kX3_sureDepth_2 3 rfl) (kX3_sureDepth_2 4 rfl) (kX3_sureDepth_2 5 rfl) rfl
theorem dX3_sureDepth_70 : decode cX3_sureDepth 70 = .ok (.istore_n 1, 1) := dq_60 (kX3_sureDepth_2 6 rfl)
theorem dX3_sureDepth_71 : decode cX3_sureDepth 71 = .ok (.iload_n 2, 1) := dq_28 (kX3_sureDepth_2 7 rfl)
theorem dX3_sureDepth_72 : decode cX3_sureDepth 72 = .ok (.aload_n 0, 1) := dq_42 (kX3_sureDepth_2 8 rfl)
theorem dX3_sureDepth_73 : decode cX3_sureDepth 73 = .ok (.getfield 64, 3) := dq_180 (kX3_sureDepth_2 9 rfl) (kX3_sureDepth_2 10 rfl) (kX3_sureDepth_2 11 rfl) rfl
theorem dX3_sureDepth_76 : decode cX3_sureDepth 76 = .ok (.iload 4, 2) := dq_21 (kX3_sureDepth_2 12 rfl) (kX3_sureDepth_2 13 rfl) rfl
theorem dX3_sureDepth_78 : decode cX3_sureDepth 78 = .ok (.iconst 0, 1) := dq_3 (kX3_sureDepth_2 14 rfl)
theorem dX3_sureDepth_79 : decode cX3_sureDepth 79 = .ok (.invokevirtual 81, 3) := dq_182 (kX3_sureDepth_2 15 rfl) (kX3_sureDepth_2 16 rfl) (kX3_sureDepth_2 17 rfl) rfl
theorem dX3_sureDepth_82 : decode cX3_sureDepth 82 = .ok (.invokestatic 90, 3) := dq_184 (kX3_sureDepth_2 18 rfl) (kX3_sureDepth_2 19 rfl) (kX3_sureDepth_2 20 rfl) rfl
theorem dX3_sureDepth_85 : decode cX3_sureDepth 85 = .ok (.istore_n 2, 1) := dq_61 (kX3_sureDepth_2 21 rfl)
theorem dX3_sureDepth_86 : decode cX3_sureDepth 86 = .ok (.iload_n 3, 1) := dq_29 (kX3_sureDepth_2 22 rfl)
theorem dX3_sureDepth_87 : decode cX3_sureDepth 87 = .ok (.aload_n 0, 1) := dq_42 (kX3_sureDepth_2 23 rfl)
theorem dX3_sureDepth_88 : decode cX3_sureDepth 88 = .ok (.getfield 64, 3) := dq_180 (kX3_sureDepth_2 24 rfl) (kX3_sureDepth_2 25 rfl) (kX3_sureDepth_2 26 rfl) rfl
theorem dX3_sureDepth_91 : decode cX3_sureDepth 91 = .ok (.iload 4, 2) := dq_21 (kX3_sureDepth_2 27 rfl) (kX3_sureDepth_2 28 rfl) rfl
theorem dX3_sureDepth_93 : decode cX3_sureDepth 93 = .ok (.iconst 1, 1) := dq_4 (kX3_sureDepth_2 29 rfl)
theorem dX3_sureDepth_94 : decode cX3_sureDepth 94 = .ok (.invokevirtual 81, 3) := dq_182 (kX3_sureDepth_2 30 rfl) (kX3_sureDepth_2 31 rfl) (kX3_sureDepth_3 0 rfl) rfl
theorem dX3_sureDepth_97 : decode cX3_sureDepth 97 = .ok (.invokestatic 85, 3) := dq_184 (kX3_sureDepth_3 1 rfl) (kX3_sureDepth_3 2 rfl) (kX3_sureDepth_3 3 rfl) rfl
theorem dX3_sureDepth_100 : decode cX3_sureDepth 100 = .ok (.istore_n 3, 1) := dq_62 (kX3_sureDepth_3 4 rfl)
theorem dX3_sureDepth_101 : decode cX3_sureDepth 101 = .ok (.iinc 4 1, 3) := dq_132 (kX3_sureDepth_3 5 rfl) (kX3_sureDepth_3 6 rfl) (kX3_sureDepth_3 7 rfl) rfl (by decide)
theorem dX3_sureDepth_104 : decode cX3_sureDepth 104 = .ok (.goto (-60), 3) := dq_167 (kX3_sureDepth_3 8 rfl) (kX3_sureDepth_3 9 rfl) (kX3_sureDepth_3 10 rfl) (by decide)
theorem dX3_sureDepth_107 : decode cX3_sureDepth 107 = .ok (.iconst 0, 1) := dq_3 (kX3_sureDepth_3 11 rfl)
theorem dX3_sureDepth_108 : decode cX3_sureDepth 108 = .ok (.iload_n 2, 1) := dq_28 (kX3_sureDepth_3 12 rfl)
theorem dX3_sureDepth_109 : decode cX3_sureDepth 109 = .ok (.iload_n 3, 1) := dq_29 (kX3_sureDepth_3 13 rfl)
theorem dX3_sureDepth_110 : decode cX3_sureDepth 110 = .ok (.if_icmp .gt 7, 3) := dq_163 (kX3_sureDepth_3 14 rfl) (kX3_sureDepth_3 15 rfl) (kX3_sureDepth_3 16 rfl) (by decide)
theorem dX3_sureDepth_113 : decode cX3_sureDepth 113 = .ok (.iload_n 2, 1) := dq_28 (kX3_sureDepth_3 17 rfl)
theorem dX3_sureDepth_114 : decode cX3_sureDepth 114 = .ok (.goto 4, 3) := dq_167 (kX3_sureDepth_3 18 rfl) (kX3_sureDepth_3 19 rfl) (kX3_sureDepth_3 20 rfl) (by decide)
theorem dX3_sureDepth_117 : decode cX3_sureDepth 117 = .ok (.iload_n 1, 1) := dq_27 (kX3_sureDepth_3 21 rfl)
theorem dX3_sureDepth_118 : decode cX3_sureDepth 118 = .ok (.invokestatic 90, 3) := dq_184 (kX3_sureDepth_3 22 rfl) (kX3_sureDepth_3 23 rfl) (kX3_sureDepth_3 24 rfl) rfl
theorem dX3_sureDepth_121 : decode cX3_sureDepth 121 = .ok (.ireturn, 1) := dq_172 (kX3_sureDepth_3 25 rfl)

def bX4_get_0 : List UInt8 := [42, 198, 0, 19, 27, 155, 0, 15, 27, 42, 190, 162, 0, 9, 42, 27, 46, 167, 0, 4, 3, 172]
theorem kX4_get_0 (j : Nat) {b : UInt8} (hj : bX4_get_0[j]? = some b) : AtB cX4_get (0 + j) b := at_of32 (by decide +kernel) j hj
theorem dX4_get_0 : decode cX4_get 0 = .ok (.aload_n 0, 1) := dq_42 (kX4_get_0 0 rfl)
theorem dX4_get_1 : decode cX4_get 1 = .ok (.ifnull 19, 3) := dq_198 (kX4_get_0 1 rfl) (kX4_get_0 2 rfl) (kX4_get_0 3 rfl) (by decide)
theorem dX4_get_4 : decode cX4_get 4 = .ok (.iload_n 1, 1) := dq_27 (kX4_get_0 4 rfl)
theorem dX4_get_5 : decode cX4_get 5 = .ok (.ifCond .lt 15, 3) := dq_155 (kX4_get_0 5 rfl) (kX4_get_0 6 rfl) (kX4_get_0 7 rfl) (by decide)
theorem dX4_get_8 : decode cX4_get 8 = .ok (.iload_n 1, 1) := dq_27 (kX4_get_0 8 rfl)
theorem dX4_get_9 : decode cX4_get 9 = .ok (.aload_n 0, 1) := dq_42 (kX4_get_0 9 rfl)
theorem dX4_get_10 : decode cX4_get 10 = .ok (.arraylength, 1) := dq_190 (kX4_get_0 10 rfl)
theorem dX4_get_11 : decode cX4_get 11 = .ok (.if_icmp .ge 9, 3) := dq_162 (kX4_get_0 11 rfl) (kX4_get_0 12 rfl) (kX4_get_0 13 rfl) (by decide)
theorem dX4_get_14 : decode cX4_get 14 = .ok (.aload_n 0, 1) := dq_42 (kX4_get_0 14 rfl)
theorem dX4_get_15 : decode cX4_get 15 = .ok (.iload_n 1, 1) := dq_27 (kX4_get_0 15 rfl)
theorem dX4_get_16 : decode cX4_get 16 = .ok (.iaload, 1) := dq_46 (kX4_get_0 16 rfl)
theorem dX4_get_17 : decode cX4_get 17 = .ok (.goto 4, 3) := dq_167 (kX4_get_0 17 rfl) (kX4_get_0 18 rfl) (kX4_get_0 19 rfl) (by decide)
theorem dX4_get_20 : decode cX4_get 20 = .ok (.iconst 0, 1) := dq_3 (kX4_get_0 20 rfl)
theorem dX4_get_21 : decode cX4_get 21 = .ok (.ireturn, 1) := dq_172 (kX4_get_0 21 rfl)

def bX4_put_0 : List UInt8 := [42, 198, 0, 17, 27, 155, 0, 13, 27, 42, 190, 162, 0, 7, 42, 27, 28, 79, 177]
theorem kX4_put_0 (j : Nat) {b : UInt8} (hj : bX4_put_0[j]? = some b) : AtB cX4_put (0 + j) b := at_of32 (by decide +kernel) j hj
theorem dX4_put_0 : decode cX4_put 0 = .ok (.aload_n 0, 1) := dq_42 (kX4_put_0 0 rfl)
theorem dX4_put_1 : decode cX4_put 1 = .ok (.ifnull 17, 3) := dq_198 (kX4_put_0 1 rfl) (kX4_put_0 2 rfl) (kX4_put_0 3 rfl) (by decide)
theorem dX4_put_4 : decode cX4_put 4 = .ok (.iload_n 1, 1) := dq_27 (kX4_put_0 4 rfl)
theorem dX4_put_5 : decode cX4_put 5 = .ok (.ifCond .lt 13, 3) := dq_155 (kX4_put_0 5 rfl) (kX4_put_0 6 rfl) (kX4_put_0 7 rfl) (by decide)
theorem dX4_put_8 : decode cX4_put 8 = .ok (.iload_n 1, 1) := dq_27 (kX4_put_0 8 rfl)
theorem dX4_put_9 : decode cX4_put 9 = .ok (.aload_n 0, 1) := dq_42 (kX4_put_0 9 rfl)
theorem dX4_put_10 : decode cX4_put 10 = .ok (.arraylength, 1) := dq_190 (kX4_put_0 10 rfl)
theorem dX4_put_11 : decode cX4_put 11 = .ok (.if_icmp .ge 7, 3) := dq_162 (kX4_put_0 11 rfl) (kX4_put_0 12 rfl) (kX4_put_0 13 rfl) (by decide)
theorem dX4_put_14 : decode cX4_put 14 = .ok (.aload_n 0, 1) := dq_42 (kX4_put_0 14 rfl)
theorem dX4_put_15 : decode cX4_put 15 = .ok (.iload_n 1, 1) := dq_27 (kX4_put_0 15 rfl)
theorem dX4_put_16 : decode cX4_put 16 = .ok (.iload_n 2, 1) := dq_28 (kX4_put_0 16 rfl)
theorem dX4_put_17 : decode cX4_put 17 = .ok (.iastore, 1) := dq_79 (kX4_put_0 17 rfl)
theorem dX4_put_18 : decode cX4_put 18 = .ok (.return_, 1) := dq_177 (kX4_put_0 18 rfl)

def bX4_add_0 : List UInt8 := [42, 27, 42, 27, 184, 0, 7, 28, 96, 184, 0, 13, 177]
theorem kX4_add_0 (j : Nat) {b : UInt8} (hj : bX4_add_0[j]? = some b) : AtB cX4_add (0 + j) b := at_of32 (by decide +kernel) j hj
theorem dX4_add_0 : decode cX4_add 0 = .ok (.aload_n 0, 1) := dq_42 (kX4_add_0 0 rfl)
theorem dX4_add_1 : decode cX4_add 1 = .ok (.iload_n 1, 1) := dq_27 (kX4_add_0 1 rfl)
theorem dX4_add_2 : decode cX4_add 2 = .ok (.aload_n 0, 1) := dq_42 (kX4_add_0 2 rfl)
theorem dX4_add_3 : decode cX4_add 3 = .ok (.iload_n 1, 1) := dq_27 (kX4_add_0 3 rfl)
theorem dX4_add_4 : decode cX4_add 4 = .ok (.invokestatic 7, 3) := dq_184 (kX4_add_0 4 rfl) (kX4_add_0 5 rfl) (kX4_add_0 6 rfl) rfl
theorem dX4_add_7 : decode cX4_add 7 = .ok (.iload_n 2, 1) := dq_28 (kX4_add_0 7 rfl)
theorem dX4_add_8 : decode cX4_add 8 = .ok (.iadd, 1) := dq_96 (kX4_add_0 8 rfl)
theorem dX4_add_9 : decode cX4_add 9 = .ok (.invokestatic 13, 3) := dq_184 (kX4_add_0 9 rfl) (kX4_add_0 10 rfl) (kX4_add_0 11 rfl) rfl
theorem dX4_add_12 : decode cX4_add 12 = .ok (.return_, 1) := dq_177 (kX4_add_0 12 rfl)

def bX4_fill_0 : List UInt8 := [42, 199, 0, 4, 177, 3, 61, 28, 42, 190, 162, 0, 13, 42, 28, 27, 79, 132, 2, 1, 167, 255, 243, 177]
theorem kX4_fill_0 (j : Nat) {b : UInt8} (hj : bX4_fill_0[j]? = some b) : AtB cX4_fill (0 + j) b := at_of32 (by decide +kernel) j hj
theorem dX4_fill_0 : decode cX4_fill 0 = .ok (.aload_n 0, 1) := dq_42 (kX4_fill_0 0 rfl)
theorem dX4_fill_1 : decode cX4_fill 1 = .ok (.ifnonnull 4, 3) := dq_199 (kX4_fill_0 1 rfl) (kX4_fill_0 2 rfl) (kX4_fill_0 3 rfl) (by decide)
theorem dX4_fill_4 : decode cX4_fill 4 = .ok (.return_, 1) := dq_177 (kX4_fill_0 4 rfl)
theorem dX4_fill_5 : decode cX4_fill 5 = .ok (.iconst 0, 1) := dq_3 (kX4_fill_0 5 rfl)
theorem dX4_fill_6 : decode cX4_fill 6 = .ok (.istore_n 2, 1) := dq_61 (kX4_fill_0 6 rfl)
theorem dX4_fill_7 : decode cX4_fill 7 = .ok (.iload_n 2, 1) := dq_28 (kX4_fill_0 7 rfl)
theorem dX4_fill_8 : decode cX4_fill 8 = .ok (.aload_n 0, 1) := dq_42 (kX4_fill_0 8 rfl)
theorem dX4_fill_9 : decode cX4_fill 9 = .ok (.arraylength, 1) := dq_190 (kX4_fill_0 9 rfl)
theorem dX4_fill_10 : decode cX4_fill 10 = .ok (.if_icmp .ge 13, 3) := dq_162 (kX4_fill_0 10 rfl) (kX4_fill_0 11 rfl) (kX4_fill_0 12 rfl) (by decide)
theorem dX4_fill_13 : decode cX4_fill 13 = .ok (.aload_n 0, 1) := dq_42 (kX4_fill_0 13 rfl)
theorem dX4_fill_14 : decode cX4_fill 14 = .ok (.iload_n 2, 1) := dq_28 (kX4_fill_0 14 rfl)
theorem dX4_fill_15 : decode cX4_fill 15 = .ok (.iload_n 1, 1) := dq_27 (kX4_fill_0 15 rfl)
theorem dX4_fill_16 : decode cX4_fill 16 = .ok (.iastore, 1) := dq_79 (kX4_fill_0 16 rfl)
theorem dX4_fill_17 : decode cX4_fill 17 = .ok (.iinc 2 1, 3) := dq_132 (kX4_fill_0 17 rfl) (kX4_fill_0 18 rfl) (kX4_fill_0 19 rfl) rfl (by decide)
theorem dX4_fill_20 : decode cX4_fill 20 = .ok (.goto (-13), 3) := dq_167 (kX4_fill_0 20 rfl) (kX4_fill_0 21 rfl) (kX4_fill_0 22 rfl) (by decide)
theorem dX4_fill_23 : decode cX4_fill 23 = .ok (.return_, 1) := dq_177 (kX4_fill_0 23 rfl)

def bX5_init_0 : List UInt8 := [42, 183, 0, 3, 42, 3, 181, 0, 9, 42, 3, 181, 0, 15, 42, 3, 181, 0, 18, 42, 3, 181, 0, 21, 42, 43, 181, 0, 24, 42, 28, 181]
theorem kX5_init_0 (j : Nat) {b : UInt8} (hj : bX5_init_0[j]? = some b) : AtB cX5_init (0 + j) b := at_of32 (by decide +kernel) j hj
def bX5_init_1 : List UInt8 := [0, 28, 42, 45, 181, 0, 31, 177]
theorem kX5_init_1 (j : Nat) {b : UInt8} (hj : bX5_init_1[j]? = some b) : AtB cX5_init (32 + j) b := at_of32 (by decide +kernel) j hj
theorem dX5_init_0 : decode cX5_init 0 = .ok (.aload_n 0, 1) := dq_42 (kX5_init_0 0 rfl)
theorem dX5_init_1 : decode cX5_init 1 = .ok (.invokespecial 3, 3) := dq_183 (kX5_init_0 1 rfl) (kX5_init_0 2 rfl) (kX5_init_0 3 rfl) rfl
theorem dX5_init_4 : decode cX5_init 4 = .ok (.aload_n 0, 1) := dq_42 (kX5_init_0 4 rfl)
theorem dX5_init_5 : decode cX5_init 5 = .ok (.iconst 0, 1) := dq_3 (kX5_init_0 5 rfl)
theorem dX5_init_6 : decode cX5_init 6 = .ok (.putfield 9, 3) := dq_181 (kX5_init_0 6 rfl) (kX5_init_0 7 rfl) (kX5_init_0 8 rfl) rfl
theorem dX5_init_9 : decode cX5_init 9 = .ok (.aload_n 0, 1) := dq_42 (kX5_init_0 9 rfl)
theorem dX5_init_10 : decode cX5_init 10 = .ok (.iconst 0, 1) := dq_3 (kX5_init_0 10 rfl)
theorem dX5_init_11 : decode cX5_init 11 = .ok (.putfield 15, 3) := dq_181 (kX5_init_0 11 rfl) (kX5_init_0 12 rfl) (kX5_init_0 13 rfl) rfl
theorem dX5_init_14 : decode cX5_init 14 = .ok (.aload_n 0, 1) := dq_42 (kX5_init_0 14 rfl)
theorem dX5_init_15 : decode cX5_init 15 = .ok (.iconst 0, 1) := dq_3 (kX5_init_0 15 rfl)
theorem dX5_init_16 : decode cX5_init 16 = .ok (.putfield 18, 3) := dq_181 (kX5_init_0 16 rfl) (kX5_init_0 17 rfl) (kX5_init_0 18 rfl) rfl
theorem dX5_init_19 : decode cX5_init 19 = .ok (.aload_n 0, 1) := dq_42 (kX5_init_0 19 rfl)
theorem dX5_init_20 : decode cX5_init 20 = .ok (.iconst 0, 1) := dq_3 (kX5_init_0 20 rfl)
theorem dX5_init_21 : decode cX5_init 21 = .ok (.putfield 21, 3) := dq_181 (kX5_init_0 21 rfl) (kX5_init_0 22 rfl) (kX5_init_0 23 rfl) rfl
theorem dX5_init_24 : decode cX5_init 24 = .ok (.aload_n 0, 1) := dq_42 (kX5_init_0 24 rfl)
theorem dX5_init_25 : decode cX5_init 25 = .ok (.aload_n 1, 1) := dq_43 (kX5_init_0 25 rfl)
theorem dX5_init_26 : decode cX5_init 26 = .ok (.putfield 24, 3) := dq_181 (kX5_init_0 26 rfl) (kX5_init_0 27 rfl) (kX5_init_0 28 rfl) rfl
theorem dX5_init_29 : decode cX5_init 29 = .ok (.aload_n 0, 1) := dq_42 (kX5_init_0 29 rfl)
theorem dX5_init_30 : decode cX5_init 30 = .ok (.iload_n 2, 1) := dq_28 (kX5_init_0 30 rfl)
theorem dX5_init_31 : decode cX5_init 31 = .ok (.putfield 28, 3) := dq_181 (kX5_init_0 31 rfl) (kX5_init_1 0 rfl) (kX5_init_1 1 rfl) rfl
theorem dX5_init_34 : decode cX5_init 34 = .ok (.aload_n 0, 1) := dq_42 (kX5_init_1 2 rfl)
theorem dX5_init_35 : decode cX5_init 35 = .ok (.aload_n 3, 1) := dq_45 (kX5_init_1 3 rfl)
theorem dX5_init_36 : decode cX5_init 36 = .ok (.putfield 31, 3) := dq_181 (kX5_init_1 4 rfl) (kX5_init_1 5 rfl) (kX5_init_1 6 rfl) rfl
theorem dX5_init_39 : decode cX5_init 39 = .ok (.return_, 1) := dq_177 (kX5_init_1 7 rfl)

def bX5_faultAnswer_0 : List UInt8 := [17, 252, 24, 42, 180, 0, 18, 104, 42, 180, 0, 21, 100, 172]
theorem kX5_faultAnswer_0 (j : Nat) {b : UInt8} (hj : bX5_faultAnswer_0[j]? = some b) : AtB cX5_faultAnswer (0 + j) b := at_of32 (by decide +kernel) j hj
theorem dX5_faultAnswer_0 : decode cX5_faultAnswer 0 = .ok (.sipush (-1000), 3) := dq_17 (kX5_faultAnswer_0 0 rfl) (kX5_faultAnswer_0 1 rfl) (kX5_faultAnswer_0 2 rfl) (by decide)
theorem dX5_faultAnswer_3 : decode cX5_faultAnswer 3 = .ok (.aload_n 0, 1) := dq_42 (kX5_faultAnswer_0 3 rfl)
theorem dX5_faultAnswer_4 : decode cX5_faultAnswer 4 = .ok (.getfield 18, 3) := dq_180 (kX5_faultAnswer_0 4 rfl) (kX5_faultAnswer_0 5 rfl) (kX5_faultAnswer_0 6 rfl) rfl
theorem dX5_faultAnswer_7 : decode cX5_faultAnswer 7 = .ok (.imul, 1) := dq_104 (kX5_faultAnswer_0 7 rfl)
theorem dX5_faultAnswer_8 : decode cX5_faultAnswer 8 = .ok (.aload_n 0, 1) := dq_42 (kX5_faultAnswer_0 8 rfl)
theorem dX5_faultAnswer_9 : decode cX5_faultAnswer 9 = .ok (.getfield 21, 3) := dq_180 (kX5_faultAnswer_0 9 rfl) (kX5_faultAnswer_0 10 rfl) (kX5_faultAnswer_0 11 rfl) rfl
theorem dX5_faultAnswer_12 : decode cX5_faultAnswer 12 = .ok (.isub, 1) := dq_100 (kX5_faultAnswer_0 12 rfl)
theorem dX5_faultAnswer_13 : decode cX5_faultAnswer 13 = .ok (.ireturn, 1) := dq_172 (kX5_faultAnswer_0 13 rfl)

def bX5_writeText_0 : List UInt8 := [3, 60, 27, 16, 12, 163, 0, 45, 42, 180, 0, 18, 154, 0, 38, 42, 182, 0, 35, 42, 180, 0, 18, 154, 0, 14, 42, 180, 0, 9, 42, 180]
theorem kX5_writeText_0 (j : Nat) {b : UInt8} (hj : bX5_writeText_0[j]? = some b) : AtB cX5_writeText (0 + j) b := at_of32 (by decide +kernel) j hj
def bX5_writeText_1 : List UInt8 := [0, 28, 161, 0, 4, 177, 42, 16, 59, 182, 0, 38, 132, 1, 1, 167, 255, 211, 177]
theorem kX5_writeText_1 (j : Nat) {b : UInt8} (hj : bX5_writeText_1[j]? = some b) : AtB cX5_writeText (32 + j) b := at_of32 (by decide +kernel) j hj
theorem dX5_writeText_0 : decode cX5_writeText 0 = .ok (.iconst 0, 1) := dq_3 (kX5_writeText_0 0 rfl)
theorem dX5_writeText_1 : decode cX5_writeText 1 = .ok (.istore_n 1, 1) := dq_60 (kX5_writeText_0 1 rfl)
theorem dX5_writeText_2 : decode cX5_writeText 2 = .ok (.iload_n 1, 1) := dq_27 (kX5_writeText_0 2 rfl)
theorem dX5_writeText_3 : decode cX5_writeText 3 = .ok (.bipush 12, 2) := dq_16 (kX5_writeText_0 3 rfl) (kX5_writeText_0 4 rfl) (by decide)
theorem dX5_writeText_5 : decode cX5_writeText 5 = .ok (.if_icmp .gt 45, 3) := dq_163 (kX5_writeText_0 5 rfl) (kX5_writeText_0 6 rfl) (kX5_writeText_0 7 rfl) (by decide)
theorem dX5_writeText_8 : decode cX5_writeText 8 = .ok (.aload_n 0, 1) := dq_42 (kX5_writeText_0 8 rfl)
theorem dX5_writeText_9 : decode cX5_writeText 9 = .ok (.getfield 18, 3) := dq_180 (kX5_writeText_0 9 rfl) (kX5_writeText_0 10 rfl) (kX5_writeText_0 11 rfl) rfl
theorem dX5_writeText_12 : decode cX5_writeText 12 = .ok (.ifCond .ne 38, 3) := dq_154 (kX5_writeText_0 12 rfl) (kX5_writeText_0 13 rfl) (kX5_writeText_0 14 rfl) (by decide)
theorem dX5_writeText_15 : decode cX5_writeText 15 = .ok (.aload_n 0, 1) := dq_42 (kX5_writeText_0 15 rfl)
theorem dX5_writeText_16 : decode cX5_writeText 16 = .ok (.invokevirtual 35, 3) := dq_182 (kX5_writeText_0 16 rfl) (kX5_writeText_0 17 rfl) (kX5_writeText_0 18 rfl) rfl
theorem dX5_writeText_19 : decode cX5_writeText 19 = .ok (.aload_n 0, 1) := dq_42 (kX5_writeText_0 19 rfl)
theorem dX5_writeText_20 : decode cX5_writeText 20 = .ok (.getfield 18, 3) := dq_180 (kX5_writeText_0 20 rfl) (kX5_writeText_0 21 rfl) (kX5_writeText_0 22 rfl) rfl
theorem dX5_writeText_23 : decode cX5_writeText 23 = .ok (.ifCond .ne 14, 3) := dq_154 (kX5_writeText_0 23 rfl) (kX5_writeText_0 24 rfl) (kX5_writeText_0 25 rfl) (by decide)
theorem dX5_writeText_26 : decode cX5_writeText 26 = .ok (.aload_n 0, 1) := dq_42 (kX5_writeText_0 26 rfl)
theorem dX5_writeText_27 : decode cX5_writeText 27 = .ok (.getfield 9, 3) := dq_180 (kX5_writeText_0 27 rfl) (kX5_writeText_0 28 rfl) (kX5_writeText_0 29 rfl) rfl
theorem dX5_writeText_30 : decode cX5_writeText 30 = .ok (.aload_n 0, 1) := dq_42 (kX5_writeText_0 30 rfl)
theorem dX5_writeText_31 : decode cX5_writeText 31 = .ok (.getfield 28, 3) := dq_180 (kX5_writeText_0 31 rfl) (kX5_writeText_1 0 rfl) (kX5_writeText_1 1 rfl) rfl
theorem dX5_writeText_34 : decode cX5_writeText 34 = .ok (.if_icmp .lt 4, 3) := dq_161 (kX5_writeText_1 2 rfl) (kX5_writeText_1 3 rfl) (kX5_writeText_1 4 rfl) (by decide)
theorem dX5_writeText_37 : decode cX5_writeText 37 = .ok (.return_, 1) := dq_177 (kX5_writeText_1 5 rfl)
theorem dX5_writeText_38 : decode cX5_writeText 38 = .ok (.aload_n 0, 1) := dq_42 (kX5_writeText_1 6 rfl)
theorem dX5_writeText_39 : decode cX5_writeText 39 = .ok (.bipush 59, 2) := dq_16 (kX5_writeText_1 7 rfl) (kX5_writeText_1 8 rfl) (by decide)
theorem dX5_writeText_41 : decode cX5_writeText 41 = .ok (.invokevirtual 38, 3) := dq_182 (kX5_writeText_1 9 rfl) (kX5_writeText_1 10 rfl) (kX5_writeText_1 11 rfl) rfl
theorem dX5_writeText_44 : decode cX5_writeText 44 = .ok (.iinc 1 1, 3) := dq_132 (kX5_writeText_1 12 rfl) (kX5_writeText_1 13 rfl) (kX5_writeText_1 14 rfl) rfl (by decide)
theorem dX5_writeText_47 : decode cX5_writeText 47 = .ok (.goto (-45), 3) := dq_167 (kX5_writeText_1 15 rfl) (kX5_writeText_1 16 rfl) (kX5_writeText_1 17 rfl) (by decide)
theorem dX5_writeText_50 : decode cX5_writeText 50 = .ok (.return_, 1) := dq_177 (kX5_writeText_1 18 rfl)

def bX5_writeReading_0 : List UInt8 := [42, 180, 0, 31, 180, 0, 42, 16, 40, 3, 3, 3, 3, 182, 0, 48, 87, 42, 182, 0, 54, 42, 180, 0, 9, 42, 180, 0, 28, 162, 0, 12]
theorem kX5_writeReading_0 (j : Nat) {b : UInt8} (hj : bX5_writeReading_0[j]? = some b) : AtB cX5_writeReading (0 + j) b := at_of32 (by decide +kernel) j hj
def bX5_writeReading_1 : List UInt8 := [42, 4, 42, 180, 0, 9, 182, 0, 57, 177]
theorem kX5_writeReading_1 (j : Nat) {b : UInt8} (hj : bX5_writeReading_1[j]? = some b) : AtB cX5_writeReading (32 + j) b := at_of32 (by decide +kernel) j hj
theorem dX5_writeReading_0 : decode cX5_writeReading 0 = .ok (.aload_n 0, 1) := dq_42 (kX5_writeReading_0 0 rfl)
theorem dX5_writeReading_1 : decode cX5_writeReading 1 = .ok (.getfield 31, 3) := dq_180 (kX5_writeReading_0 1 rfl) (kX5_writeReading_0 2 rfl) (kX5_writeReading_0 3 rfl) rfl
theorem dX5_writeReading_4 : decode cX5_writeReading 4 = .ok (.getfield 42, 3) := dq_180 (kX5_writeReading_0 4 rfl) (kX5_writeReading_0 5 rfl) (kX5_writeReading_0 6 rfl) rfl
theorem dX5_writeReading_7 : decode cX5_writeReading 7 = .ok (.bipush 40, 2) := dq_16 (kX5_writeReading_0 7 rfl) (kX5_writeReading_0 8 rfl) (by decide)
theorem dX5_writeReading_9 : decode cX5_writeReading 9 = .ok (.iconst 0, 1) := dq_3 (kX5_writeReading_0 9 rfl)
theorem dX5_writeReading_10 : decode cX5_writeReading 10 = .ok (.iconst 0, 1) := dq_3 (kX5_writeReading_0 10 rfl)
theorem dX5_writeReading_11 : decode cX5_writeReading 11 = .ok (.iconst 0, 1) := dq_3 (kX5_writeReading_0 11 rfl)
theorem dX5_writeReading_12 : decode cX5_writeReading 12 = .ok (.iconst 0, 1) := dq_3 (kX5_writeReading_0 12 rfl)
theorem dX5_writeReading_13 : decode cX5_writeReading 13 = .ok (.invokevirtual 48, 3) := dq_182 (kX5_writeReading_0 13 rfl) (kX5_writeReading_0 14 rfl) (kX5_writeReading_0 15 rfl) rfl
theorem dX5_writeReading_16 : decode cX5_writeReading 16 = .ok (.pop, 1) := dq_87 (kX5_writeReading_0 16 rfl)
theorem dX5_writeReading_17 : decode cX5_writeReading 17 = .ok (.aload_n 0, 1) := dq_42 (kX5_writeReading_0 17 rfl)
theorem dX5_writeReading_18 : decode cX5_writeReading 18 = .ok (.invokevirtual 54, 3) := dq_182 (kX5_writeReading_0 18 rfl) (kX5_writeReading_0 19 rfl) (kX5_writeReading_0 20 rfl) rfl
theorem dX5_writeReading_21 : decode cX5_writeReading 21 = .ok (.aload_n 0, 1) := dq_42 (kX5_writeReading_0 21 rfl)
theorem dX5_writeReading_22 : decode cX5_writeReading 22 = .ok (.getfield 9, 3) := dq_180 (kX5_writeReading_0 22 rfl) (kX5_writeReading_0 23 rfl) (kX5_writeReading_0 24 rfl) rfl
theorem dX5_writeReading_25 : decode cX5_writeReading 25 = .ok (.aload_n 0, 1) := dq_42 (kX5_writeReading_0 25 rfl)
theorem dX5_writeReading_26 : decode cX5_writeReading 26 = .ok (.getfield 28, 3) := dq_180 (kX5_writeReading_0 26 rfl) (kX5_writeReading_0 27 rfl) (kX5_writeReading_0 28 rfl) rfl
theorem dX5_writeReading_29 : decode cX5_writeReading 29 = .ok (.if_icmp .ge 12, 3) := dq_162 (kX5_writeReading_0 29 rfl) (kX5_writeReading_0 30 rfl) (kX5_writeReading_0 31 rfl) (by decide)
theorem dX5_writeReading_32 : decode cX5_writeReading 32 = .ok (.aload_n 0, 1) := dq_42 (kX5_writeReading_1 0 rfl)
theorem dX5_writeReading_33 : decode cX5_writeReading 33 = .ok (.iconst 1, 1) := dq_4 (kX5_writeReading_1 1 rfl)
theorem dX5_writeReading_34 : decode cX5_writeReading 34 = .ok (.aload_n 0, 1) := dq_42 (kX5_writeReading_1 2 rfl)
theorem dX5_writeReading_35 : decode cX5_writeReading 35 = .ok (.getfield 9, 3) := dq_180 (kX5_writeReading_1 3 rfl) (kX5_writeReading_1 4 rfl) (kX5_writeReading_1 5 rfl) rfl
theorem dX5_writeReading_38 : decode cX5_writeReading 38 = .ok (.invokevirtual 57, 3) := dq_182 (kX5_writeReading_1 6 rfl) (kX5_writeReading_1 7 rfl) (kX5_writeReading_1 8 rfl) rfl
theorem dX5_writeReading_41 : decode cX5_writeReading 41 = .ok (.return_, 1) := dq_177 (kX5_writeReading_1 9 rfl)

def bX5_clause_0 : List UInt8 := [42, 182, 0, 61, 60, 27, 184, 0, 65, 154, 0, 13, 42, 4, 42, 180, 0, 9, 182, 0, 57, 177, 42, 180, 0, 31, 180, 0, 42, 27, 3, 3]
theorem kX5_clause_0 (j : Nat) {b : UInt8} (hj : bX5_clause_0[j]? = some b) : AtB cX5_clause (0 + j) b := at_of32 (by decide +kernel) j hj
def bX5_clause_1 : List UInt8 := [3, 3, 182, 0, 48, 2, 160, 0, 13, 42, 7, 42, 180, 0, 9, 182, 0, 57, 177, 42, 89, 180, 0, 9, 4, 96, 181, 0, 9, 27, 16, 107]
theorem kX5_clause_1 (j : Nat) {b : UInt8} (hj : bX5_clause_1[j]? = some b) : AtB cX5_clause (32 + j) b := at_of32 (by decide +kernel) j hj
def bX5_clause_2 : List UInt8 := [160, 0, 38, 42, 5, 42, 6, 182, 0, 69, 182, 0, 73, 42, 16, 46, 182, 0, 38, 42, 6, 42, 6, 182, 0, 69, 182, 0, 73, 42, 16, 61]
theorem kX5_clause_2 (j : Nat) {b : UInt8} (hj : bX5_clause_2[j]? = some b) : AtB cX5_clause (64 + j) b := at_of32 (by decide +kernel) j hj
def bX5_clause_3 : List UInt8 := [182, 0, 38, 167, 0, 74, 27, 16, 120, 160, 0, 34, 42, 5, 42, 16, 19, 182, 0, 69, 182, 0, 73, 42, 16, 46, 182, 0, 38, 42, 6, 42]
theorem kX5_clause_3 (j : Nat) {b : UInt8} (hj : bX5_clause_3[j]? = some b) : AtB cX5_clause (96 + j) b := at_of32 (by decide +kernel) j hj
def bX5_clause_4 : List UInt8 := [16, 11, 182, 0, 69, 182, 0, 73, 167, 0, 37, 27, 16, 102, 159, 0, 27, 27, 16, 108, 159, 0, 21, 27, 16, 110, 159, 0, 15, 27, 16, 115]
theorem kX5_clause_4 (j : Nat) {b : UInt8} (hj : bX5_clause_4[j]? = some b) : AtB cX5_clause (128 + j) b := at_of32 (by decide +kernel) j hj
def bX5_clause_5 : List UInt8 := [159, 0, 9, 27, 16, 99, 160, 0, 7, 42, 182, 0, 54, 27, 16, 110, 159, 0, 33, 27, 16, 115, 159, 0, 27, 27, 16, 97, 159, 0, 21, 27]
theorem kX5_clause_5 (j : Nat) {b : UInt8} (hj : bX5_clause_5[j]? = some b) : AtB cX5_clause (160 + j) b := at_of32 (by decide +kernel) j hj
def bX5_clause_6 : List UInt8 := [16, 113, 159, 0, 15, 27, 16, 107, 159, 0, 9, 27, 16, 103, 160, 0, 14, 42, 4, 42, 18, 76, 182, 0, 69, 182, 0, 73, 177]
theorem kX5_clause_6 (j : Nat) {b : UInt8} (hj : bX5_clause_6[j]? = some b) : AtB cX5_clause (192 + j) b := at_of32 (by decide +kernel) j hj
theorem dX5_clause_0 : decode cX5_clause 0 = .ok (.aload_n 0, 1) := dq_42 (kX5_clause_0 0 rfl)
theorem dX5_clause_1 : decode cX5_clause 1 = .ok (.invokevirtual 61, 3) := dq_182 (kX5_clause_0 1 rfl) (kX5_clause_0 2 rfl) (kX5_clause_0 3 rfl) rfl
theorem dX5_clause_4 : decode cX5_clause 4 = .ok (.istore_n 1, 1) := dq_60 (kX5_clause_0 4 rfl)
theorem dX5_clause_5 : decode cX5_clause 5 = .ok (.iload_n 1, 1) := dq_27 (kX5_clause_0 5 rfl)
theorem dX5_clause_6 : decode cX5_clause 6 = .ok (.invokestatic 65, 3) := dq_184 (kX5_clause_0 6 rfl) (kX5_clause_0 7 rfl) (kX5_clause_0 8 rfl) rfl
theorem dX5_clause_9 : decode cX5_clause 9 = .ok (.ifCond .ne 13, 3) := dq_154 (kX5_clause_0 9 rfl) (kX5_clause_0 10 rfl) (kX5_clause_0 11 rfl) (by decide)
theorem dX5_clause_12 : decode cX5_clause 12 = .ok (.aload_n 0, 1) := dq_42 (kX5_clause_0 12 rfl)
theorem dX5_clause_13 : decode cX5_clause 13 = .ok (.iconst 1, 1) := dq_4 (kX5_clause_0 13 rfl)
theorem dX5_clause_14 : decode cX5_clause 14 = .ok (.aload_n 0, 1) := dq_42 (kX5_clause_0 14 rfl)
theorem dX5_clause_15 : decode cX5_clause 15 = .ok (.getfield 9, 3) := dq_180 (kX5_clause_0 15 rfl) (kX5_clause_0 16 rfl) (kX5_clause_0 17 rfl) rfl
theorem dX5_clause_18 : decode cX5_clause 18 = .ok (.invokevirtual 57, 3) := dq_182 (kX5_clause_0 18 rfl) (kX5_clause_0 19 rfl) (kX5_clause_0 20 rfl) rfl
theorem dX5_clause_21 : decode cX5_clause 21 = .ok (.return_, 1) := dq_177 (kX5_clause_0 21 rfl)
theorem dX5_clause_22 : decode cX5_clause 22 = .ok (.aload_n 0, 1) := dq_42 (kX5_clause_0 22 rfl)
theorem dX5_clause_23 : decode cX5_clause 23 = .ok (.getfield 31, 3) := dq_180 (kX5_clause_0 23 rfl) (kX5_clause_0 24 rfl) (kX5_clause_0 25 rfl) rfl
theorem dX5_clause_26 : decode cX5_clause 26 = .ok (.getfield 42, 3) := dq_180 (kX5_clause_0 26 rfl) (kX5_clause_0 27 rfl) (kX5_clause_0 28 rfl) rfl
theorem dX5_clause_29 : decode cX5_clause 29 = .ok (.iload_n 1, 1) := dq_27 (kX5_clause_0 29 rfl)
theorem dX5_clause_30 : decode cX5_clause 30 = .ok (.iconst 0, 1) := dq_3 (kX5_clause_0 30 rfl)
theorem dX5_clause_31 : decode cX5_clause 31 = .ok (.iconst 0, 1) := dq_3 (kX5_clause_0 31 rfl)
theorem dX5_clause_32 : decode cX5_clause 32 = .ok (.iconst 0, 1) := dq_3 (kX5_clause_1 0 rfl)
theorem dX5_clause_33 : decode cX5_clause 33 = .ok (.iconst 0, 1) := dq_3 (kX5_clause_1 1 rfl)
theorem dX5_clause_34 : decode cX5_clause 34 = .ok (.invokevirtual 48, 3) := dq_182 (kX5_clause_1 2 rfl) (kX5_clause_1 3 rfl) (kX5_clause_1 4 rfl) rfl
theorem dX5_clause_37 : decode cX5_clause 37 = .ok (.iconst (-1), 1) := dq_2 (kX5_clause_1 5 rfl)
theorem dX5_clause_38 : decode cX5_clause 38 = .ok (.if_icmp .ne 13, 3) := dq_160 (kX5_clause_1 6 rfl) (kX5_clause_1 7 rfl) (kX5_clause_1 8 rfl) (by decide)
theorem dX5_clause_41 : decode cX5_clause 41 = .ok (.aload_n 0, 1) := dq_42 (kX5_clause_1 9 rfl)
theorem dX5_clause_42 : decode cX5_clause 42 = .ok (.iconst 4, 1) := dq_7 (kX5_clause_1 10 rfl)
theorem dX5_clause_43 : decode cX5_clause 43 = .ok (.aload_n 0, 1) := dq_42 (kX5_clause_1 11 rfl)
theorem dX5_clause_44 : decode cX5_clause 44 = .ok (.getfield 9, 3) := dq_180 (kX5_clause_1 12 rfl) (kX5_clause_1 13 rfl) (kX5_clause_1 14 rfl) rfl
theorem dX5_clause_47 : decode cX5_clause 47 = .ok (.invokevirtual 57, 3) := dq_182 (kX5_clause_1 15 rfl) (kX5_clause_1 16 rfl) (kX5_clause_1 17 rfl) rfl
theorem dX5_clause_50 : decode cX5_clause 50 = .ok (.return_, 1) := dq_177 (kX5_clause_1 18 rfl)
theorem dX5_clause_51 : decode cX5_clause 51 = .ok (.aload_n 0, 1) := dq_42 (kX5_clause_1 19 rfl)
theorem dX5_clause_52 : decode cX5_clause 52 = .ok (.dup, 1) := dq_89 (kX5_clause_1 20 rfl)
theorem dX5_clause_53 : decode cX5_clause 53 = .ok (.getfield 9, 3) := dq_180 (kX5_clause_1 21 rfl) (kX5_clause_1 22 rfl) (kX5_clause_1 23 rfl) rfl
theorem dX5_clause_56 : decode cX5_clause 56 = .ok (.iconst 1, 1) := dq_4 (kX5_clause_1 24 rfl)
theorem dX5_clause_57 : decode cX5_clause 57 = .ok (.iadd, 1) := dq_96 (kX5_clause_1 25 rfl)
theorem dX5_clause_58 : decode cX5_clause 58 = .ok (.putfield 9, 3) := dq_181 (kX5_clause_1 26 rfl) (kX5_clause_1 27 rfl) (kX5_clause_1 28 rfl) rfl
theorem dX5_clause_61 : decode cX5_clause 61 = .ok (.iload_n 1, 1) := dq_27 (kX5_clause_1 29 rfl)
theorem dX5_clause_62 : decode cX5_clause 62 = .ok (.bipush 107, 2) := dq_16 (kX5_clause_1 30 rfl) (kX5_clause_1 31 rfl) (by decide)
theorem dX5_clause_64 : decode cX5_clause 64 = .ok (.if_icmp .ne 38, 3) := dq_160 (kX5_clause_2 0 rfl) (kX5_clause_2 1 rfl) (kX5_clause_2 2 rfl) (by decide)
theorem dX5_clause_67 : decode cX5_clause 67 = .ok (.aload_n 0, 1) := dq_42 (kX5_clause_2 3 rfl)
theorem dX5_clause_68 : decode cX5_clause 68 = .ok (.iconst 2, 1) := dq_5 (kX5_clause_2 4 rfl)
theorem dX5_clause_69 : decode cX5_clause 69 = .ok (.aload_n 0, 1) := dq_42 (kX5_clause_2 5 rfl)
theorem dX5_clause_70 : decode cX5_clause 70 = .ok (.iconst 3, 1) := dq_6 (kX5_clause_2 6 rfl)
theorem dX5_clause_71 : decode cX5_clause 71 = .ok (.invokevirtual 69, 3) := dq_182 (kX5_clause_2 7 rfl) (kX5_clause_2 8 rfl) (kX5_clause_2 9 rfl) rfl
theorem dX5_clause_74 : decode cX5_clause 74 = .ok (.invokevirtual 73, 3) := dq_182 (kX5_clause_2 10 rfl) (kX5_clause_2 11 rfl) (kX5_clause_2 12 rfl) rfl
theorem dX5_clause_77 : decode cX5_clause 77 = .ok (.aload_n 0, 1) := dq_42 (kX5_clause_2 13 rfl)
theorem dX5_clause_78 : decode cX5_clause 78 = .ok (.bipush 46, 2) := dq_16 (kX5_clause_2 14 rfl) (kX5_clause_2 15 rfl) (by decide)
theorem dX5_clause_80 : decode cX5_clause 80 = .ok (.invokevirtual 38, 3) := dq_182 (kX5_clause_2 16 rfl) (kX5_clause_2 17 rfl) (kX5_clause_2 18 rfl) rfl
theorem dX5_clause_83 : decode cX5_clause 83 = .ok (.aload_n 0, 1) := dq_42 (kX5_clause_2 19 rfl)
theorem dX5_clause_84 : decode cX5_clause 84 = .ok (.iconst 3, 1) := dq_6 (kX5_clause_2 20 rfl)
theorem dX5_clause_85 : decode cX5_clause 85 = .ok (.aload_n 0, 1) := dq_42 (kX5_clause_2 21 rfl)
theorem dX5_clause_86 : decode cX5_clause 86 = .ok (.iconst 3, 1) := dq_6 (kX5_clause_2 22 rfl)
theorem dX5_clause_87 : decode cX5_clause 87 = .ok (.invokevirtual 69, 3) := dq_182 (kX5_clause_2 23 rfl) (kX5_clause_2 24 rfl) (kX5_clause_2 25 rfl) rfl
theorem dX5_clause_90 : decode cX5_clause 90 = .ok (.invokevirtual 73, 3) := dq_182 (kX5_clause_2 26 rfl) (kX5_clause_2 27 rfl) (kX5_clause_2 28 rfl) rfl
theorem dX5_clause_93 : decode cX5_clause 93 = .ok (.aload_n 0, 1) := dq_42 (kX5_clause_2 29 rfl)
theorem dX5_clause_94 : decode cX5_clause 94 = .ok (.bipush 61, 2) := dq_16 (kX5_clause_2 30 rfl) (kX5_clause_2 31 rfl) (by decide)
theorem dX5_clause_96 : decode cX5_clause 96 = .ok (.invokevirtual 38, 3) := dq_182 (kX5_clause_3 0 rfl) (kX5_clause_3 1 rfl) (kX5_clause_3 2 rfl) rfl
theorem dX5_clause_99 : decode cX5_clause 99 = .ok (.goto 74, 3) := dq_167 (kX5_clause_3 3 rfl) (kX5_clause_3 4 rfl) (kX5_clause_3 5 rfl) (by decide)
theorem dX5_clause_102 : decode cX5_clause 102 = .ok (.iload_n 1, 1) := dq_27 (kX5_clause_3 6 rfl)
theorem dX5_clause_103 : decode cX5_clause 103 = .ok (.bipush 120, 2) := dq_16 (kX5_clause_3 7 rfl) (kX5_clause_3 8 rfl) (by decide)
theorem dX5_clause_105 : decode cX5_clause 105 = .ok (.if_icmp .ne 34, 3) := dq_160 (kX5_clause_3 9 rfl) (kX5_clause_3 10 rfl) (kX5_clause_3 11 rfl) (by decide)
theorem dX5_clause_108 : decode cX5_clause 108 = .ok (.aload_n 0, 1) := dq_42 (kX5_clause_3 12 rfl)
theorem dX5_clause_109 : decode cX5_clause 109 = .ok (.iconst 2, 1) := dq_5 (kX5_clause_3 13 rfl)
theorem dX5_clause_110 : decode cX5_clause 110 = .ok (.aload_n 0, 1) := dq_42 (kX5_clause_3 14 rfl)
theorem dX5_clause_111 : decode cX5_clause 111 = .ok (.bipush 19, 2) := dq_16 (kX5_clause_3 15 rfl) (kX5_clause_3 16 rfl) (by decide)
theorem dX5_clause_113 : decode cX5_clause 113 = .ok (.invokevirtual 69, 3) := dq_182 (kX5_clause_3 17 rfl) (kX5_clause_3 18 rfl) (kX5_clause_3 19 rfl) rfl
theorem dX5_clause_116 : decode cX5_clause 116 = .ok (.invokevirtual 73, 3) := dq_182 (kX5_clause_3 20 rfl) (kX5_clause_3 21 rfl) (kX5_clause_3 22 rfl) rfl
theorem dX5_clause_119 : decode cX5_clause 119 = .ok (.aload_n 0, 1) := dq_42 (kX5_clause_3 23 rfl)
theorem dX5_clause_120 : decode cX5_clause 120 = .ok (.bipush 46, 2) := dq_16 (kX5_clause_3 24 rfl) (kX5_clause_3 25 rfl) (by decide)
theorem dX5_clause_122 : decode cX5_clause 122 = .ok (.invokevirtual 38, 3) := dq_182 (kX5_clause_3 26 rfl) (kX5_clause_3 27 rfl) (kX5_clause_3 28 rfl) rfl
theorem dX5_clause_125 : decode cX5_clause 125 = .ok (.aload_n 0, 1) := dq_42 (kX5_clause_3 29 rfl)
theorem dX5_clause_126 : decode cX5_clause 126 = .ok (.iconst 3, 1) := dq_6 (kX5_clause_3 30 rfl)
theorem dX5_clause_127 : decode cX5_clause 127 = .ok (.aload_n 0, 1) := dq_42 (kX5_clause_3 31 rfl)
theorem dX5_clause_128 : decode cX5_clause 128 = .ok (.bipush 11, 2) := dq_16 (kX5_clause_4 0 rfl) (kX5_clause_4 1 rfl) (by decide)
theorem dX5_clause_130 : decode cX5_clause 130 = .ok (.invokevirtual 69, 3) := dq_182 (kX5_clause_4 2 rfl) (kX5_clause_4 3 rfl) (kX5_clause_4 4 rfl) rfl
theorem dX5_clause_133 : decode cX5_clause 133 = .ok (.invokevirtual 73, 3) := dq_182 (kX5_clause_4 5 rfl) (kX5_clause_4 6 rfl) (kX5_clause_4 7 rfl) rfl
theorem dX5_clause_136 : decode cX5_clause 136 = .ok (.goto 37, 3) := dq_167 (kX5_clause_4 8 rfl) (kX5_clause_4 9 rfl) (kX5_clause_4 10 rfl) (by decide)
theorem dX5_clause_139 : decode cX5_clause 139 = .ok (.iload_n 1, 1) := dq_27 (kX5_clause_4 11 rfl)
theorem dX5_clause_140 : decode cX5_clause 140 = .ok (.bipush 102, 2) := dq_16 (kX5_clause_4 12 rfl) (kX5_clause_4 13 rfl) (by decide)
theorem dX5_clause_142 : decode cX5_clause 142 = .ok (.if_icmp .eq 27, 3) := dq_159 (kX5_clause_4 14 rfl) (kX5_clause_4 15 rfl) (kX5_clause_4 16 rfl) (by decide)
theorem dX5_clause_145 : decode cX5_clause 145 = .ok (.iload_n 1, 1) := dq_27 (kX5_clause_4 17 rfl)
theorem dX5_clause_146 : decode cX5_clause 146 = .ok (.bipush 108, 2) := dq_16 (kX5_clause_4 18 rfl) (kX5_clause_4 19 rfl) (by decide)
theorem dX5_clause_148 : decode cX5_clause 148 = .ok (.if_icmp .eq 21, 3) := dq_159 (kX5_clause_4 20 rfl) (kX5_clause_4 21 rfl) (kX5_clause_4 22 rfl) (by decide)
theorem dX5_clause_151 : decode cX5_clause 151 = .ok (.iload_n 1, 1) := dq_27 (kX5_clause_4 23 rfl)
theorem dX5_clause_152 : decode cX5_clause 152 = .ok (.bipush 110, 2) := dq_16 (kX5_clause_4 24 rfl) (kX5_clause_4 25 rfl) (by decide)
theorem dX5_clause_154 : decode cX5_clause 154 = .ok (.if_icmp .eq 15, 3) := dq_159 (kX5_clause_4 26 rfl) (kX5_clause_4 27 rfl) (kX5_clause_4 28 rfl) (by decide)
theorem dX5_clause_157 : decode cX5_clause 157 = .ok (.iload_n 1, 1) := dq_27 (kX5_clause_4 29 rfl)
theorem dX5_clause_158 : decode cX5_clause 158 = .ok (.bipush 115, 2) := dq_16 (kX5_clause_4 30 rfl) (kX5_clause_4 31 rfl) (by decide)
theorem dX5_clause_160 : decode cX5_clause 160 = .ok (.if_icmp .eq 9, 3) := dq_159 (kX5_clause_5 0 rfl) (kX5_clause_5 1 rfl) (kX5_clause_5 2 rfl) (by decide)
theorem dX5_clause_163 : decode cX5_clause 163 = .ok (.iload_n 1, 1) := dq_27 (kX5_clause_5 3 rfl)
theorem dX5_clause_164 : decode cX5_clause 164 = .ok (.bipush 99, 2) := dq_16 (kX5_clause_5 4 rfl) (kX5_clause_5 5 rfl) (by decide)
theorem dX5_clause_166 : decode cX5_clause 166 = .ok (.if_icmp .ne 7, 3) := dq_160 (kX5_clause_5 6 rfl) (kX5_clause_5 7 rfl) (kX5_clause_5 8 rfl) (by decide)
theorem dX5_clause_169 : decode cX5_clause 169 = .ok (.aload_n 0, 1) := dq_42 (kX5_clause_5 9 rfl)
theorem dX5_clause_170 : decode cX5_clause 170 = .ok (.invokevirtual 54, 3) := dq_182 (kX5_clause_5 10 rfl) (kX5_clause_5 11 rfl) (kX5_clause_5 12 rfl) rfl
theorem dX5_clause_173 : decode cX5_clause 173 = .ok (.iload_n 1, 1) := dq_27 (kX5_clause_5 13 rfl)
theorem dX5_clause_174 : decode cX5_clause 174 = .ok (.bipush 110, 2) := dq_16 (kX5_clause_5 14 rfl) (kX5_clause_5 15 rfl) (by decide)
theorem dX5_clause_176 : decode cX5_clause 176 = .ok (.if_icmp .eq 33, 3) := dq_159 (kX5_clause_5 16 rfl) (kX5_clause_5 17 rfl) (kX5_clause_5 18 rfl) (by decide)
theorem dX5_clause_179 : decode cX5_clause 179 = .ok (.iload_n 1, 1) := dq_27 (kX5_clause_5 19 rfl)
theorem dX5_clause_180 : decode cX5_clause 180 = .ok (.bipush 115, 2) := dq_16 (kX5_clause_5 20 rfl) (kX5_clause_5 21 rfl) (by decide)
theorem dX5_clause_182 : decode cX5_clause 182 = .ok (.if_icmp .eq 27, 3) := dq_159 (kX5_clause_5 22 rfl) (kX5_clause_5 23 rfl) (kX5_clause_5 24 rfl) (by decide)
theorem dX5_clause_185 : decode cX5_clause 185 = .ok (.iload_n 1, 1) := dq_27 (kX5_clause_5 25 rfl)
theorem dX5_clause_186 : decode cX5_clause 186 = .ok (.bipush 97, 2) := dq_16 (kX5_clause_5 26 rfl) (kX5_clause_5 27 rfl) (by decide)
theorem dX5_clause_188 : decode cX5_clause 188 = .ok (.if_icmp .eq 21, 3) := dq_159 (kX5_clause_5 28 rfl) (kX5_clause_5 29 rfl) (kX5_clause_5 30 rfl) (by decide)
theorem dX5_clause_191 : decode cX5_clause 191 = .ok (.iload_n 1, 1) := dq_27 (kX5_clause_5 31 rfl)
theorem dX5_clause_192 : decode cX5_clause 192 = .ok (.bipush 113, 2) := dq_16 (kX5_clause_6 0 rfl) (kX5_clause_6 1 rfl) (by decide)
theorem dX5_clause_194 : decode cX5_clause 194 = .ok (.if_icmp .eq 15, 3) := dq_159 (kX5_clause_6 2 rfl) (kX5_clause_6 3 rfl) (kX5_clause_6 4 rfl) (by decide)
theorem dX5_clause_197 : decode cX5_clause 197 = .ok (.iload_n 1, 1) := dq_27 (kX5_clause_6 5 rfl)
theorem dX5_clause_198 : decode cX5_clause 198 = .ok (.bipush 107, 2) := dq_16 (kX5_clause_6 6 rfl) (kX5_clause_6 7 rfl) (by decide)
theorem dX5_clause_200 : decode cX5_clause 200 = .ok (.if_icmp .eq 9, 3) := dq_159 (kX5_clause_6 8 rfl) (kX5_clause_6 9 rfl) (kX5_clause_6 10 rfl) (by decide)
theorem dX5_clause_203 : decode cX5_clause 203 = .ok (.iload_n 1, 1) := dq_27 (kX5_clause_6 11 rfl)
theorem dX5_clause_204 : decode cX5_clause 204 = .ok (.bipush 103, 2) := dq_16 (kX5_clause_6 12 rfl) (kX5_clause_6 13 rfl) (by decide)
theorem dX5_clause_206 : decode cX5_clause 206 = .ok (.if_icmp .ne 14, 3) := dq_160 (kX5_clause_6 14 rfl) (kX5_clause_6 15 rfl) (kX5_clause_6 16 rfl) (by decide)
theorem dX5_clause_209 : decode cX5_clause 209 = .ok (.aload_n 0, 1) := dq_42 (kX5_clause_6 17 rfl)
theorem dX5_clause_210 : decode cX5_clause 210 = .ok (.iconst 1, 1) := dq_4 (kX5_clause_6 18 rfl)
theorem dX5_clause_211 : decode cX5_clause 211 = .ok (.aload_n 0, 1) := dq_42 (kX5_clause_6 19 rfl)
theorem dX5_clause_212 : decode cX5_clause 212 = .ok (.ldc 76, 2) := dq_18 (kX5_clause_6 20 rfl) (kX5_clause_6 21 rfl) rfl
theorem dX5_clause_214 : decode cX5_clause 214 = .ok (.invokevirtual 69, 3) := dq_182 (kX5_clause_6 22 rfl) (kX5_clause_6 23 rfl) (kX5_clause_6 24 rfl) rfl
theorem dX5_clause_217 : decode cX5_clause 217 = .ok (.invokevirtual 73, 3) := dq_182 (kX5_clause_6 25 rfl) (kX5_clause_6 26 rfl) (kX5_clause_6 27 rfl) rfl
theorem dX5_clause_220 : decode cX5_clause 220 = .ok (.return_, 1) := dq_177 (kX5_clause_6 28 rfl)

def bX5_isClauseLetter_0 : List UInt8 := [26, 170, 0, 0, 0, 0, 0, 121, 0, 0, 0, 97, 0, 0, 0, 122, 0, 0, 0, 119, 0, 0, 0, 121, 0, 0, 0, 119, 0, 0, 0, 121]
theorem kX5_isClauseLetter_0 (j : Nat) {b : UInt8} (hj : bX5_isClauseLetter_0[j]? = some b) : AtB cX5_isClauseLetter (0 + j) b := at_of32 (by decide +kernel) j hj
def bX5_isClauseLetter_1 : List UInt8 := [0, 0, 0, 121, 0, 0, 0, 119, 0, 0, 0, 119, 0, 0, 0, 121, 0, 0, 0, 121, 0, 0, 0, 121, 0, 0, 0, 119, 0, 0, 0, 119]
theorem kX5_isClauseLetter_1 (j : Nat) {b : UInt8} (hj : bX5_isClauseLetter_1[j]? = some b) : AtB cX5_isClauseLetter (32 + j) b := at_of32 (by decide +kernel) j hj
def bX5_isClauseLetter_2 : List UInt8 := [0, 0, 0, 121, 0, 0, 0, 119, 0, 0, 0, 121, 0, 0, 0, 121, 0, 0, 0, 119, 0, 0, 0, 121, 0, 0, 0, 119, 0, 0, 0, 121]
theorem kX5_isClauseLetter_2 (j : Nat) {b : UInt8} (hj : bX5_isClauseLetter_2[j]? = some b) : AtB cX5_isClauseLetter (64 + j) b := at_of32 (by decide +kernel) j hj
def bX5_isClauseLetter_3 : List UInt8 := [0, 0, 0, 121, 0, 0, 0, 121, 0, 0, 0, 121, 0, 0, 0, 119, 0, 0, 0, 121, 0, 0, 0, 119, 4, 172, 3, 172]
theorem kX5_isClauseLetter_3 (j : Nat) {b : UInt8} (hj : bX5_isClauseLetter_3[j]? = some b) : AtB cX5_isClauseLetter (96 + j) b := at_of32 (by decide +kernel) j hj
theorem dX5_isClauseLetter_0 : decode cX5_isClauseLetter 0 = .ok (.iload_n 0, 1) := dq_26 (kX5_isClauseLetter_0 0 rfl)
theorem dX5_isClauseLetter_120 : decode cX5_isClauseLetter 120 = .ok (.iconst 1, 1) := dq_4 (kX5_isClauseLetter_3 24 rfl)
theorem dX5_isClauseLetter_121 : decode cX5_isClauseLetter 121 = .ok (.ireturn, 1) := dq_172 (kX5_isClauseLetter_3 25 rfl)
theorem dX5_isClauseLetter_122 : decode cX5_isClauseLetter 122 = .ok (.iconst 0, 1) := dq_3 (kX5_isClauseLetter_3 26 rfl)
theorem dX5_isClauseLetter_123 : decode cX5_isClauseLetter 123 = .ok (.ireturn, 1) := dq_172 (kX5_isClauseLetter_3 27 rfl)
def LX5_isClauseLetter : List (Nat × Instr × Nat) := [(1, .tableswitch 121 97 122 #[119, 121, 119, 121, 121, 119, 119, 121, 121, 121, 119, 119, 121, 119, 121, 121, 119, 121, 119, 121, 121, 121, 121, 119, 121, 119], 119)]
theorem kkX5_isClauseLetter : chkB cX5_isClauseLetter LX5_isClauseLetter = true := by decide +kernel
theorem dX5_isClauseLetter_1 : decode cX5_isClauseLetter 1 = .ok (.tableswitch 121 97 122 #[119, 121, 119, 121, 121, 119, 119, 121, 121, 121, 119, 119, 121, 119, 121, 121, 119, 121, 119, 121, 121, 121, 121, 119, 121, 119], 119) := getB' kkX5_isClauseLetter 0 rfl

def bX5_condition_0 : List UInt8 := [42, 7, 42, 180, 0, 31, 180, 0, 77, 182, 0, 73, 42, 16, 40, 182, 0, 80, 42, 182, 0, 83, 42, 89, 180, 0, 15, 4, 100, 181, 0, 15]
theorem kX5_condition_0 (j : Nat) {b : UInt8} (hj : bX5_condition_0[j]? = some b) : AtB cX5_condition (0 + j) b := at_of32 (by decide +kernel) j hj
def bX5_condition_1 : List UInt8 := [42, 16, 41, 182, 0, 38, 42, 8, 42, 180, 0, 31, 180, 0, 77, 182, 0, 73, 177]
theorem kX5_condition_1 (j : Nat) {b : UInt8} (hj : bX5_condition_1[j]? = some b) : AtB cX5_condition (32 + j) b := at_of32 (by decide +kernel) j hj
theorem dX5_condition_0 : decode cX5_condition 0 = .ok (.aload_n 0, 1) := dq_42 (kX5_condition_0 0 rfl)
theorem dX5_condition_1 : decode cX5_condition 1 = .ok (.iconst 4, 1) := dq_7 (kX5_condition_0 1 rfl)
theorem dX5_condition_2 : decode cX5_condition 2 = .ok (.aload_n 0, 1) := dq_42 (kX5_condition_0 2 rfl)
theorem dX5_condition_3 : decode cX5_condition 3 = .ok (.getfield 31, 3) := dq_180 (kX5_condition_0 3 rfl) (kX5_condition_0 4 rfl) (kX5_condition_0 5 rfl) rfl
theorem dX5_condition_6 : decode cX5_condition 6 = .ok (.getfield 77, 3) := dq_180 (kX5_condition_0 6 rfl) (kX5_condition_0 7 rfl) (kX5_condition_0 8 rfl) rfl
theorem dX5_condition_9 : decode cX5_condition 9 = .ok (.invokevirtual 73, 3) := dq_182 (kX5_condition_0 9 rfl) (kX5_condition_0 10 rfl) (kX5_condition_0 11 rfl) rfl
theorem dX5_condition_12 : decode cX5_condition 12 = .ok (.aload_n 0, 1) := dq_42 (kX5_condition_0 12 rfl)
theorem dX5_condition_13 : decode cX5_condition 13 = .ok (.bipush 40, 2) := dq_16 (kX5_condition_0 13 rfl) (kX5_condition_0 14 rfl) (by decide)
theorem dX5_condition_15 : decode cX5_condition 15 = .ok (.invokevirtual 80, 3) := dq_182 (kX5_condition_0 15 rfl) (kX5_condition_0 16 rfl) (kX5_condition_0 17 rfl) rfl
theorem dX5_condition_18 : decode cX5_condition 18 = .ok (.aload_n 0, 1) := dq_42 (kX5_condition_0 18 rfl)
theorem dX5_condition_19 : decode cX5_condition 19 = .ok (.invokevirtual 83, 3) := dq_182 (kX5_condition_0 19 rfl) (kX5_condition_0 20 rfl) (kX5_condition_0 21 rfl) rfl
theorem dX5_condition_22 : decode cX5_condition 22 = .ok (.aload_n 0, 1) := dq_42 (kX5_condition_0 22 rfl)
theorem dX5_condition_23 : decode cX5_condition 23 = .ok (.dup, 1) := dq_89 (kX5_condition_0 23 rfl)
theorem dX5_condition_24 : decode cX5_condition 24 = .ok (.getfield 15, 3) := dq_180 (kX5_condition_0 24 rfl) (kX5_condition_0 25 rfl) (kX5_condition_0 26 rfl) rfl
theorem dX5_condition_27 : decode cX5_condition 27 = .ok (.iconst 1, 1) := dq_4 (kX5_condition_0 27 rfl)
theorem dX5_condition_28 : decode cX5_condition 28 = .ok (.isub, 1) := dq_100 (kX5_condition_0 28 rfl)
theorem dX5_condition_29 : decode cX5_condition 29 = .ok (.putfield 15, 3) := dq_181 (kX5_condition_0 29 rfl) (kX5_condition_0 30 rfl) (kX5_condition_0 31 rfl) rfl
theorem dX5_condition_32 : decode cX5_condition 32 = .ok (.aload_n 0, 1) := dq_42 (kX5_condition_1 0 rfl)
theorem dX5_condition_33 : decode cX5_condition 33 = .ok (.bipush 41, 2) := dq_16 (kX5_condition_1 1 rfl) (kX5_condition_1 2 rfl) (by decide)
theorem dX5_condition_35 : decode cX5_condition 35 = .ok (.invokevirtual 38, 3) := dq_182 (kX5_condition_1 3 rfl) (kX5_condition_1 4 rfl) (kX5_condition_1 5 rfl) rfl
theorem dX5_condition_38 : decode cX5_condition 38 = .ok (.aload_n 0, 1) := dq_42 (kX5_condition_1 6 rfl)
theorem dX5_condition_39 : decode cX5_condition 39 = .ok (.iconst 5, 1) := dq_8 (kX5_condition_1 7 rfl)
theorem dX5_condition_40 : decode cX5_condition 40 = .ok (.aload_n 0, 1) := dq_42 (kX5_condition_1 8 rfl)
theorem dX5_condition_41 : decode cX5_condition 41 = .ok (.getfield 31, 3) := dq_180 (kX5_condition_1 9 rfl) (kX5_condition_1 10 rfl) (kX5_condition_1 11 rfl) rfl
theorem dX5_condition_44 : decode cX5_condition 44 = .ok (.getfield 77, 3) := dq_180 (kX5_condition_1 12 rfl) (kX5_condition_1 13 rfl) (kX5_condition_1 14 rfl) rfl
theorem dX5_condition_47 : decode cX5_condition 47 = .ok (.invokevirtual 73, 3) := dq_182 (kX5_condition_1 15 rfl) (kX5_condition_1 16 rfl) (kX5_condition_1 17 rfl) rfl
theorem dX5_condition_50 : decode cX5_condition 50 = .ok (.return_, 1) := dq_177 (kX5_condition_1 18 rfl)

def bX5_parts_0 : List UInt8 := [2, 60, 42, 182, 0, 86, 3, 61, 28, 17, 0, 200, 162, 0, 57, 42, 180, 0, 18, 154, 0, 50, 42, 182, 0, 61, 16, 124, 160, 0, 41, 42]
theorem kX5_parts_0 (j : Nat) {b : UInt8} (hj : bX5_parts_0[j]? = some b) : AtB cX5_parts (0 + j) b := at_of32 (by decide +kernel) j hj
def bX5_parts_1 : List UInt8 := [89, 180, 0, 9, 4, 96, 181, 0, 9, 42, 180, 0, 31, 27, 182, 0, 89, 42, 180, 0, 31, 6, 3, 182, 0, 92, 60, 42, 182, 0, 86, 132]
theorem kX5_parts_1 (j : Nat) {b : UInt8} (hj : bX5_parts_1[j]? = some b) : AtB cX5_parts (32 + j) b := at_of32 (by decide +kernel) j hj
def bX5_parts_2 : List UInt8 := [2, 1, 167, 255, 198, 42, 180, 0, 31, 27, 182, 0, 89, 177]
theorem kX5_parts_2 (j : Nat) {b : UInt8} (hj : bX5_parts_2[j]? = some b) : AtB cX5_parts (64 + j) b := at_of32 (by decide +kernel) j hj
theorem dX5_parts_0 : decode cX5_parts 0 = .ok (.iconst (-1), 1) := dq_2 (kX5_parts_0 0 rfl)
theorem dX5_parts_1 : decode cX5_parts 1 = .ok (.istore_n 1, 1) := dq_60 (kX5_parts_0 1 rfl)
theorem dX5_parts_2 : decode cX5_parts 2 = .ok (.aload_n 0, 1) := dq_42 (kX5_parts_0 2 rfl)
theorem dX5_parts_3 : decode cX5_parts 3 = .ok (.invokevirtual 86, 3) := dq_182 (kX5_parts_0 3 rfl) (kX5_parts_0 4 rfl) (kX5_parts_0 5 rfl) rfl
theorem dX5_parts_6 : decode cX5_parts 6 = .ok (.iconst 0, 1) := dq_3 (kX5_parts_0 6 rfl)
theorem dX5_parts_7 : decode cX5_parts 7 = .ok (.istore_n 2, 1) := dq_61 (kX5_parts_0 7 rfl)
theorem dX5_parts_8 : decode cX5_parts 8 = .ok (.iload_n 2, 1) := dq_28 (kX5_parts_0 8 rfl)
theorem dX5_parts_9 : decode cX5_parts 9 = .ok (.sipush 200, 3) := dq_17 (kX5_parts_0 9 rfl) (kX5_parts_0 10 rfl) (kX5_parts_0 11 rfl) (by decide)
theorem dX5_parts_12 : decode cX5_parts 12 = .ok (.if_icmp .ge 57, 3) := dq_162 (kX5_parts_0 12 rfl) (kX5_parts_0 13 rfl) (kX5_parts_0 14 rfl) (by decide)
theorem dX5_parts_15 : decode cX5_parts 15 = .ok (.aload_n 0, 1) := dq_42 (kX5_parts_0 15 rfl)
theorem dX5_parts_16 : decode cX5_parts 16 = .ok (.getfield 18, 3) := dq_180 (kX5_parts_0 16 rfl) (kX5_parts_0 17 rfl) (kX5_parts_0 18 rfl) rfl
theorem dX5_parts_19 : decode cX5_parts 19 = .ok (.ifCond .ne 50, 3) := dq_154 (kX5_parts_0 19 rfl) (kX5_parts_0 20 rfl) (kX5_parts_0 21 rfl) (by decide)
theorem dX5_parts_22 : decode cX5_parts 22 = .ok (.aload_n 0, 1) := dq_42 (kX5_parts_0 22 rfl)
theorem dX5_parts_23 : decode cX5_parts 23 = .ok (.invokevirtual 61, 3) := dq_182 (kX5_parts_0 23 rfl) (kX5_parts_0 24 rfl) (kX5_parts_0 25 rfl) rfl
theorem dX5_parts_26 : decode cX5_parts 26 = .ok (.bipush 124, 2) := dq_16 (kX5_parts_0 26 rfl) (kX5_parts_0 27 rfl) (by decide)
theorem dX5_parts_28 : decode cX5_parts 28 = .ok (.if_icmp .ne 41, 3) := dq_160 (kX5_parts_0 28 rfl) (kX5_parts_0 29 rfl) (kX5_parts_0 30 rfl) (by decide)
theorem dX5_parts_31 : decode cX5_parts 31 = .ok (.aload_n 0, 1) := dq_42 (kX5_parts_0 31 rfl)
theorem dX5_parts_32 : decode cX5_parts 32 = .ok (.dup, 1) := dq_89 (kX5_parts_1 0 rfl)
theorem dX5_parts_33 : decode cX5_parts 33 = .ok (.getfield 9, 3) := dq_180 (kX5_parts_1 1 rfl) (kX5_parts_1 2 rfl) (kX5_parts_1 3 rfl) rfl
theorem dX5_parts_36 : decode cX5_parts 36 = .ok (.iconst 1, 1) := dq_4 (kX5_parts_1 4 rfl)
theorem dX5_parts_37 : decode cX5_parts 37 = .ok (.iadd, 1) := dq_96 (kX5_parts_1 5 rfl)
theorem dX5_parts_38 : decode cX5_parts 38 = .ok (.putfield 9, 3) := dq_181 (kX5_parts_1 6 rfl) (kX5_parts_1 7 rfl) (kX5_parts_1 8 rfl) rfl
theorem dX5_parts_41 : decode cX5_parts 41 = .ok (.aload_n 0, 1) := dq_42 (kX5_parts_1 9 rfl)
theorem dX5_parts_42 : decode cX5_parts 42 = .ok (.getfield 31, 3) := dq_180 (kX5_parts_1 10 rfl) (kX5_parts_1 11 rfl) (kX5_parts_1 12 rfl) rfl
theorem dX5_parts_45 : decode cX5_parts 45 = .ok (.iload_n 1, 1) := dq_27 (kX5_parts_1 13 rfl)
theorem dX5_parts_46 : decode cX5_parts 46 = .ok (.invokevirtual 89, 3) := dq_182 (kX5_parts_1 14 rfl) (kX5_parts_1 15 rfl) (kX5_parts_1 16 rfl) rfl
theorem dX5_parts_49 : decode cX5_parts 49 = .ok (.aload_n 0, 1) := dq_42 (kX5_parts_1 17 rfl)
theorem dX5_parts_50 : decode cX5_parts 50 = .ok (.getfield 31, 3) := dq_180 (kX5_parts_1 18 rfl) (kX5_parts_1 19 rfl) (kX5_parts_1 20 rfl) rfl
theorem dX5_parts_53 : decode cX5_parts 53 = .ok (.iconst 3, 1) := dq_6 (kX5_parts_1 21 rfl)
theorem dX5_parts_54 : decode cX5_parts 54 = .ok (.iconst 0, 1) := dq_3 (kX5_parts_1 22 rfl)
theorem dX5_parts_55 : decode cX5_parts 55 = .ok (.invokevirtual 92, 3) := dq_182 (kX5_parts_1 23 rfl) (kX5_parts_1 24 rfl) (kX5_parts_1 25 rfl) rfl
theorem dX5_parts_58 : decode cX5_parts 58 = .ok (.istore_n 1, 1) := dq_60 (kX5_parts_1 26 rfl)
theorem dX5_parts_59 : decode cX5_parts 59 = .ok (.aload_n 0, 1) := dq_42 (kX5_parts_1 27 rfl)
theorem dX5_parts_60 : decode cX5_parts 60 = .ok (.invokevirtual 86, 3) := dq_182 (kX5_parts_1 28 rfl) (kX5_parts_1 29 rfl) (kX5_parts_1 30 rfl) rfl
theorem dX5_parts_63 : decode cX5_parts 63 = .ok (.iinc 2 1, 3) := dq_132 (kX5_parts_1 31 rfl) (kX5_parts_2 0 rfl) (kX5_parts_2 1 rfl) rfl (by decide)
theorem dX5_parts_66 : decode cX5_parts 66 = .ok (.goto (-58), 3) := dq_167 (kX5_parts_2 2 rfl) (kX5_parts_2 3 rfl) (kX5_parts_2 4 rfl) (by decide)
theorem dX5_parts_69 : decode cX5_parts 69 = .ok (.aload_n 0, 1) := dq_42 (kX5_parts_2 5 rfl)
theorem dX5_parts_70 : decode cX5_parts 70 = .ok (.getfield 31, 3) := dq_180 (kX5_parts_2 6 rfl) (kX5_parts_2 7 rfl) (kX5_parts_2 8 rfl) rfl
theorem dX5_parts_73 : decode cX5_parts 73 = .ok (.iload_n 1, 1) := dq_27 (kX5_parts_2 9 rfl)
theorem dX5_parts_74 : decode cX5_parts 74 = .ok (.invokevirtual 89, 3) := dq_182 (kX5_parts_2 10 rfl) (kX5_parts_2 11 rfl) (kX5_parts_2 12 rfl) rfl
theorem dX5_parts_77 : decode cX5_parts 77 = .ok (.return_, 1) := dq_177 (kX5_parts_2 13 rfl)

def bX5_part_0 : List UInt8 := [2, 60, 42, 182, 0, 96, 3, 61, 28, 17, 0, 200, 162, 0, 57, 42, 180, 0, 18, 154, 0, 50, 42, 182, 0, 61, 16, 38, 160, 0, 41, 42]
theorem kX5_part_0 (j : Nat) {b : UInt8} (hj : bX5_part_0[j]? = some b) : AtB cX5_part (0 + j) b := at_of32 (by decide +kernel) j hj
def bX5_part_1 : List UInt8 := [89, 180, 0, 9, 4, 96, 181, 0, 9, 42, 180, 0, 31, 27, 182, 0, 89, 42, 180, 0, 31, 7, 3, 182, 0, 92, 60, 42, 182, 0, 96, 132]
theorem kX5_part_1 (j : Nat) {b : UInt8} (hj : bX5_part_1[j]? = some b) : AtB cX5_part (32 + j) b := at_of32 (by decide +kernel) j hj
def bX5_part_2 : List UInt8 := [2, 1, 167, 255, 198, 42, 180, 0, 31, 27, 182, 0, 89, 177]
theorem kX5_part_2 (j : Nat) {b : UInt8} (hj : bX5_part_2[j]? = some b) : AtB cX5_part (64 + j) b := at_of32 (by decide +kernel) j hj
theorem dX5_part_0 : decode cX5_part 0 = .ok (.iconst (-1), 1) := dq_2 (kX5_part_0 0 rfl)
theorem dX5_part_1 : decode cX5_part 1 = .ok (.istore_n 1, 1) := dq_60 (kX5_part_0 1 rfl)
theorem dX5_part_2 : decode cX5_part 2 = .ok (.aload_n 0, 1) := dq_42 (kX5_part_0 2 rfl)
theorem dX5_part_3 : decode cX5_part 3 = .ok (.invokevirtual 96, 3) := dq_182 (kX5_part_0 3 rfl) (kX5_part_0 4 rfl) (kX5_part_0 5 rfl) rfl
theorem dX5_part_6 : decode cX5_part 6 = .ok (.iconst 0, 1) := dq_3 (kX5_part_0 6 rfl)
theorem dX5_part_7 : decode cX5_part 7 = .ok (.istore_n 2, 1) := dq_61 (kX5_part_0 7 rfl)
theorem dX5_part_8 : decode cX5_part 8 = .ok (.iload_n 2, 1) := dq_28 (kX5_part_0 8 rfl)
theorem dX5_part_9 : decode cX5_part 9 = .ok (.sipush 200, 3) := dq_17 (kX5_part_0 9 rfl) (kX5_part_0 10 rfl) (kX5_part_0 11 rfl) (by decide)
theorem dX5_part_12 : decode cX5_part 12 = .ok (.if_icmp .ge 57, 3) := dq_162 (kX5_part_0 12 rfl) (kX5_part_0 13 rfl) (kX5_part_0 14 rfl) (by decide)
theorem dX5_part_15 : decode cX5_part 15 = .ok (.aload_n 0, 1) := dq_42 (kX5_part_0 15 rfl)
theorem dX5_part_16 : decode cX5_part 16 = .ok (.getfield 18, 3) := dq_180 (kX5_part_0 16 rfl) (kX5_part_0 17 rfl) (kX5_part_0 18 rfl) rfl
theorem dX5_part_19 : decode cX5_part 19 = .ok (.ifCond .ne 50, 3) := dq_154 (kX5_part_0 19 rfl) (kX5_part_0 20 rfl) (kX5_part_0 21 rfl) (by decide)
theorem dX5_part_22 : decode cX5_part 22 = .ok (.aload_n 0, 1) := dq_42 (kX5_part_0 22 rfl)
theorem dX5_part_23 : decode cX5_part 23 = .ok (.invokevirtual 61, 3) := dq_182 (kX5_part_0 23 rfl) (kX5_part_0 24 rfl) (kX5_part_0 25 rfl) rfl
theorem dX5_part_26 : decode cX5_part 26 = .ok (.bipush 38, 2) := dq_16 (kX5_part_0 26 rfl) (kX5_part_0 27 rfl) (by decide)
theorem dX5_part_28 : decode cX5_part 28 = .ok (.if_icmp .ne 41, 3) := dq_160 (kX5_part_0 28 rfl) (kX5_part_0 29 rfl) (kX5_part_0 30 rfl) (by decide)
theorem dX5_part_31 : decode cX5_part 31 = .ok (.aload_n 0, 1) := dq_42 (kX5_part_0 31 rfl)
theorem dX5_part_32 : decode cX5_part 32 = .ok (.dup, 1) := dq_89 (kX5_part_1 0 rfl)
theorem dX5_part_33 : decode cX5_part 33 = .ok (.getfield 9, 3) := dq_180 (kX5_part_1 1 rfl) (kX5_part_1 2 rfl) (kX5_part_1 3 rfl) rfl
theorem dX5_part_36 : decode cX5_part 36 = .ok (.iconst 1, 1) := dq_4 (kX5_part_1 4 rfl)
theorem dX5_part_37 : decode cX5_part 37 = .ok (.iadd, 1) := dq_96 (kX5_part_1 5 rfl)
theorem dX5_part_38 : decode cX5_part 38 = .ok (.putfield 9, 3) := dq_181 (kX5_part_1 6 rfl) (kX5_part_1 7 rfl) (kX5_part_1 8 rfl) rfl
theorem dX5_part_41 : decode cX5_part 41 = .ok (.aload_n 0, 1) := dq_42 (kX5_part_1 9 rfl)
theorem dX5_part_42 : decode cX5_part 42 = .ok (.getfield 31, 3) := dq_180 (kX5_part_1 10 rfl) (kX5_part_1 11 rfl) (kX5_part_1 12 rfl) rfl
theorem dX5_part_45 : decode cX5_part 45 = .ok (.iload_n 1, 1) := dq_27 (kX5_part_1 13 rfl)
theorem dX5_part_46 : decode cX5_part 46 = .ok (.invokevirtual 89, 3) := dq_182 (kX5_part_1 14 rfl) (kX5_part_1 15 rfl) (kX5_part_1 16 rfl) rfl
theorem dX5_part_49 : decode cX5_part 49 = .ok (.aload_n 0, 1) := dq_42 (kX5_part_1 17 rfl)
theorem dX5_part_50 : decode cX5_part 50 = .ok (.getfield 31, 3) := dq_180 (kX5_part_1 18 rfl) (kX5_part_1 19 rfl) (kX5_part_1 20 rfl) rfl
theorem dX5_part_53 : decode cX5_part 53 = .ok (.iconst 4, 1) := dq_7 (kX5_part_1 21 rfl)
theorem dX5_part_54 : decode cX5_part 54 = .ok (.iconst 0, 1) := dq_3 (kX5_part_1 22 rfl)
theorem dX5_part_55 : decode cX5_part 55 = .ok (.invokevirtual 92, 3) := dq_182 (kX5_part_1 23 rfl) (kX5_part_1 24 rfl) (kX5_part_1 25 rfl) rfl
theorem dX5_part_58 : decode cX5_part 58 = .ok (.istore_n 1, 1) := dq_60 (kX5_part_1 26 rfl)
theorem dX5_part_59 : decode cX5_part 59 = .ok (.aload_n 0, 1) := dq_42 (kX5_part_1 27 rfl)
theorem dX5_part_60 : decode cX5_part 60 = .ok (.invokevirtual 96, 3) := dq_182 (kX5_part_1 28 rfl) (kX5_part_1 29 rfl) (kX5_part_1 30 rfl) rfl
theorem dX5_part_63 : decode cX5_part 63 = .ok (.iinc 2 1, 3) := dq_132 (kX5_part_1 31 rfl) (kX5_part_2 0 rfl) (kX5_part_2 1 rfl) rfl (by decide)
theorem dX5_part_66 : decode cX5_part 66 = .ok (.goto (-58), 3) := dq_167 (kX5_part_2 2 rfl) (kX5_part_2 3 rfl) (kX5_part_2 4 rfl) (by decide)
theorem dX5_part_69 : decode cX5_part 69 = .ok (.aload_n 0, 1) := dq_42 (kX5_part_2 5 rfl)
theorem dX5_part_70 : decode cX5_part 70 = .ok (.getfield 31, 3) := dq_180 (kX5_part_2 6 rfl) (kX5_part_2 7 rfl) (kX5_part_2 8 rfl) rfl
theorem dX5_part_73 : decode cX5_part 73 = .ok (.iload_n 1, 1) := dq_27 (kX5_part_2 9 rfl)
theorem dX5_part_74 : decode cX5_part 74 = .ok (.invokevirtual 89, 3) := dq_182 (kX5_part_2 10 rfl) (kX5_part_2 11 rfl) (kX5_part_2 12 rfl) rfl
theorem dX5_part_77 : decode cX5_part 77 = .ok (.return_, 1) := dq_177 (kX5_part_2 13 rfl)

def bX5_piece_0 : List UInt8 := [42, 180, 0, 18, 153, 0, 4, 177, 42, 182, 0, 61, 60, 27, 16, 33, 160, 0, 10, 42, 182, 0, 99, 167, 0, 75, 27, 16, 40, 160, 0, 32]
theorem kX5_piece_0 (j : Nat) {b : UInt8} (hj : bX5_piece_0[j]? = some b) : AtB cX5_piece (0 + j) b := at_of32 (by decide +kernel) j hj
def bX5_piece_1 : List UInt8 := [42, 16, 40, 182, 0, 80, 42, 182, 0, 83, 42, 89, 180, 0, 15, 4, 100, 181, 0, 15, 42, 16, 41, 182, 0, 38, 167, 0, 40, 42, 182, 0]
theorem kX5_piece_1 (j : Nat) {b : UInt8} (hj : bX5_piece_1[j]? = some b) : AtB cX5_piece (32 + j) b := at_of32 (by decide +kernel) j hj
def bX5_piece_2 : List UInt8 := [102, 42, 42, 182, 0, 61, 182, 0, 105, 61, 42, 89, 180, 0, 9, 4, 96, 181, 0, 9, 42, 182, 0, 102, 42, 180, 0, 31, 28, 3, 182, 0]
theorem kX5_piece_2 (j : Nat) {b : UInt8} (hj : bX5_piece_2[j]? = some b) : AtB cX5_piece (64 + j) b := at_of32 (by decide +kernel) j hj
def bX5_piece_3 : List UInt8 := [92, 87, 177]
theorem kX5_piece_3 (j : Nat) {b : UInt8} (hj : bX5_piece_3[j]? = some b) : AtB cX5_piece (96 + j) b := at_of32 (by decide +kernel) j hj
theorem dX5_piece_0 : decode cX5_piece 0 = .ok (.aload_n 0, 1) := dq_42 (kX5_piece_0 0 rfl)
theorem dX5_piece_1 : decode cX5_piece 1 = .ok (.getfield 18, 3) := dq_180 (kX5_piece_0 1 rfl) (kX5_piece_0 2 rfl) (kX5_piece_0 3 rfl) rfl
theorem dX5_piece_4 : decode cX5_piece 4 = .ok (.ifCond .eq 4, 3) := dq_153 (kX5_piece_0 4 rfl) (kX5_piece_0 5 rfl) (kX5_piece_0 6 rfl) (by decide)
theorem dX5_piece_7 : decode cX5_piece 7 = .ok (.return_, 1) := dq_177 (kX5_piece_0 7 rfl)
theorem dX5_piece_8 : decode cX5_piece 8 = .ok (.aload_n 0, 1) := dq_42 (kX5_piece_0 8 rfl)
theorem dX5_piece_9 : decode cX5_piece 9 = .ok (.invokevirtual 61, 3) := dq_182 (kX5_piece_0 9 rfl) (kX5_piece_0 10 rfl) (kX5_piece_0 11 rfl) rfl
theorem dX5_piece_12 : decode cX5_piece 12 = .ok (.istore_n 1, 1) := dq_60 (kX5_piece_0 12 rfl)
theorem dX5_piece_13 : decode cX5_piece 13 = .ok (.iload_n 1, 1) := dq_27 (kX5_piece_0 13 rfl)
theorem dX5_piece_14 : decode cX5_piece 14 = .ok (.bipush 33, 2) := dq_16 (kX5_piece_0 14 rfl) (kX5_piece_0 15 rfl) (by decide)
theorem dX5_piece_16 : decode cX5_piece 16 = .ok (.if_icmp .ne 10, 3) := dq_160 (kX5_piece_0 16 rfl) (kX5_piece_0 17 rfl) (kX5_piece_0 18 rfl) (by decide)
theorem dX5_piece_19 : decode cX5_piece 19 = .ok (.aload_n 0, 1) := dq_42 (kX5_piece_0 19 rfl)
theorem dX5_piece_20 : decode cX5_piece 20 = .ok (.invokevirtual 99, 3) := dq_182 (kX5_piece_0 20 rfl) (kX5_piece_0 21 rfl) (kX5_piece_0 22 rfl) rfl
theorem dX5_piece_23 : decode cX5_piece 23 = .ok (.goto 75, 3) := dq_167 (kX5_piece_0 23 rfl) (kX5_piece_0 24 rfl) (kX5_piece_0 25 rfl) (by decide)
theorem dX5_piece_26 : decode cX5_piece 26 = .ok (.iload_n 1, 1) := dq_27 (kX5_piece_0 26 rfl)
theorem dX5_piece_27 : decode cX5_piece 27 = .ok (.bipush 40, 2) := dq_16 (kX5_piece_0 27 rfl) (kX5_piece_0 28 rfl) (by decide)
theorem dX5_piece_29 : decode cX5_piece 29 = .ok (.if_icmp .ne 32, 3) := dq_160 (kX5_piece_0 29 rfl) (kX5_piece_0 30 rfl) (kX5_piece_0 31 rfl) (by decide)
theorem dX5_piece_32 : decode cX5_piece 32 = .ok (.aload_n 0, 1) := dq_42 (kX5_piece_1 0 rfl)
theorem dX5_piece_33 : decode cX5_piece 33 = .ok (.bipush 40, 2) := dq_16 (kX5_piece_1 1 rfl) (kX5_piece_1 2 rfl) (by decide)
theorem dX5_piece_35 : decode cX5_piece 35 = .ok (.invokevirtual 80, 3) := dq_182 (kX5_piece_1 3 rfl) (kX5_piece_1 4 rfl) (kX5_piece_1 5 rfl) rfl
theorem dX5_piece_38 : decode cX5_piece 38 = .ok (.aload_n 0, 1) := dq_42 (kX5_piece_1 6 rfl)
theorem dX5_piece_39 : decode cX5_piece 39 = .ok (.invokevirtual 83, 3) := dq_182 (kX5_piece_1 7 rfl) (kX5_piece_1 8 rfl) (kX5_piece_1 9 rfl) rfl
theorem dX5_piece_42 : decode cX5_piece 42 = .ok (.aload_n 0, 1) := dq_42 (kX5_piece_1 10 rfl)
theorem dX5_piece_43 : decode cX5_piece 43 = .ok (.dup, 1) := dq_89 (kX5_piece_1 11 rfl)
theorem dX5_piece_44 : decode cX5_piece 44 = .ok (.getfield 15, 3) := dq_180 (kX5_piece_1 12 rfl) (kX5_piece_1 13 rfl) (kX5_piece_1 14 rfl) rfl
theorem dX5_piece_47 : decode cX5_piece 47 = .ok (.iconst 1, 1) := dq_4 (kX5_piece_1 15 rfl)
theorem dX5_piece_48 : decode cX5_piece 48 = .ok (.isub, 1) := dq_100 (kX5_piece_1 16 rfl)
theorem dX5_piece_49 : decode cX5_piece 49 = .ok (.putfield 15, 3) := dq_181 (kX5_piece_1 17 rfl) (kX5_piece_1 18 rfl) (kX5_piece_1 19 rfl) rfl
theorem dX5_piece_52 : decode cX5_piece 52 = .ok (.aload_n 0, 1) := dq_42 (kX5_piece_1 20 rfl)
theorem dX5_piece_53 : decode cX5_piece 53 = .ok (.bipush 41, 2) := dq_16 (kX5_piece_1 21 rfl) (kX5_piece_1 22 rfl) (by decide)
theorem dX5_piece_55 : decode cX5_piece 55 = .ok (.invokevirtual 38, 3) := dq_182 (kX5_piece_1 23 rfl) (kX5_piece_1 24 rfl) (kX5_piece_1 25 rfl) rfl
theorem dX5_piece_58 : decode cX5_piece 58 = .ok (.goto 40, 3) := dq_167 (kX5_piece_1 26 rfl) (kX5_piece_1 27 rfl) (kX5_piece_1 28 rfl) (by decide)
theorem dX5_piece_61 : decode cX5_piece 61 = .ok (.aload_n 0, 1) := dq_42 (kX5_piece_1 29 rfl)
theorem dX5_piece_62 : decode cX5_piece 62 = .ok (.invokevirtual 102, 3) := dq_182 (kX5_piece_1 30 rfl) (kX5_piece_1 31 rfl) (kX5_piece_2 0 rfl) rfl
theorem dX5_piece_65 : decode cX5_piece 65 = .ok (.aload_n 0, 1) := dq_42 (kX5_piece_2 1 rfl)
theorem dX5_piece_66 : decode cX5_piece 66 = .ok (.aload_n 0, 1) := dq_42 (kX5_piece_2 2 rfl)
theorem dX5_piece_67 : decode cX5_piece 67 = .ok (.invokevirtual 61, 3) := dq_182 (kX5_piece_2 3 rfl) (kX5_piece_2 4 rfl) (kX5_piece_2 5 rfl) rfl
theorem dX5_piece_70 : decode cX5_piece 70 = .ok (.invokevirtual 105, 3) := dq_182 (kX5_piece_2 6 rfl) (kX5_piece_2 7 rfl) (kX5_piece_2 8 rfl) rfl
theorem dX5_piece_73 : decode cX5_piece 73 = .ok (.istore_n 2, 1) := dq_61 (kX5_piece_2 9 rfl)
theorem dX5_piece_74 : decode cX5_piece 74 = .ok (.aload_n 0, 1) := dq_42 (kX5_piece_2 10 rfl)
theorem dX5_piece_75 : decode cX5_piece 75 = .ok (.dup, 1) := dq_89 (kX5_piece_2 11 rfl)
theorem dX5_piece_76 : decode cX5_piece 76 = .ok (.getfield 9, 3) := dq_180 (kX5_piece_2 12 rfl) (kX5_piece_2 13 rfl) (kX5_piece_2 14 rfl) rfl
theorem dX5_piece_79 : decode cX5_piece 79 = .ok (.iconst 1, 1) := dq_4 (kX5_piece_2 15 rfl)
theorem dX5_piece_80 : decode cX5_piece 80 = .ok (.iadd, 1) := dq_96 (kX5_piece_2 16 rfl)
theorem dX5_piece_81 : decode cX5_piece 81 = .ok (.putfield 9, 3) := dq_181 (kX5_piece_2 17 rfl) (kX5_piece_2 18 rfl) (kX5_piece_2 19 rfl) rfl
theorem dX5_piece_84 : decode cX5_piece 84 = .ok (.aload_n 0, 1) := dq_42 (kX5_piece_2 20 rfl)
theorem dX5_piece_85 : decode cX5_piece 85 = .ok (.invokevirtual 102, 3) := dq_182 (kX5_piece_2 21 rfl) (kX5_piece_2 22 rfl) (kX5_piece_2 23 rfl) rfl
theorem dX5_piece_88 : decode cX5_piece 88 = .ok (.aload_n 0, 1) := dq_42 (kX5_piece_2 24 rfl)
theorem dX5_piece_89 : decode cX5_piece 89 = .ok (.getfield 31, 3) := dq_180 (kX5_piece_2 25 rfl) (kX5_piece_2 26 rfl) (kX5_piece_2 27 rfl) rfl
theorem dX5_piece_92 : decode cX5_piece 92 = .ok (.iload_n 2, 1) := dq_28 (kX5_piece_2 28 rfl)
theorem dX5_piece_93 : decode cX5_piece 93 = .ok (.iconst 0, 1) := dq_3 (kX5_piece_2 29 rfl)
theorem dX5_piece_94 : decode cX5_piece 94 = .ok (.invokevirtual 92, 3) := dq_182 (kX5_piece_2 30 rfl) (kX5_piece_2 31 rfl) (kX5_piece_3 0 rfl) rfl
theorem dX5_piece_97 : decode cX5_piece 97 = .ok (.pop, 1) := dq_87 (kX5_piece_3 1 rfl)
theorem dX5_piece_98 : decode cX5_piece 98 = .ok (.return_, 1) := dq_177 (kX5_piece_3 2 rfl)

def bX5_negation_0 : List UInt8 := [42, 16, 33, 182, 0, 80, 42, 182, 0, 96, 42, 89, 180, 0, 15, 4, 100, 181, 0, 15, 42, 180, 0, 31, 5, 3, 182, 0, 92, 87, 177]
theorem kX5_negation_0 (j : Nat) {b : UInt8} (hj : bX5_negation_0[j]? = some b) : AtB cX5_negation (0 + j) b := at_of32 (by decide +kernel) j hj
theorem dX5_negation_0 : decode cX5_negation 0 = .ok (.aload_n 0, 1) := dq_42 (kX5_negation_0 0 rfl)
theorem dX5_negation_1 : decode cX5_negation 1 = .ok (.bipush 33, 2) := dq_16 (kX5_negation_0 1 rfl) (kX5_negation_0 2 rfl) (by decide)
theorem dX5_negation_3 : decode cX5_negation 3 = .ok (.invokevirtual 80, 3) := dq_182 (kX5_negation_0 3 rfl) (kX5_negation_0 4 rfl) (kX5_negation_0 5 rfl) rfl
theorem dX5_negation_6 : decode cX5_negation 6 = .ok (.aload_n 0, 1) := dq_42 (kX5_negation_0 6 rfl)
theorem dX5_negation_7 : decode cX5_negation 7 = .ok (.invokevirtual 96, 3) := dq_182 (kX5_negation_0 7 rfl) (kX5_negation_0 8 rfl) (kX5_negation_0 9 rfl) rfl
theorem dX5_negation_10 : decode cX5_negation 10 = .ok (.aload_n 0, 1) := dq_42 (kX5_negation_0 10 rfl)
theorem dX5_negation_11 : decode cX5_negation 11 = .ok (.dup, 1) := dq_89 (kX5_negation_0 11 rfl)
theorem dX5_negation_12 : decode cX5_negation 12 = .ok (.getfield 15, 3) := dq_180 (kX5_negation_0 12 rfl) (kX5_negation_0 13 rfl) (kX5_negation_0 14 rfl) rfl
theorem dX5_negation_15 : decode cX5_negation 15 = .ok (.iconst 1, 1) := dq_4 (kX5_negation_0 15 rfl)
theorem dX5_negation_16 : decode cX5_negation 16 = .ok (.isub, 1) := dq_100 (kX5_negation_0 16 rfl)
theorem dX5_negation_17 : decode cX5_negation 17 = .ok (.putfield 15, 3) := dq_181 (kX5_negation_0 17 rfl) (kX5_negation_0 18 rfl) (kX5_negation_0 19 rfl) rfl
theorem dX5_negation_20 : decode cX5_negation 20 = .ok (.aload_n 0, 1) := dq_42 (kX5_negation_0 20 rfl)
theorem dX5_negation_21 : decode cX5_negation 21 = .ok (.getfield 31, 3) := dq_180 (kX5_negation_0 21 rfl) (kX5_negation_0 22 rfl) (kX5_negation_0 23 rfl) rfl
theorem dX5_negation_24 : decode cX5_negation 24 = .ok (.iconst 2, 1) := dq_5 (kX5_negation_0 24 rfl)
theorem dX5_negation_25 : decode cX5_negation 25 = .ok (.iconst 0, 1) := dq_3 (kX5_negation_0 25 rfl)
theorem dX5_negation_26 : decode cX5_negation 26 = .ok (.invokevirtual 92, 3) := dq_182 (kX5_negation_0 26 rfl) (kX5_negation_0 27 rfl) (kX5_negation_0 28 rfl) rfl
theorem dX5_negation_29 : decode cX5_negation 29 = .ok (.pop, 1) := dq_87 (kX5_negation_0 29 rfl)
theorem dX5_negation_30 : decode cX5_negation 30 = .ok (.return_, 1) := dq_177 (kX5_negation_0 30 rfl)

def bX5_comparison_0 : List UInt8 := [27, 16, 60, 159, 0, 24, 27, 16, 62, 159, 0, 18, 27, 16, 61, 159, 0, 12, 42, 4, 42, 180, 0, 9, 182, 0, 57, 27, 16, 60, 160, 0]
theorem kX5_comparison_0 (j : Nat) {b : UInt8} (hj : bX5_comparison_0[j]? = some b) : AtB cX5_comparison (0 + j) b := at_of32 (by decide +kernel) j hj
def bX5_comparison_1 : List UInt8 := [8, 16, 10, 167, 0, 16, 27, 16, 62, 160, 0, 8, 16, 11, 167, 0, 5, 16, 12, 172]
theorem kX5_comparison_1 (j : Nat) {b : UInt8} (hj : bX5_comparison_1[j]? = some b) : AtB cX5_comparison (32 + j) b := at_of32 (by decide +kernel) j hj
theorem dX5_comparison_0 : decode cX5_comparison 0 = .ok (.iload_n 1, 1) := dq_27 (kX5_comparison_0 0 rfl)
theorem dX5_comparison_1 : decode cX5_comparison 1 = .ok (.bipush 60, 2) := dq_16 (kX5_comparison_0 1 rfl) (kX5_comparison_0 2 rfl) (by decide)
theorem dX5_comparison_3 : decode cX5_comparison 3 = .ok (.if_icmp .eq 24, 3) := dq_159 (kX5_comparison_0 3 rfl) (kX5_comparison_0 4 rfl) (kX5_comparison_0 5 rfl) (by decide)
theorem dX5_comparison_6 : decode cX5_comparison 6 = .ok (.iload_n 1, 1) := dq_27 (kX5_comparison_0 6 rfl)
theorem dX5_comparison_7 : decode cX5_comparison 7 = .ok (.bipush 62, 2) := dq_16 (kX5_comparison_0 7 rfl) (kX5_comparison_0 8 rfl) (by decide)
theorem dX5_comparison_9 : decode cX5_comparison 9 = .ok (.if_icmp .eq 18, 3) := dq_159 (kX5_comparison_0 9 rfl) (kX5_comparison_0 10 rfl) (kX5_comparison_0 11 rfl) (by decide)
theorem dX5_comparison_12 : decode cX5_comparison 12 = .ok (.iload_n 1, 1) := dq_27 (kX5_comparison_0 12 rfl)
theorem dX5_comparison_13 : decode cX5_comparison 13 = .ok (.bipush 61, 2) := dq_16 (kX5_comparison_0 13 rfl) (kX5_comparison_0 14 rfl) (by decide)
theorem dX5_comparison_15 : decode cX5_comparison 15 = .ok (.if_icmp .eq 12, 3) := dq_159 (kX5_comparison_0 15 rfl) (kX5_comparison_0 16 rfl) (kX5_comparison_0 17 rfl) (by decide)
theorem dX5_comparison_18 : decode cX5_comparison 18 = .ok (.aload_n 0, 1) := dq_42 (kX5_comparison_0 18 rfl)
theorem dX5_comparison_19 : decode cX5_comparison 19 = .ok (.iconst 1, 1) := dq_4 (kX5_comparison_0 19 rfl)
theorem dX5_comparison_20 : decode cX5_comparison 20 = .ok (.aload_n 0, 1) := dq_42 (kX5_comparison_0 20 rfl)
theorem dX5_comparison_21 : decode cX5_comparison 21 = .ok (.getfield 9, 3) := dq_180 (kX5_comparison_0 21 rfl) (kX5_comparison_0 22 rfl) (kX5_comparison_0 23 rfl) rfl
theorem dX5_comparison_24 : decode cX5_comparison 24 = .ok (.invokevirtual 57, 3) := dq_182 (kX5_comparison_0 24 rfl) (kX5_comparison_0 25 rfl) (kX5_comparison_0 26 rfl) rfl
theorem dX5_comparison_27 : decode cX5_comparison 27 = .ok (.iload_n 1, 1) := dq_27 (kX5_comparison_0 27 rfl)
theorem dX5_comparison_28 : decode cX5_comparison 28 = .ok (.bipush 60, 2) := dq_16 (kX5_comparison_0 28 rfl) (kX5_comparison_0 29 rfl) (by decide)
theorem dX5_comparison_30 : decode cX5_comparison 30 = .ok (.if_icmp .ne 8, 3) := dq_160 (kX5_comparison_0 30 rfl) (kX5_comparison_0 31 rfl) (kX5_comparison_1 0 rfl) (by decide)
theorem dX5_comparison_33 : decode cX5_comparison 33 = .ok (.bipush 10, 2) := dq_16 (kX5_comparison_1 1 rfl) (kX5_comparison_1 2 rfl) (by decide)
theorem dX5_comparison_35 : decode cX5_comparison 35 = .ok (.goto 16, 3) := dq_167 (kX5_comparison_1 3 rfl) (kX5_comparison_1 4 rfl) (kX5_comparison_1 5 rfl) (by decide)
theorem dX5_comparison_38 : decode cX5_comparison 38 = .ok (.iload_n 1, 1) := dq_27 (kX5_comparison_1 6 rfl)
theorem dX5_comparison_39 : decode cX5_comparison 39 = .ok (.bipush 62, 2) := dq_16 (kX5_comparison_1 7 rfl) (kX5_comparison_1 8 rfl) (by decide)
theorem dX5_comparison_41 : decode cX5_comparison 41 = .ok (.if_icmp .ne 8, 3) := dq_160 (kX5_comparison_1 9 rfl) (kX5_comparison_1 10 rfl) (kX5_comparison_1 11 rfl) (by decide)
theorem dX5_comparison_44 : decode cX5_comparison 44 = .ok (.bipush 11, 2) := dq_16 (kX5_comparison_1 12 rfl) (kX5_comparison_1 13 rfl) (by decide)
theorem dX5_comparison_46 : decode cX5_comparison 46 = .ok (.goto 5, 3) := dq_167 (kX5_comparison_1 14 rfl) (kX5_comparison_1 15 rfl) (kX5_comparison_1 16 rfl) (by decide)
theorem dX5_comparison_49 : decode cX5_comparison 49 = .ok (.bipush 12, 2) := dq_16 (kX5_comparison_1 17 rfl) (kX5_comparison_1 18 rfl) (by decide)
theorem dX5_comparison_51 : decode cX5_comparison 51 = .ok (.ireturn, 1) := dq_172 (kX5_comparison_1 19 rfl)

def bX5_terms_0 : List UInt8 := [42, 182, 0, 108, 3, 60, 27, 17, 0, 200, 162, 0, 74, 42, 180, 0, 18, 154, 0, 67, 42, 182, 0, 61, 16, 43, 159, 0, 12, 42, 182, 0]
theorem kX5_terms_0 (j : Nat) {b : UInt8} (hj : bX5_terms_0[j]? = some b) : AtB cX5_terms (0 + j) b := at_of32 (by decide +kernel) j hj
def bX5_terms_1 : List UInt8 := [61, 16, 45, 160, 0, 49, 42, 182, 0, 61, 16, 43, 160, 0, 7, 8, 167, 0, 5, 16, 6, 61, 42, 89, 180, 0, 9, 4, 96, 181, 0, 9]
theorem kX5_terms_1 (j : Nat) {b : UInt8} (hj : bX5_terms_1[j]? = some b) : AtB cX5_terms (32 + j) b := at_of32 (by decide +kernel) j hj
def bX5_terms_2 : List UInt8 := [42, 182, 0, 108, 42, 180, 0, 31, 28, 3, 182, 0, 92, 87, 132, 1, 1, 167, 255, 181, 177]
theorem kX5_terms_2 (j : Nat) {b : UInt8} (hj : bX5_terms_2[j]? = some b) : AtB cX5_terms (64 + j) b := at_of32 (by decide +kernel) j hj
theorem dX5_terms_0 : decode cX5_terms 0 = .ok (.aload_n 0, 1) := dq_42 (kX5_terms_0 0 rfl)
theorem dX5_terms_1 : decode cX5_terms 1 = .ok (.invokevirtual 108, 3) := dq_182 (kX5_terms_0 1 rfl) (kX5_terms_0 2 rfl) (kX5_terms_0 3 rfl) rfl
theorem dX5_terms_4 : decode cX5_terms 4 = .ok (.iconst 0, 1) := dq_3 (kX5_terms_0 4 rfl)
theorem dX5_terms_5 : decode cX5_terms 5 = .ok (.istore_n 1, 1) := dq_60 (kX5_terms_0 5 rfl)
theorem dX5_terms_6 : decode cX5_terms 6 = .ok (.iload_n 1, 1) := dq_27 (kX5_terms_0 6 rfl)
theorem dX5_terms_7 : decode cX5_terms 7 = .ok (.sipush 200, 3) := dq_17 (kX5_terms_0 7 rfl) (kX5_terms_0 8 rfl) (kX5_terms_0 9 rfl) (by decide)
theorem dX5_terms_10 : decode cX5_terms 10 = .ok (.if_icmp .ge 74, 3) := dq_162 (kX5_terms_0 10 rfl) (kX5_terms_0 11 rfl) (kX5_terms_0 12 rfl) (by decide)
theorem dX5_terms_13 : decode cX5_terms 13 = .ok (.aload_n 0, 1) := dq_42 (kX5_terms_0 13 rfl)
theorem dX5_terms_14 : decode cX5_terms 14 = .ok (.getfield 18, 3) := dq_180 (kX5_terms_0 14 rfl) (kX5_terms_0 15 rfl) (kX5_terms_0 16 rfl) rfl
theorem dX5_terms_17 : decode cX5_terms 17 = .ok (.ifCond .ne 67, 3) := dq_154 (kX5_terms_0 17 rfl) (kX5_terms_0 18 rfl) (kX5_terms_0 19 rfl) (by decide)
theorem dX5_terms_20 : decode cX5_terms 20 = .ok (.aload_n 0, 1) := dq_42 (kX5_terms_0 20 rfl)
theorem dX5_terms_21 : decode cX5_terms 21 = .ok (.invokevirtual 61, 3) := dq_182 (kX5_terms_0 21 rfl) (kX5_terms_0 22 rfl) (kX5_terms_0 23 rfl) rfl
theorem dX5_terms_24 : decode cX5_terms 24 = .ok (.bipush 43, 2) := dq_16 (kX5_terms_0 24 rfl) (kX5_terms_0 25 rfl) (by decide)
theorem dX5_terms_26 : decode cX5_terms 26 = .ok (.if_icmp .eq 12, 3) := dq_159 (kX5_terms_0 26 rfl) (kX5_terms_0 27 rfl) (kX5_terms_0 28 rfl) (by decide)
theorem dX5_terms_29 : decode cX5_terms 29 = .ok (.aload_n 0, 1) := dq_42 (kX5_terms_0 29 rfl)
theorem dX5_terms_30 : decode cX5_terms 30 = .ok (.invokevirtual 61, 3) := dq_182 (kX5_terms_0 30 rfl) (kX5_terms_0 31 rfl) (kX5_terms_1 0 rfl) rfl
theorem dX5_terms_33 : decode cX5_terms 33 = .ok (.bipush 45, 2) := dq_16 (kX5_terms_1 1 rfl) (kX5_terms_1 2 rfl) (by decide)
theorem dX5_terms_35 : decode cX5_terms 35 = .ok (.if_icmp .ne 49, 3) := dq_160 (kX5_terms_1 3 rfl) (kX5_terms_1 4 rfl) (kX5_terms_1 5 rfl) (by decide)
theorem dX5_terms_38 : decode cX5_terms 38 = .ok (.aload_n 0, 1) := dq_42 (kX5_terms_1 6 rfl)
theorem dX5_terms_39 : decode cX5_terms 39 = .ok (.invokevirtual 61, 3) := dq_182 (kX5_terms_1 7 rfl) (kX5_terms_1 8 rfl) (kX5_terms_1 9 rfl) rfl
theorem dX5_terms_42 : decode cX5_terms 42 = .ok (.bipush 43, 2) := dq_16 (kX5_terms_1 10 rfl) (kX5_terms_1 11 rfl) (by decide)
theorem dX5_terms_44 : decode cX5_terms 44 = .ok (.if_icmp .ne 7, 3) := dq_160 (kX5_terms_1 12 rfl) (kX5_terms_1 13 rfl) (kX5_terms_1 14 rfl) (by decide)
theorem dX5_terms_47 : decode cX5_terms 47 = .ok (.iconst 5, 1) := dq_8 (kX5_terms_1 15 rfl)
theorem dX5_terms_48 : decode cX5_terms 48 = .ok (.goto 5, 3) := dq_167 (kX5_terms_1 16 rfl) (kX5_terms_1 17 rfl) (kX5_terms_1 18 rfl) (by decide)
theorem dX5_terms_51 : decode cX5_terms 51 = .ok (.bipush 6, 2) := dq_16 (kX5_terms_1 19 rfl) (kX5_terms_1 20 rfl) (by decide)
theorem dX5_terms_53 : decode cX5_terms 53 = .ok (.istore_n 2, 1) := dq_61 (kX5_terms_1 21 rfl)
theorem dX5_terms_54 : decode cX5_terms 54 = .ok (.aload_n 0, 1) := dq_42 (kX5_terms_1 22 rfl)
theorem dX5_terms_55 : decode cX5_terms 55 = .ok (.dup, 1) := dq_89 (kX5_terms_1 23 rfl)
theorem dX5_terms_56 : decode cX5_terms 56 = .ok (.getfield 9, 3) := dq_180 (kX5_terms_1 24 rfl) (kX5_terms_1 25 rfl) (kX5_terms_1 26 rfl) rfl
theorem dX5_terms_59 : decode cX5_terms 59 = .ok (.iconst 1, 1) := dq_4 (kX5_terms_1 27 rfl)
theorem dX5_terms_60 : decode cX5_terms 60 = .ok (.iadd, 1) := dq_96 (kX5_terms_1 28 rfl)
theorem dX5_terms_61 : decode cX5_terms 61 = .ok (.putfield 9, 3) := dq_181 (kX5_terms_1 29 rfl) (kX5_terms_1 30 rfl) (kX5_terms_1 31 rfl) rfl
theorem dX5_terms_64 : decode cX5_terms 64 = .ok (.aload_n 0, 1) := dq_42 (kX5_terms_2 0 rfl)
theorem dX5_terms_65 : decode cX5_terms 65 = .ok (.invokevirtual 108, 3) := dq_182 (kX5_terms_2 1 rfl) (kX5_terms_2 2 rfl) (kX5_terms_2 3 rfl) rfl
theorem dX5_terms_68 : decode cX5_terms 68 = .ok (.aload_n 0, 1) := dq_42 (kX5_terms_2 4 rfl)
theorem dX5_terms_69 : decode cX5_terms 69 = .ok (.getfield 31, 3) := dq_180 (kX5_terms_2 5 rfl) (kX5_terms_2 6 rfl) (kX5_terms_2 7 rfl) rfl
theorem dX5_terms_72 : decode cX5_terms 72 = .ok (.iload_n 2, 1) := dq_28 (kX5_terms_2 8 rfl)
theorem dX5_terms_73 : decode cX5_terms 73 = .ok (.iconst 0, 1) := dq_3 (kX5_terms_2 9 rfl)
theorem dX5_terms_74 : decode cX5_terms 74 = .ok (.invokevirtual 92, 3) := dq_182 (kX5_terms_2 10 rfl) (kX5_terms_2 11 rfl) (kX5_terms_2 12 rfl) rfl
theorem dX5_terms_77 : decode cX5_terms 77 = .ok (.pop, 1) := dq_87 (kX5_terms_2 13 rfl)
theorem dX5_terms_78 : decode cX5_terms 78 = .ok (.iinc 1 1, 3) := dq_132 (kX5_terms_2 14 rfl) (kX5_terms_2 15 rfl) (kX5_terms_2 16 rfl) rfl (by decide)
theorem dX5_terms_81 : decode cX5_terms 81 = .ok (.goto (-75), 3) := dq_167 (kX5_terms_2 17 rfl) (kX5_terms_2 18 rfl) (kX5_terms_2 19 rfl) (by decide)
theorem dX5_terms_84 : decode cX5_terms 84 = .ok (.return_, 1) := dq_177 (kX5_terms_2 20 rfl)

def bX5_factors_0 : List UInt8 := [42, 182, 0, 111, 3, 60, 27, 17, 0, 200, 162, 0, 81, 42, 180, 0, 18, 154, 0, 74, 42, 182, 0, 61, 184, 0, 114, 153, 0, 64, 42, 182]
theorem kX5_factors_0 (j : Nat) {b : UInt8} (hj : bX5_factors_0[j]? = some b) : AtB cX5_factors (0 + j) b := at_of32 (by decide +kernel) j hj
def bX5_factors_1 : List UInt8 := [0, 61, 16, 42, 160, 0, 8, 16, 7, 167, 0, 19, 42, 182, 0, 61, 16, 47, 160, 0, 8, 16, 8, 167, 0, 5, 16, 9, 61, 42, 89, 180]
theorem kX5_factors_1 (j : Nat) {b : UInt8} (hj : bX5_factors_1[j]? = some b) : AtB cX5_factors (32 + j) b := at_of32 (by decide +kernel) j hj
def bX5_factors_2 : List UInt8 := [0, 9, 4, 96, 181, 0, 9, 42, 182, 0, 111, 42, 180, 0, 31, 28, 3, 182, 0, 92, 87, 132, 1, 1, 167, 255, 174, 177]
theorem kX5_factors_2 (j : Nat) {b : UInt8} (hj : bX5_factors_2[j]? = some b) : AtB cX5_factors (64 + j) b := at_of32 (by decide +kernel) j hj
theorem dX5_factors_0 : decode cX5_factors 0 = .ok (.aload_n 0, 1) := dq_42 (kX5_factors_0 0 rfl)
theorem dX5_factors_1 : decode cX5_factors 1 = .ok (.invokevirtual 111, 3) := dq_182 (kX5_factors_0 1 rfl) (kX5_factors_0 2 rfl) (kX5_factors_0 3 rfl) rfl
theorem dX5_factors_4 : decode cX5_factors 4 = .ok (.iconst 0, 1) := dq_3 (kX5_factors_0 4 rfl)
theorem dX5_factors_5 : decode cX5_factors 5 = .ok (.istore_n 1, 1) := dq_60 (kX5_factors_0 5 rfl)
theorem dX5_factors_6 : decode cX5_factors 6 = .ok (.iload_n 1, 1) := dq_27 (kX5_factors_0 6 rfl)
theorem dX5_factors_7 : decode cX5_factors 7 = .ok (.sipush 200, 3) := dq_17 (kX5_factors_0 7 rfl) (kX5_factors_0 8 rfl) (kX5_factors_0 9 rfl) (by decide)
theorem dX5_factors_10 : decode cX5_factors 10 = .ok (.if_icmp .ge 81, 3) := dq_162 (kX5_factors_0 10 rfl) (kX5_factors_0 11 rfl) (kX5_factors_0 12 rfl) (by decide)
theorem dX5_factors_13 : decode cX5_factors 13 = .ok (.aload_n 0, 1) := dq_42 (kX5_factors_0 13 rfl)
theorem dX5_factors_14 : decode cX5_factors 14 = .ok (.getfield 18, 3) := dq_180 (kX5_factors_0 14 rfl) (kX5_factors_0 15 rfl) (kX5_factors_0 16 rfl) rfl
theorem dX5_factors_17 : decode cX5_factors 17 = .ok (.ifCond .ne 74, 3) := dq_154 (kX5_factors_0 17 rfl) (kX5_factors_0 18 rfl) (kX5_factors_0 19 rfl) (by decide)
theorem dX5_factors_20 : decode cX5_factors 20 = .ok (.aload_n 0, 1) := dq_42 (kX5_factors_0 20 rfl)
theorem dX5_factors_21 : decode cX5_factors 21 = .ok (.invokevirtual 61, 3) := dq_182 (kX5_factors_0 21 rfl) (kX5_factors_0 22 rfl) (kX5_factors_0 23 rfl) rfl
theorem dX5_factors_24 : decode cX5_factors 24 = .ok (.invokestatic 114, 3) := dq_184 (kX5_factors_0 24 rfl) (kX5_factors_0 25 rfl) (kX5_factors_0 26 rfl) rfl
theorem dX5_factors_27 : decode cX5_factors 27 = .ok (.ifCond .eq 64, 3) := dq_153 (kX5_factors_0 27 rfl) (kX5_factors_0 28 rfl) (kX5_factors_0 29 rfl) (by decide)
theorem dX5_factors_30 : decode cX5_factors 30 = .ok (.aload_n 0, 1) := dq_42 (kX5_factors_0 30 rfl)
theorem dX5_factors_31 : decode cX5_factors 31 = .ok (.invokevirtual 61, 3) := dq_182 (kX5_factors_0 31 rfl) (kX5_factors_1 0 rfl) (kX5_factors_1 1 rfl) rfl
theorem dX5_factors_34 : decode cX5_factors 34 = .ok (.bipush 42, 2) := dq_16 (kX5_factors_1 2 rfl) (kX5_factors_1 3 rfl) (by decide)
theorem dX5_factors_36 : decode cX5_factors 36 = .ok (.if_icmp .ne 8, 3) := dq_160 (kX5_factors_1 4 rfl) (kX5_factors_1 5 rfl) (kX5_factors_1 6 rfl) (by decide)
theorem dX5_factors_39 : decode cX5_factors 39 = .ok (.bipush 7, 2) := dq_16 (kX5_factors_1 7 rfl) (kX5_factors_1 8 rfl) (by decide)
theorem dX5_factors_41 : decode cX5_factors 41 = .ok (.goto 19, 3) := dq_167 (kX5_factors_1 9 rfl) (kX5_factors_1 10 rfl) (kX5_factors_1 11 rfl) (by decide)
theorem dX5_factors_44 : decode cX5_factors 44 = .ok (.aload_n 0, 1) := dq_42 (kX5_factors_1 12 rfl)
theorem dX5_factors_45 : decode cX5_factors 45 = .ok (.invokevirtual 61, 3) := dq_182 (kX5_factors_1 13 rfl) (kX5_factors_1 14 rfl) (kX5_factors_1 15 rfl) rfl
theorem dX5_factors_48 : decode cX5_factors 48 = .ok (.bipush 47, 2) := dq_16 (kX5_factors_1 16 rfl) (kX5_factors_1 17 rfl) (by decide)
theorem dX5_factors_50 : decode cX5_factors 50 = .ok (.if_icmp .ne 8, 3) := dq_160 (kX5_factors_1 18 rfl) (kX5_factors_1 19 rfl) (kX5_factors_1 20 rfl) (by decide)
theorem dX5_factors_53 : decode cX5_factors 53 = .ok (.bipush 8, 2) := dq_16 (kX5_factors_1 21 rfl) (kX5_factors_1 22 rfl) (by decide)
theorem dX5_factors_55 : decode cX5_factors 55 = .ok (.goto 5, 3) := dq_167 (kX5_factors_1 23 rfl) (kX5_factors_1 24 rfl) (kX5_factors_1 25 rfl) (by decide)
theorem dX5_factors_58 : decode cX5_factors 58 = .ok (.bipush 9, 2) := dq_16 (kX5_factors_1 26 rfl) (kX5_factors_1 27 rfl) (by decide)
theorem dX5_factors_60 : decode cX5_factors 60 = .ok (.istore_n 2, 1) := dq_61 (kX5_factors_1 28 rfl)
theorem dX5_factors_61 : decode cX5_factors 61 = .ok (.aload_n 0, 1) := dq_42 (kX5_factors_1 29 rfl)
theorem dX5_factors_62 : decode cX5_factors 62 = .ok (.dup, 1) := dq_89 (kX5_factors_1 30 rfl)
theorem dX5_factors_63 : decode cX5_factors 63 = .ok (.getfield 9, 3) := dq_180 (kX5_factors_1 31 rfl) (kX5_factors_2 0 rfl) (kX5_factors_2 1 rfl) rfl
theorem dX5_factors_66 : decode cX5_factors 66 = .ok (.iconst 1, 1) := dq_4 (kX5_factors_2 2 rfl)
theorem dX5_factors_67 : decode cX5_factors 67 = .ok (.iadd, 1) := dq_96 (kX5_factors_2 3 rfl)
theorem dX5_factors_68 : decode cX5_factors 68 = .ok (.putfield 9, 3) := dq_181 (kX5_factors_2 4 rfl) (kX5_factors_2 5 rfl) (kX5_factors_2 6 rfl) rfl
theorem dX5_factors_71 : decode cX5_factors 71 = .ok (.aload_n 0, 1) := dq_42 (kX5_factors_2 7 rfl)
theorem dX5_factors_72 : decode cX5_factors 72 = .ok (.invokevirtual 111, 3) := dq_182 (kX5_factors_2 8 rfl) (kX5_factors_2 9 rfl) (kX5_factors_2 10 rfl) rfl
theorem dX5_factors_75 : decode cX5_factors 75 = .ok (.aload_n 0, 1) := dq_42 (kX5_factors_2 11 rfl)
theorem dX5_factors_76 : decode cX5_factors 76 = .ok (.getfield 31, 3) := dq_180 (kX5_factors_2 12 rfl) (kX5_factors_2 13 rfl) (kX5_factors_2 14 rfl) rfl
theorem dX5_factors_79 : decode cX5_factors 79 = .ok (.iload_n 2, 1) := dq_28 (kX5_factors_2 15 rfl)
theorem dX5_factors_80 : decode cX5_factors 80 = .ok (.iconst 0, 1) := dq_3 (kX5_factors_2 16 rfl)
theorem dX5_factors_81 : decode cX5_factors 81 = .ok (.invokevirtual 92, 3) := dq_182 (kX5_factors_2 17 rfl) (kX5_factors_2 18 rfl) (kX5_factors_2 19 rfl) rfl
theorem dX5_factors_84 : decode cX5_factors 84 = .ok (.pop, 1) := dq_87 (kX5_factors_2 20 rfl)
theorem dX5_factors_85 : decode cX5_factors 85 = .ok (.iinc 1 1, 3) := dq_132 (kX5_factors_2 21 rfl) (kX5_factors_2 22 rfl) (kX5_factors_2 23 rfl) rfl (by decide)
theorem dX5_factors_88 : decode cX5_factors 88 = .ok (.goto (-82), 3) := dq_167 (kX5_factors_2 24 rfl) (kX5_factors_2 25 rfl) (kX5_factors_2 26 rfl) (by decide)
theorem dX5_factors_91 : decode cX5_factors 91 = .ok (.return_, 1) := dq_177 (kX5_factors_2 27 rfl)

def bX5_factor_0 : List UInt8 := [42, 180, 0, 18, 153, 0, 4, 177, 42, 182, 0, 61, 60, 27, 156, 0, 7, 2, 167, 0, 10, 18, 117, 27, 146, 182, 0, 119, 61, 27, 16, 91]
theorem kX5_factor_0 (j : Nat) {b : UInt8} (hj : bX5_factor_0[j]? = some b) : AtB cX5_factor (0 + j) b := at_of32 (by decide +kernel) j hj
def bX5_factor_1 : List UInt8 := [160, 0, 32, 42, 16, 91, 182, 0, 80, 42, 182, 0, 102, 42, 89, 180, 0, 15, 4, 100, 181, 0, 15, 42, 16, 93, 182, 0, 38, 167, 0, 45]
theorem kX5_factor_1 (j : Nat) {b : UInt8} (hj : bX5_factor_1[j]? = some b) : AtB cX5_factor (32 + j) b := at_of32 (by decide +kernel) j hj
def bX5_factor_2 : List UInt8 := [28, 155, 0, 26, 42, 89, 180, 0, 9, 4, 96, 181, 0, 9, 42, 180, 0, 31, 4, 28, 182, 0, 92, 87, 167, 0, 18, 42, 180, 0, 31, 3]
theorem kX5_factor_2 (j : Nat) {b : UInt8} (hj : bX5_factor_2[j]? = some b) : AtB cX5_factor (64 + j) b := at_of32 (by decide +kernel) j hj
def bX5_factor_3 : List UInt8 := [42, 18, 76, 182, 0, 69, 182, 0, 92, 87, 177]
theorem kX5_factor_3 (j : Nat) {b : UInt8} (hj : bX5_factor_3[j]? = some b) : AtB cX5_factor (96 + j) b := at_of32 (by decide +kernel) j hj
theorem dX5_factor_0 : decode cX5_factor 0 = .ok (.aload_n 0, 1) := dq_42 (kX5_factor_0 0 rfl)
theorem dX5_factor_1 : decode cX5_factor 1 = .ok (.getfield 18, 3) := dq_180 (kX5_factor_0 1 rfl) (kX5_factor_0 2 rfl) (kX5_factor_0 3 rfl) rfl
theorem dX5_factor_4 : decode cX5_factor 4 = .ok (.ifCond .eq 4, 3) := dq_153 (kX5_factor_0 4 rfl) (kX5_factor_0 5 rfl) (kX5_factor_0 6 rfl) (by decide)
theorem dX5_factor_7 : decode cX5_factor 7 = .ok (.return_, 1) := dq_177 (kX5_factor_0 7 rfl)
theorem dX5_factor_8 : decode cX5_factor 8 = .ok (.aload_n 0, 1) := dq_42 (kX5_factor_0 8 rfl)
theorem dX5_factor_9 : decode cX5_factor 9 = .ok (.invokevirtual 61, 3) := dq_182 (kX5_factor_0 9 rfl) (kX5_factor_0 10 rfl) (kX5_factor_0 11 rfl) rfl
theorem dX5_factor_12 : decode cX5_factor 12 = .ok (.istore_n 1, 1) := dq_60 (kX5_factor_0 12 rfl)
theorem dX5_factor_13 : decode cX5_factor 13 = .ok (.iload_n 1, 1) := dq_27 (kX5_factor_0 13 rfl)
theorem dX5_factor_14 : decode cX5_factor 14 = .ok (.ifCond .ge 7, 3) := dq_156 (kX5_factor_0 14 rfl) (kX5_factor_0 15 rfl) (kX5_factor_0 16 rfl) (by decide)
theorem dX5_factor_17 : decode cX5_factor 17 = .ok (.iconst (-1), 1) := dq_2 (kX5_factor_0 17 rfl)
theorem dX5_factor_18 : decode cX5_factor 18 = .ok (.goto 10, 3) := dq_167 (kX5_factor_0 18 rfl) (kX5_factor_0 19 rfl) (kX5_factor_0 20 rfl) (by decide)
theorem dX5_factor_21 : decode cX5_factor 21 = .ok (.ldc 117, 2) := dq_18 (kX5_factor_0 21 rfl) (kX5_factor_0 22 rfl) rfl
theorem dX5_factor_23 : decode cX5_factor 23 = .ok (.iload_n 1, 1) := dq_27 (kX5_factor_0 23 rfl)
theorem dX5_factor_24 : decode cX5_factor 24 = .ok (.i2c, 1) := dq_146 (kX5_factor_0 24 rfl)
theorem dX5_factor_25 : decode cX5_factor 25 = .ok (.invokevirtual 119, 3) := dq_182 (kX5_factor_0 25 rfl) (kX5_factor_0 26 rfl) (kX5_factor_0 27 rfl) rfl
theorem dX5_factor_28 : decode cX5_factor 28 = .ok (.istore_n 2, 1) := dq_61 (kX5_factor_0 28 rfl)
theorem dX5_factor_29 : decode cX5_factor 29 = .ok (.iload_n 1, 1) := dq_27 (kX5_factor_0 29 rfl)
theorem dX5_factor_30 : decode cX5_factor 30 = .ok (.bipush 91, 2) := dq_16 (kX5_factor_0 30 rfl) (kX5_factor_0 31 rfl) (by decide)
theorem dX5_factor_32 : decode cX5_factor 32 = .ok (.if_icmp .ne 32, 3) := dq_160 (kX5_factor_1 0 rfl) (kX5_factor_1 1 rfl) (kX5_factor_1 2 rfl) (by decide)
theorem dX5_factor_35 : decode cX5_factor 35 = .ok (.aload_n 0, 1) := dq_42 (kX5_factor_1 3 rfl)
theorem dX5_factor_36 : decode cX5_factor 36 = .ok (.bipush 91, 2) := dq_16 (kX5_factor_1 4 rfl) (kX5_factor_1 5 rfl) (by decide)
theorem dX5_factor_38 : decode cX5_factor 38 = .ok (.invokevirtual 80, 3) := dq_182 (kX5_factor_1 6 rfl) (kX5_factor_1 7 rfl) (kX5_factor_1 8 rfl) rfl
theorem dX5_factor_41 : decode cX5_factor 41 = .ok (.aload_n 0, 1) := dq_42 (kX5_factor_1 9 rfl)
theorem dX5_factor_42 : decode cX5_factor 42 = .ok (.invokevirtual 102, 3) := dq_182 (kX5_factor_1 10 rfl) (kX5_factor_1 11 rfl) (kX5_factor_1 12 rfl) rfl
theorem dX5_factor_45 : decode cX5_factor 45 = .ok (.aload_n 0, 1) := dq_42 (kX5_factor_1 13 rfl)
theorem dX5_factor_46 : decode cX5_factor 46 = .ok (.dup, 1) := dq_89 (kX5_factor_1 14 rfl)
theorem dX5_factor_47 : decode cX5_factor 47 = .ok (.getfield 15, 3) := dq_180 (kX5_factor_1 15 rfl) (kX5_factor_1 16 rfl) (kX5_factor_1 17 rfl) rfl
theorem dX5_factor_50 : decode cX5_factor 50 = .ok (.iconst 1, 1) := dq_4 (kX5_factor_1 18 rfl)
theorem dX5_factor_51 : decode cX5_factor 51 = .ok (.isub, 1) := dq_100 (kX5_factor_1 19 rfl)
theorem dX5_factor_52 : decode cX5_factor 52 = .ok (.putfield 15, 3) := dq_181 (kX5_factor_1 20 rfl) (kX5_factor_1 21 rfl) (kX5_factor_1 22 rfl) rfl
theorem dX5_factor_55 : decode cX5_factor 55 = .ok (.aload_n 0, 1) := dq_42 (kX5_factor_1 23 rfl)
theorem dX5_factor_56 : decode cX5_factor 56 = .ok (.bipush 93, 2) := dq_16 (kX5_factor_1 24 rfl) (kX5_factor_1 25 rfl) (by decide)
theorem dX5_factor_58 : decode cX5_factor 58 = .ok (.invokevirtual 38, 3) := dq_182 (kX5_factor_1 26 rfl) (kX5_factor_1 27 rfl) (kX5_factor_1 28 rfl) rfl
theorem dX5_factor_61 : decode cX5_factor 61 = .ok (.goto 45, 3) := dq_167 (kX5_factor_1 29 rfl) (kX5_factor_1 30 rfl) (kX5_factor_1 31 rfl) (by decide)
theorem dX5_factor_64 : decode cX5_factor 64 = .ok (.iload_n 2, 1) := dq_28 (kX5_factor_2 0 rfl)
theorem dX5_factor_65 : decode cX5_factor 65 = .ok (.ifCond .lt 26, 3) := dq_155 (kX5_factor_2 1 rfl) (kX5_factor_2 2 rfl) (kX5_factor_2 3 rfl) (by decide)
theorem dX5_factor_68 : decode cX5_factor 68 = .ok (.aload_n 0, 1) := dq_42 (kX5_factor_2 4 rfl)
theorem dX5_factor_69 : decode cX5_factor 69 = .ok (.dup, 1) := dq_89 (kX5_factor_2 5 rfl)
theorem dX5_factor_70 : decode cX5_factor 70 = .ok (.getfield 9, 3) := dq_180 (kX5_factor_2 6 rfl) (kX5_factor_2 7 rfl) (kX5_factor_2 8 rfl) rfl
theorem dX5_factor_73 : decode cX5_factor 73 = .ok (.iconst 1, 1) := dq_4 (kX5_factor_2 9 rfl)
theorem dX5_factor_74 : decode cX5_factor 74 = .ok (.iadd, 1) := dq_96 (kX5_factor_2 10 rfl)
theorem dX5_factor_75 : decode cX5_factor 75 = .ok (.putfield 9, 3) := dq_181 (kX5_factor_2 11 rfl) (kX5_factor_2 12 rfl) (kX5_factor_2 13 rfl) rfl
theorem dX5_factor_78 : decode cX5_factor 78 = .ok (.aload_n 0, 1) := dq_42 (kX5_factor_2 14 rfl)
theorem dX5_factor_79 : decode cX5_factor 79 = .ok (.getfield 31, 3) := dq_180 (kX5_factor_2 15 rfl) (kX5_factor_2 16 rfl) (kX5_factor_2 17 rfl) rfl
theorem dX5_factor_82 : decode cX5_factor 82 = .ok (.iconst 1, 1) := dq_4 (kX5_factor_2 18 rfl)
theorem dX5_factor_83 : decode cX5_factor 83 = .ok (.iload_n 2, 1) := dq_28 (kX5_factor_2 19 rfl)
theorem dX5_factor_84 : decode cX5_factor 84 = .ok (.invokevirtual 92, 3) := dq_182 (kX5_factor_2 20 rfl) (kX5_factor_2 21 rfl) (kX5_factor_2 22 rfl) rfl
theorem dX5_factor_87 : decode cX5_factor 87 = .ok (.pop, 1) := dq_87 (kX5_factor_2 23 rfl)
theorem dX5_factor_88 : decode cX5_factor 88 = .ok (.goto 18, 3) := dq_167 (kX5_factor_2 24 rfl) (kX5_factor_2 25 rfl) (kX5_factor_2 26 rfl) (by decide)
theorem dX5_factor_91 : decode cX5_factor 91 = .ok (.aload_n 0, 1) := dq_42 (kX5_factor_2 27 rfl)
theorem dX5_factor_92 : decode cX5_factor 92 = .ok (.getfield 31, 3) := dq_180 (kX5_factor_2 28 rfl) (kX5_factor_2 29 rfl) (kX5_factor_2 30 rfl) rfl
theorem dX5_factor_95 : decode cX5_factor 95 = .ok (.iconst 0, 1) := dq_3 (kX5_factor_2 31 rfl)
theorem dX5_factor_96 : decode cX5_factor 96 = .ok (.aload_n 0, 1) := dq_42 (kX5_factor_3 0 rfl)
theorem dX5_factor_97 : decode cX5_factor 97 = .ok (.ldc 76, 2) := dq_18 (kX5_factor_3 1 rfl) (kX5_factor_3 2 rfl) rfl
theorem dX5_factor_99 : decode cX5_factor 99 = .ok (.invokevirtual 69, 3) := dq_182 (kX5_factor_3 3 rfl) (kX5_factor_3 4 rfl) (kX5_factor_3 5 rfl) rfl
theorem dX5_factor_102 : decode cX5_factor 102 = .ok (.invokevirtual 92, 3) := dq_182 (kX5_factor_3 6 rfl) (kX5_factor_3 7 rfl) (kX5_factor_3 8 rfl) rfl
theorem dX5_factor_105 : decode cX5_factor 105 = .ok (.pop, 1) := dq_87 (kX5_factor_3 9 rfl)
theorem dX5_factor_106 : decode cX5_factor 106 = .ok (.return_, 1) := dq_177 (kX5_factor_3 10 rfl)

def bX5_digits_0 : List UInt8 := [42, 180, 0, 9, 61, 3, 62, 3, 54, 4, 21, 4, 16, 6, 163, 0, 67, 42, 180, 0, 18, 154, 0, 60, 42, 182, 0, 61, 184, 0, 124, 153]
theorem kX5_digits_0 (j : Nat) {b : UInt8} (hj : bX5_digits_0[j]? = some b) : AtB cX5_digits (0 + j) b := at_of32 (by decide +kernel) j hj
def bX5_digits_1 : List UInt8 := [0, 50, 21, 4, 16, 6, 160, 0, 14, 42, 5, 42, 180, 0, 9, 182, 0, 57, 3, 172, 16, 10, 29, 104, 42, 182, 0, 61, 96, 16, 48, 100]
theorem kX5_digits_1 (j : Nat) {b : UInt8} (hj : bX5_digits_1[j]? = some b) : AtB cX5_digits (32 + j) b := at_of32 (by decide +kernel) j hj
def bX5_digits_2 : List UInt8 := [62, 42, 89, 180, 0, 9, 4, 96, 181, 0, 9, 132, 4, 1, 167, 255, 188, 42, 180, 0, 9, 28, 160, 0, 15, 42, 4, 42, 180, 0, 9, 182]
theorem kX5_digits_2 (j : Nat) {b : UInt8} (hj : bX5_digits_2[j]? = some b) : AtB cX5_digits (64 + j) b := at_of32 (by decide +kernel) j hj
def bX5_digits_3 : List UInt8 := [0, 57, 167, 0, 14, 29, 27, 164, 0, 9, 42, 6, 28, 182, 0, 57, 29, 172]
theorem kX5_digits_3 (j : Nat) {b : UInt8} (hj : bX5_digits_3[j]? = some b) : AtB cX5_digits (96 + j) b := at_of32 (by decide +kernel) j hj
theorem dX5_digits_0 : decode cX5_digits 0 = .ok (.aload_n 0, 1) := dq_42 (kX5_digits_0 0 rfl)
theorem dX5_digits_1 : decode cX5_digits 1 = .ok (.getfield 9, 3) := dq_180 (kX5_digits_0 1 rfl) (kX5_digits_0 2 rfl) (kX5_digits_0 3 rfl) rfl
theorem dX5_digits_4 : decode cX5_digits 4 = .ok (.istore_n 2, 1) := dq_61 (kX5_digits_0 4 rfl)
theorem dX5_digits_5 : decode cX5_digits 5 = .ok (.iconst 0, 1) := dq_3 (kX5_digits_0 5 rfl)
theorem dX5_digits_6 : decode cX5_digits 6 = .ok (.istore_n 3, 1) := dq_62 (kX5_digits_0 6 rfl)
theorem dX5_digits_7 : decode cX5_digits 7 = .ok (.iconst 0, 1) := dq_3 (kX5_digits_0 7 rfl)
theorem dX5_digits_8 : decode cX5_digits 8 = .ok (.istore 4, 2) := dq_54 (kX5_digits_0 8 rfl) (kX5_digits_0 9 rfl) rfl
theorem dX5_digits_10 : decode cX5_digits 10 = .ok (.iload 4, 2) := dq_21 (kX5_digits_0 10 rfl) (kX5_digits_0 11 rfl) rfl
theorem dX5_digits_12 : decode cX5_digits 12 = .ok (.bipush 6, 2) := dq_16 (kX5_digits_0 12 rfl) (kX5_digits_0 13 rfl) (by decide)
theorem dX5_digits_14 : decode cX5_digits 14 = .ok (.if_icmp .gt 67, 3) := dq_163 (kX5_digits_0 14 rfl) (kX5_digits_0 15 rfl) (kX5_digits_0 16 rfl) (by decide)
theorem dX5_digits_17 : decode cX5_digits 17 = .ok (.aload_n 0, 1) := dq_42 (kX5_digits_0 17 rfl)
theorem dX5_digits_18 : decode cX5_digits 18 = .ok (.getfield 18, 3) := dq_180 (kX5_digits_0 18 rfl) (kX5_digits_0 19 rfl) (kX5_digits_0 20 rfl) rfl
theorem dX5_digits_21 : decode cX5_digits 21 = .ok (.ifCond .ne 60, 3) := dq_154 (kX5_digits_0 21 rfl) (kX5_digits_0 22 rfl) (kX5_digits_0 23 rfl) (by decide)
theorem dX5_digits_24 : decode cX5_digits 24 = .ok (.aload_n 0, 1) := dq_42 (kX5_digits_0 24 rfl)
theorem dX5_digits_25 : decode cX5_digits 25 = .ok (.invokevirtual 61, 3) := dq_182 (kX5_digits_0 25 rfl) (kX5_digits_0 26 rfl) (kX5_digits_0 27 rfl) rfl
theorem dX5_digits_28 : decode cX5_digits 28 = .ok (.invokestatic 124, 3) := dq_184 (kX5_digits_0 28 rfl) (kX5_digits_0 29 rfl) (kX5_digits_0 30 rfl) rfl
theorem dX5_digits_31 : decode cX5_digits 31 = .ok (.ifCond .eq 50, 3) := dq_153 (kX5_digits_0 31 rfl) (kX5_digits_1 0 rfl) (kX5_digits_1 1 rfl) (by decide)
theorem dX5_digits_34 : decode cX5_digits 34 = .ok (.iload 4, 2) := dq_21 (kX5_digits_1 2 rfl) (kX5_digits_1 3 rfl) rfl
theorem dX5_digits_36 : decode cX5_digits 36 = .ok (.bipush 6, 2) := dq_16 (kX5_digits_1 4 rfl) (kX5_digits_1 5 rfl) (by decide)
theorem dX5_digits_38 : decode cX5_digits 38 = .ok (.if_icmp .ne 14, 3) := dq_160 (kX5_digits_1 6 rfl) (kX5_digits_1 7 rfl) (kX5_digits_1 8 rfl) (by decide)
theorem dX5_digits_41 : decode cX5_digits 41 = .ok (.aload_n 0, 1) := dq_42 (kX5_digits_1 9 rfl)
theorem dX5_digits_42 : decode cX5_digits 42 = .ok (.iconst 2, 1) := dq_5 (kX5_digits_1 10 rfl)
theorem dX5_digits_43 : decode cX5_digits 43 = .ok (.aload_n 0, 1) := dq_42 (kX5_digits_1 11 rfl)
theorem dX5_digits_44 : decode cX5_digits 44 = .ok (.getfield 9, 3) := dq_180 (kX5_digits_1 12 rfl) (kX5_digits_1 13 rfl) (kX5_digits_1 14 rfl) rfl
theorem dX5_digits_47 : decode cX5_digits 47 = .ok (.invokevirtual 57, 3) := dq_182 (kX5_digits_1 15 rfl) (kX5_digits_1 16 rfl) (kX5_digits_1 17 rfl) rfl
theorem dX5_digits_50 : decode cX5_digits 50 = .ok (.iconst 0, 1) := dq_3 (kX5_digits_1 18 rfl)
theorem dX5_digits_51 : decode cX5_digits 51 = .ok (.ireturn, 1) := dq_172 (kX5_digits_1 19 rfl)
theorem dX5_digits_52 : decode cX5_digits 52 = .ok (.bipush 10, 2) := dq_16 (kX5_digits_1 20 rfl) (kX5_digits_1 21 rfl) (by decide)
theorem dX5_digits_54 : decode cX5_digits 54 = .ok (.iload_n 3, 1) := dq_29 (kX5_digits_1 22 rfl)
theorem dX5_digits_55 : decode cX5_digits 55 = .ok (.imul, 1) := dq_104 (kX5_digits_1 23 rfl)
theorem dX5_digits_56 : decode cX5_digits 56 = .ok (.aload_n 0, 1) := dq_42 (kX5_digits_1 24 rfl)
theorem dX5_digits_57 : decode cX5_digits 57 = .ok (.invokevirtual 61, 3) := dq_182 (kX5_digits_1 25 rfl) (kX5_digits_1 26 rfl) (kX5_digits_1 27 rfl) rfl
theorem dX5_digits_60 : decode cX5_digits 60 = .ok (.iadd, 1) := dq_96 (kX5_digits_1 28 rfl)
theorem dX5_digits_61 : decode cX5_digits 61 = .ok (.bipush 48, 2) := dq_16 (kX5_digits_1 29 rfl) (kX5_digits_1 30 rfl) (by decide)
theorem dX5_digits_63 : decode cX5_digits 63 = .ok (.isub, 1) := dq_100 (kX5_digits_1 31 rfl)
theorem dX5_digits_64 : decode cX5_digits 64 = .ok (.istore_n 3, 1) := dq_62 (kX5_digits_2 0 rfl)
theorem dX5_digits_65 : decode cX5_digits 65 = .ok (.aload_n 0, 1) := dq_42 (kX5_digits_2 1 rfl)
theorem dX5_digits_66 : decode cX5_digits 66 = .ok (.dup, 1) := dq_89 (kX5_digits_2 2 rfl)
theorem dX5_digits_67 : decode cX5_digits 67 = .ok (.getfield 9, 3) := dq_180 (kX5_digits_2 3 rfl) (kX5_digits_2 4 rfl) (kX5_digits_2 5 rfl) rfl
theorem dX5_digits_70 : decode cX5_digits 70 = .ok (.iconst 1, 1) := dq_4 (kX5_digits_2 6 rfl)
theorem dX5_digits_71 : decode cX5_digits 71 = .ok (.iadd, 1) := dq_96 (kX5_digits_2 7 rfl)
theorem dX5_digits_72 : decode cX5_digits 72 = .ok (.putfield 9, 3) := dq_181 (kX5_digits_2 8 rfl) (kX5_digits_2 9 rfl) (kX5_digits_2 10 rfl) rfl
theorem dX5_digits_75 : decode cX5_digits 75 = .ok (.iinc 4 1, 3) := dq_132 (kX5_digits_2 11 rfl) (kX5_digits_2 12 rfl) (kX5_digits_2 13 rfl) rfl (by decide)
theorem dX5_digits_78 : decode cX5_digits 78 = .ok (.goto (-68), 3) := dq_167 (kX5_digits_2 14 rfl) (kX5_digits_2 15 rfl) (kX5_digits_2 16 rfl) (by decide)
theorem dX5_digits_81 : decode cX5_digits 81 = .ok (.aload_n 0, 1) := dq_42 (kX5_digits_2 17 rfl)
theorem dX5_digits_82 : decode cX5_digits 82 = .ok (.getfield 9, 3) := dq_180 (kX5_digits_2 18 rfl) (kX5_digits_2 19 rfl) (kX5_digits_2 20 rfl) rfl
theorem dX5_digits_85 : decode cX5_digits 85 = .ok (.iload_n 2, 1) := dq_28 (kX5_digits_2 21 rfl)
theorem dX5_digits_86 : decode cX5_digits 86 = .ok (.if_icmp .ne 15, 3) := dq_160 (kX5_digits_2 22 rfl) (kX5_digits_2 23 rfl) (kX5_digits_2 24 rfl) (by decide)
theorem dX5_digits_89 : decode cX5_digits 89 = .ok (.aload_n 0, 1) := dq_42 (kX5_digits_2 25 rfl)
theorem dX5_digits_90 : decode cX5_digits 90 = .ok (.iconst 1, 1) := dq_4 (kX5_digits_2 26 rfl)
theorem dX5_digits_91 : decode cX5_digits 91 = .ok (.aload_n 0, 1) := dq_42 (kX5_digits_2 27 rfl)
theorem dX5_digits_92 : decode cX5_digits 92 = .ok (.getfield 9, 3) := dq_180 (kX5_digits_2 28 rfl) (kX5_digits_2 29 rfl) (kX5_digits_2 30 rfl) rfl
theorem dX5_digits_95 : decode cX5_digits 95 = .ok (.invokevirtual 57, 3) := dq_182 (kX5_digits_2 31 rfl) (kX5_digits_3 0 rfl) (kX5_digits_3 1 rfl) rfl
theorem dX5_digits_98 : decode cX5_digits 98 = .ok (.goto 14, 3) := dq_167 (kX5_digits_3 2 rfl) (kX5_digits_3 3 rfl) (kX5_digits_3 4 rfl) (by decide)
theorem dX5_digits_101 : decode cX5_digits 101 = .ok (.iload_n 3, 1) := dq_29 (kX5_digits_3 5 rfl)
theorem dX5_digits_102 : decode cX5_digits 102 = .ok (.iload_n 1, 1) := dq_27 (kX5_digits_3 6 rfl)
theorem dX5_digits_103 : decode cX5_digits 103 = .ok (.if_icmp .le 9, 3) := dq_164 (kX5_digits_3 7 rfl) (kX5_digits_3 8 rfl) (kX5_digits_3 9 rfl) (by decide)
theorem dX5_digits_106 : decode cX5_digits 106 = .ok (.aload_n 0, 1) := dq_42 (kX5_digits_3 10 rfl)
theorem dX5_digits_107 : decode cX5_digits 107 = .ok (.iconst 3, 1) := dq_6 (kX5_digits_3 11 rfl)
theorem dX5_digits_108 : decode cX5_digits 108 = .ok (.iload_n 2, 1) := dq_28 (kX5_digits_3 12 rfl)
theorem dX5_digits_109 : decode cX5_digits 109 = .ok (.invokevirtual 57, 3) := dq_182 (kX5_digits_3 13 rfl) (kX5_digits_3 14 rfl) (kX5_digits_3 15 rfl) rfl
theorem dX5_digits_112 : decode cX5_digits 112 = .ok (.iload_n 3, 1) := dq_29 (kX5_digits_3 16 rfl)
theorem dX5_digits_113 : decode cX5_digits 113 = .ok (.ireturn, 1) := dq_172 (kX5_digits_3 17 rfl)

def bX5_isDigit_0 : List UInt8 := [26, 16, 48, 161, 0, 13, 26, 16, 57, 163, 0, 7, 4, 167, 0, 4, 3, 172]
theorem kX5_isDigit_0 (j : Nat) {b : UInt8} (hj : bX5_isDigit_0[j]? = some b) : AtB cX5_isDigit (0 + j) b := at_of32 (by decide +kernel) j hj
theorem dX5_isDigit_0 : decode cX5_isDigit 0 = .ok (.iload_n 0, 1) := dq_26 (kX5_isDigit_0 0 rfl)
theorem dX5_isDigit_1 : decode cX5_isDigit 1 = .ok (.bipush 48, 2) := dq_16 (kX5_isDigit_0 1 rfl) (kX5_isDigit_0 2 rfl) (by decide)
theorem dX5_isDigit_3 : decode cX5_isDigit 3 = .ok (.if_icmp .lt 13, 3) := dq_161 (kX5_isDigit_0 3 rfl) (kX5_isDigit_0 4 rfl) (kX5_isDigit_0 5 rfl) (by decide)
theorem dX5_isDigit_6 : decode cX5_isDigit 6 = .ok (.iload_n 0, 1) := dq_26 (kX5_isDigit_0 6 rfl)
theorem dX5_isDigit_7 : decode cX5_isDigit 7 = .ok (.bipush 57, 2) := dq_16 (kX5_isDigit_0 7 rfl) (kX5_isDigit_0 8 rfl) (by decide)
theorem dX5_isDigit_9 : decode cX5_isDigit 9 = .ok (.if_icmp .gt 7, 3) := dq_163 (kX5_isDigit_0 9 rfl) (kX5_isDigit_0 10 rfl) (kX5_isDigit_0 11 rfl) (by decide)
theorem dX5_isDigit_12 : decode cX5_isDigit 12 = .ok (.iconst 1, 1) := dq_4 (kX5_isDigit_0 12 rfl)
theorem dX5_isDigit_13 : decode cX5_isDigit 13 = .ok (.goto 4, 3) := dq_167 (kX5_isDigit_0 13 rfl) (kX5_isDigit_0 14 rfl) (kX5_isDigit_0 15 rfl) (by decide)
theorem dX5_isDigit_16 : decode cX5_isDigit 16 = .ok (.iconst 0, 1) := dq_3 (kX5_isDigit_0 16 rfl)
theorem dX5_isDigit_17 : decode cX5_isDigit 17 = .ok (.ireturn, 1) := dq_172 (kX5_isDigit_0 17 rfl)

def bX5_isFactorSign_0 : List UInt8 := [26, 16, 42, 159, 0, 15, 26, 16, 47, 159, 0, 9, 26, 16, 37, 160, 0, 7, 4, 167, 0, 4, 3, 172]
theorem kX5_isFactorSign_0 (j : Nat) {b : UInt8} (hj : bX5_isFactorSign_0[j]? = some b) : AtB cX5_isFactorSign (0 + j) b := at_of32 (by decide +kernel) j hj
theorem dX5_isFactorSign_0 : decode cX5_isFactorSign 0 = .ok (.iload_n 0, 1) := dq_26 (kX5_isFactorSign_0 0 rfl)
theorem dX5_isFactorSign_1 : decode cX5_isFactorSign 1 = .ok (.bipush 42, 2) := dq_16 (kX5_isFactorSign_0 1 rfl) (kX5_isFactorSign_0 2 rfl) (by decide)
theorem dX5_isFactorSign_3 : decode cX5_isFactorSign 3 = .ok (.if_icmp .eq 15, 3) := dq_159 (kX5_isFactorSign_0 3 rfl) (kX5_isFactorSign_0 4 rfl) (kX5_isFactorSign_0 5 rfl) (by decide)
theorem dX5_isFactorSign_6 : decode cX5_isFactorSign 6 = .ok (.iload_n 0, 1) := dq_26 (kX5_isFactorSign_0 6 rfl)
theorem dX5_isFactorSign_7 : decode cX5_isFactorSign 7 = .ok (.bipush 47, 2) := dq_16 (kX5_isFactorSign_0 7 rfl) (kX5_isFactorSign_0 8 rfl) (by decide)
theorem dX5_isFactorSign_9 : decode cX5_isFactorSign 9 = .ok (.if_icmp .eq 9, 3) := dq_159 (kX5_isFactorSign_0 9 rfl) (kX5_isFactorSign_0 10 rfl) (kX5_isFactorSign_0 11 rfl) (by decide)
theorem dX5_isFactorSign_12 : decode cX5_isFactorSign 12 = .ok (.iload_n 0, 1) := dq_26 (kX5_isFactorSign_0 12 rfl)
theorem dX5_isFactorSign_13 : decode cX5_isFactorSign 13 = .ok (.bipush 37, 2) := dq_16 (kX5_isFactorSign_0 13 rfl) (kX5_isFactorSign_0 14 rfl) (by decide)
theorem dX5_isFactorSign_15 : decode cX5_isFactorSign 15 = .ok (.if_icmp .ne 7, 3) := dq_160 (kX5_isFactorSign_0 15 rfl) (kX5_isFactorSign_0 16 rfl) (kX5_isFactorSign_0 17 rfl) (by decide)
theorem dX5_isFactorSign_18 : decode cX5_isFactorSign 18 = .ok (.iconst 1, 1) := dq_4 (kX5_isFactorSign_0 18 rfl)
theorem dX5_isFactorSign_19 : decode cX5_isFactorSign 19 = .ok (.goto 4, 3) := dq_167 (kX5_isFactorSign_0 19 rfl) (kX5_isFactorSign_0 20 rfl) (kX5_isFactorSign_0 21 rfl) (by decide)
theorem dX5_isFactorSign_22 : decode cX5_isFactorSign 22 = .ok (.iconst 0, 1) := dq_3 (kX5_isFactorSign_0 22 rfl)
theorem dX5_isFactorSign_23 : decode cX5_isFactorSign 23 = .ok (.ireturn, 1) := dq_172 (kX5_isFactorSign_0 23 rfl)

def bX5_next_0 : List UInt8 := [42, 180, 0, 24, 198, 0, 37, 42, 180, 0, 9, 155, 0, 30, 42, 180, 0, 9, 42, 180, 0, 28, 162, 0, 19, 42, 180, 0, 9, 42, 180, 0]
theorem kX5_next_0 (j : Nat) {b : UInt8} (hj : bX5_next_0[j]? = some b) : AtB cX5_next (0 + j) b := at_of32 (by decide +kernel) j hj
def bX5_next_1 : List UInt8 := [24, 190, 162, 0, 7, 4, 167, 0, 4, 3, 60, 27, 153, 0, 15, 42, 180, 0, 24, 42, 180, 0, 9, 46, 167, 0, 4, 2, 172]
theorem kX5_next_1 (j : Nat) {b : UInt8} (hj : bX5_next_1[j]? = some b) : AtB cX5_next (32 + j) b := at_of32 (by decide +kernel) j hj
theorem dX5_next_0 : decode cX5_next 0 = .ok (.aload_n 0, 1) := dq_42 (kX5_next_0 0 rfl)
theorem dX5_next_1 : decode cX5_next 1 = .ok (.getfield 24, 3) := dq_180 (kX5_next_0 1 rfl) (kX5_next_0 2 rfl) (kX5_next_0 3 rfl) rfl
theorem dX5_next_4 : decode cX5_next 4 = .ok (.ifnull 37, 3) := dq_198 (kX5_next_0 4 rfl) (kX5_next_0 5 rfl) (kX5_next_0 6 rfl) (by decide)
theorem dX5_next_7 : decode cX5_next 7 = .ok (.aload_n 0, 1) := dq_42 (kX5_next_0 7 rfl)
theorem dX5_next_8 : decode cX5_next 8 = .ok (.getfield 9, 3) := dq_180 (kX5_next_0 8 rfl) (kX5_next_0 9 rfl) (kX5_next_0 10 rfl) rfl
theorem dX5_next_11 : decode cX5_next 11 = .ok (.ifCond .lt 30, 3) := dq_155 (kX5_next_0 11 rfl) (kX5_next_0 12 rfl) (kX5_next_0 13 rfl) (by decide)
theorem dX5_next_14 : decode cX5_next 14 = .ok (.aload_n 0, 1) := dq_42 (kX5_next_0 14 rfl)
theorem dX5_next_15 : decode cX5_next 15 = .ok (.getfield 9, 3) := dq_180 (kX5_next_0 15 rfl) (kX5_next_0 16 rfl) (kX5_next_0 17 rfl) rfl
theorem dX5_next_18 : decode cX5_next 18 = .ok (.aload_n 0, 1) := dq_42 (kX5_next_0 18 rfl)
theorem dX5_next_19 : decode cX5_next 19 = .ok (.getfield 28, 3) := dq_180 (kX5_next_0 19 rfl) (kX5_next_0 20 rfl) (kX5_next_0 21 rfl) rfl
theorem dX5_next_22 : decode cX5_next 22 = .ok (.if_icmp .ge 19, 3) := dq_162 (kX5_next_0 22 rfl) (kX5_next_0 23 rfl) (kX5_next_0 24 rfl) (by decide)
theorem dX5_next_25 : decode cX5_next 25 = .ok (.aload_n 0, 1) := dq_42 (kX5_next_0 25 rfl)
theorem dX5_next_26 : decode cX5_next 26 = .ok (.getfield 9, 3) := dq_180 (kX5_next_0 26 rfl) (kX5_next_0 27 rfl) (kX5_next_0 28 rfl) rfl
theorem dX5_next_29 : decode cX5_next 29 = .ok (.aload_n 0, 1) := dq_42 (kX5_next_0 29 rfl)
theorem dX5_next_30 : decode cX5_next 30 = .ok (.getfield 24, 3) := dq_180 (kX5_next_0 30 rfl) (kX5_next_0 31 rfl) (kX5_next_1 0 rfl) rfl
theorem dX5_next_33 : decode cX5_next 33 = .ok (.arraylength, 1) := dq_190 (kX5_next_1 1 rfl)
theorem dX5_next_34 : decode cX5_next 34 = .ok (.if_icmp .ge 7, 3) := dq_162 (kX5_next_1 2 rfl) (kX5_next_1 3 rfl) (kX5_next_1 4 rfl) (by decide)
theorem dX5_next_37 : decode cX5_next 37 = .ok (.iconst 1, 1) := dq_4 (kX5_next_1 5 rfl)
theorem dX5_next_38 : decode cX5_next 38 = .ok (.goto 4, 3) := dq_167 (kX5_next_1 6 rfl) (kX5_next_1 7 rfl) (kX5_next_1 8 rfl) (by decide)
theorem dX5_next_41 : decode cX5_next 41 = .ok (.iconst 0, 1) := dq_3 (kX5_next_1 9 rfl)
theorem dX5_next_42 : decode cX5_next 42 = .ok (.istore_n 1, 1) := dq_60 (kX5_next_1 10 rfl)
theorem dX5_next_43 : decode cX5_next 43 = .ok (.iload_n 1, 1) := dq_27 (kX5_next_1 11 rfl)
theorem dX5_next_44 : decode cX5_next 44 = .ok (.ifCond .eq 15, 3) := dq_153 (kX5_next_1 12 rfl) (kX5_next_1 13 rfl) (kX5_next_1 14 rfl) (by decide)
theorem dX5_next_47 : decode cX5_next 47 = .ok (.aload_n 0, 1) := dq_42 (kX5_next_1 15 rfl)
theorem dX5_next_48 : decode cX5_next 48 = .ok (.getfield 24, 3) := dq_180 (kX5_next_1 16 rfl) (kX5_next_1 17 rfl) (kX5_next_1 18 rfl) rfl
theorem dX5_next_51 : decode cX5_next 51 = .ok (.aload_n 0, 1) := dq_42 (kX5_next_1 19 rfl)
theorem dX5_next_52 : decode cX5_next 52 = .ok (.getfield 9, 3) := dq_180 (kX5_next_1 20 rfl) (kX5_next_1 21 rfl) (kX5_next_1 22 rfl) rfl
theorem dX5_next_55 : decode cX5_next 55 = .ok (.iaload, 1) := dq_46 (kX5_next_1 23 rfl)
theorem dX5_next_56 : decode cX5_next 56 = .ok (.goto 4, 3) := dq_167 (kX5_next_1 24 rfl) (kX5_next_1 25 rfl) (kX5_next_1 26 rfl) (by decide)
theorem dX5_next_59 : decode cX5_next 59 = .ok (.iconst (-1), 1) := dq_2 (kX5_next_1 27 rfl)
theorem dX5_next_60 : decode cX5_next 60 = .ok (.ireturn, 1) := dq_172 (kX5_next_1 28 rfl)

def bX5_take_0 : List UInt8 := [42, 182, 0, 61, 27, 159, 0, 15, 42, 4, 42, 180, 0, 9, 182, 0, 57, 167, 0, 20, 42, 180, 0, 18, 154, 0, 13, 42, 89, 180, 0, 9]
theorem kX5_take_0 (j : Nat) {b : UInt8} (hj : bX5_take_0[j]? = some b) : AtB cX5_take (0 + j) b := at_of32 (by decide +kernel) j hj
def bX5_take_1 : List UInt8 := [4, 96, 181, 0, 9, 177]
theorem kX5_take_1 (j : Nat) {b : UInt8} (hj : bX5_take_1[j]? = some b) : AtB cX5_take (32 + j) b := at_of32 (by decide +kernel) j hj
theorem dX5_take_0 : decode cX5_take 0 = .ok (.aload_n 0, 1) := dq_42 (kX5_take_0 0 rfl)
theorem dX5_take_1 : decode cX5_take 1 = .ok (.invokevirtual 61, 3) := dq_182 (kX5_take_0 1 rfl) (kX5_take_0 2 rfl) (kX5_take_0 3 rfl) rfl
theorem dX5_take_4 : decode cX5_take 4 = .ok (.iload_n 1, 1) := dq_27 (kX5_take_0 4 rfl)
theorem dX5_take_5 : decode cX5_take 5 = .ok (.if_icmp .eq 15, 3) := dq_159 (kX5_take_0 5 rfl) (kX5_take_0 6 rfl) (kX5_take_0 7 rfl) (by decide)
theorem dX5_take_8 : decode cX5_take 8 = .ok (.aload_n 0, 1) := dq_42 (kX5_take_0 8 rfl)
theorem dX5_take_9 : decode cX5_take 9 = .ok (.iconst 1, 1) := dq_4 (kX5_take_0 9 rfl)
theorem dX5_take_10 : decode cX5_take 10 = .ok (.aload_n 0, 1) := dq_42 (kX5_take_0 10 rfl)
theorem dX5_take_11 : decode cX5_take 11 = .ok (.getfield 9, 3) := dq_180 (kX5_take_0 11 rfl) (kX5_take_0 12 rfl) (kX5_take_0 13 rfl) rfl
theorem dX5_take_14 : decode cX5_take 14 = .ok (.invokevirtual 57, 3) := dq_182 (kX5_take_0 14 rfl) (kX5_take_0 15 rfl) (kX5_take_0 16 rfl) rfl
theorem dX5_take_17 : decode cX5_take 17 = .ok (.goto 20, 3) := dq_167 (kX5_take_0 17 rfl) (kX5_take_0 18 rfl) (kX5_take_0 19 rfl) (by decide)
theorem dX5_take_20 : decode cX5_take 20 = .ok (.aload_n 0, 1) := dq_42 (kX5_take_0 20 rfl)
theorem dX5_take_21 : decode cX5_take 21 = .ok (.getfield 18, 3) := dq_180 (kX5_take_0 21 rfl) (kX5_take_0 22 rfl) (kX5_take_0 23 rfl) rfl
theorem dX5_take_24 : decode cX5_take 24 = .ok (.ifCond .ne 13, 3) := dq_154 (kX5_take_0 24 rfl) (kX5_take_0 25 rfl) (kX5_take_0 26 rfl) (by decide)
theorem dX5_take_27 : decode cX5_take 27 = .ok (.aload_n 0, 1) := dq_42 (kX5_take_0 27 rfl)
theorem dX5_take_28 : decode cX5_take 28 = .ok (.dup, 1) := dq_89 (kX5_take_0 28 rfl)
theorem dX5_take_29 : decode cX5_take 29 = .ok (.getfield 9, 3) := dq_180 (kX5_take_0 29 rfl) (kX5_take_0 30 rfl) (kX5_take_0 31 rfl) rfl
theorem dX5_take_32 : decode cX5_take 32 = .ok (.iconst 1, 1) := dq_4 (kX5_take_1 0 rfl)
theorem dX5_take_33 : decode cX5_take 33 = .ok (.iadd, 1) := dq_96 (kX5_take_1 1 rfl)
theorem dX5_take_34 : decode cX5_take 34 = .ok (.putfield 9, 3) := dq_181 (kX5_take_1 2 rfl) (kX5_take_1 3 rfl) (kX5_take_1 4 rfl) rfl
theorem dX5_take_37 : decode cX5_take 37 = .ok (.return_, 1) := dq_177 (kX5_take_1 5 rfl)

def bX5_deepen_0 : List UInt8 := [42, 182, 0, 61, 27, 159, 0, 15, 42, 4, 42, 180, 0, 9, 182, 0, 57, 167, 0, 34, 42, 180, 0, 15, 16, 8, 161, 0, 15, 42, 8, 42]
theorem kX5_deepen_0 (j : Nat) {b : UInt8} (hj : bX5_deepen_0[j]? = some b) : AtB cX5_deepen (0 + j) b := at_of32 (by decide +kernel) j hj
def bX5_deepen_1 : List UInt8 := [180, 0, 9, 182, 0, 57, 167, 0, 13, 42, 89, 180, 0, 9, 4, 96, 181, 0, 9, 42, 89, 180, 0, 15, 4, 96, 181, 0, 15, 177]
theorem kX5_deepen_1 (j : Nat) {b : UInt8} (hj : bX5_deepen_1[j]? = some b) : AtB cX5_deepen (32 + j) b := at_of32 (by decide +kernel) j hj
theorem dX5_deepen_0 : decode cX5_deepen 0 = .ok (.aload_n 0, 1) := dq_42 (kX5_deepen_0 0 rfl)
theorem dX5_deepen_1 : decode cX5_deepen 1 = .ok (.invokevirtual 61, 3) := dq_182 (kX5_deepen_0 1 rfl) (kX5_deepen_0 2 rfl) (kX5_deepen_0 3 rfl) rfl
theorem dX5_deepen_4 : decode cX5_deepen 4 = .ok (.iload_n 1, 1) := dq_27 (kX5_deepen_0 4 rfl)
theorem dX5_deepen_5 : decode cX5_deepen 5 = .ok (.if_icmp .eq 15, 3) := dq_159 (kX5_deepen_0 5 rfl) (kX5_deepen_0 6 rfl) (kX5_deepen_0 7 rfl) (by decide)
theorem dX5_deepen_8 : decode cX5_deepen 8 = .ok (.aload_n 0, 1) := dq_42 (kX5_deepen_0 8 rfl)
theorem dX5_deepen_9 : decode cX5_deepen 9 = .ok (.iconst 1, 1) := dq_4 (kX5_deepen_0 9 rfl)
theorem dX5_deepen_10 : decode cX5_deepen 10 = .ok (.aload_n 0, 1) := dq_42 (kX5_deepen_0 10 rfl)
theorem dX5_deepen_11 : decode cX5_deepen 11 = .ok (.getfield 9, 3) := dq_180 (kX5_deepen_0 11 rfl) (kX5_deepen_0 12 rfl) (kX5_deepen_0 13 rfl) rfl
theorem dX5_deepen_14 : decode cX5_deepen 14 = .ok (.invokevirtual 57, 3) := dq_182 (kX5_deepen_0 14 rfl) (kX5_deepen_0 15 rfl) (kX5_deepen_0 16 rfl) rfl
theorem dX5_deepen_17 : decode cX5_deepen 17 = .ok (.goto 34, 3) := dq_167 (kX5_deepen_0 17 rfl) (kX5_deepen_0 18 rfl) (kX5_deepen_0 19 rfl) (by decide)
theorem dX5_deepen_20 : decode cX5_deepen 20 = .ok (.aload_n 0, 1) := dq_42 (kX5_deepen_0 20 rfl)
theorem dX5_deepen_21 : decode cX5_deepen 21 = .ok (.getfield 15, 3) := dq_180 (kX5_deepen_0 21 rfl) (kX5_deepen_0 22 rfl) (kX5_deepen_0 23 rfl) rfl
theorem dX5_deepen_24 : decode cX5_deepen 24 = .ok (.bipush 8, 2) := dq_16 (kX5_deepen_0 24 rfl) (kX5_deepen_0 25 rfl) (by decide)
theorem dX5_deepen_26 : decode cX5_deepen 26 = .ok (.if_icmp .lt 15, 3) := dq_161 (kX5_deepen_0 26 rfl) (kX5_deepen_0 27 rfl) (kX5_deepen_0 28 rfl) (by decide)
theorem dX5_deepen_29 : decode cX5_deepen 29 = .ok (.aload_n 0, 1) := dq_42 (kX5_deepen_0 29 rfl)
theorem dX5_deepen_30 : decode cX5_deepen 30 = .ok (.iconst 5, 1) := dq_8 (kX5_deepen_0 30 rfl)
theorem dX5_deepen_31 : decode cX5_deepen 31 = .ok (.aload_n 0, 1) := dq_42 (kX5_deepen_0 31 rfl)
theorem dX5_deepen_32 : decode cX5_deepen 32 = .ok (.getfield 9, 3) := dq_180 (kX5_deepen_1 0 rfl) (kX5_deepen_1 1 rfl) (kX5_deepen_1 2 rfl) rfl
theorem dX5_deepen_35 : decode cX5_deepen 35 = .ok (.invokevirtual 57, 3) := dq_182 (kX5_deepen_1 3 rfl) (kX5_deepen_1 4 rfl) (kX5_deepen_1 5 rfl) rfl
theorem dX5_deepen_38 : decode cX5_deepen 38 = .ok (.goto 13, 3) := dq_167 (kX5_deepen_1 6 rfl) (kX5_deepen_1 7 rfl) (kX5_deepen_1 8 rfl) (by decide)
theorem dX5_deepen_41 : decode cX5_deepen 41 = .ok (.aload_n 0, 1) := dq_42 (kX5_deepen_1 9 rfl)
theorem dX5_deepen_42 : decode cX5_deepen 42 = .ok (.dup, 1) := dq_89 (kX5_deepen_1 10 rfl)
theorem dX5_deepen_43 : decode cX5_deepen 43 = .ok (.getfield 9, 3) := dq_180 (kX5_deepen_1 11 rfl) (kX5_deepen_1 12 rfl) (kX5_deepen_1 13 rfl) rfl
theorem dX5_deepen_46 : decode cX5_deepen 46 = .ok (.iconst 1, 1) := dq_4 (kX5_deepen_1 14 rfl)
theorem dX5_deepen_47 : decode cX5_deepen 47 = .ok (.iadd, 1) := dq_96 (kX5_deepen_1 15 rfl)
theorem dX5_deepen_48 : decode cX5_deepen 48 = .ok (.putfield 9, 3) := dq_181 (kX5_deepen_1 16 rfl) (kX5_deepen_1 17 rfl) (kX5_deepen_1 18 rfl) rfl
theorem dX5_deepen_51 : decode cX5_deepen 51 = .ok (.aload_n 0, 1) := dq_42 (kX5_deepen_1 19 rfl)
theorem dX5_deepen_52 : decode cX5_deepen 52 = .ok (.dup, 1) := dq_89 (kX5_deepen_1 20 rfl)
theorem dX5_deepen_53 : decode cX5_deepen 53 = .ok (.getfield 15, 3) := dq_180 (kX5_deepen_1 21 rfl) (kX5_deepen_1 22 rfl) (kX5_deepen_1 23 rfl) rfl
theorem dX5_deepen_56 : decode cX5_deepen 56 = .ok (.iconst 1, 1) := dq_4 (kX5_deepen_1 24 rfl)
theorem dX5_deepen_57 : decode cX5_deepen 57 = .ok (.iadd, 1) := dq_96 (kX5_deepen_1 25 rfl)
theorem dX5_deepen_58 : decode cX5_deepen 58 = .ok (.putfield 15, 3) := dq_181 (kX5_deepen_1 26 rfl) (kX5_deepen_1 27 rfl) (kX5_deepen_1 28 rfl) rfl
theorem dX5_deepen_61 : decode cX5_deepen 61 = .ok (.return_, 1) := dq_177 (kX5_deepen_1 29 rfl)

def bX5_refuse_0 : List UInt8 := [42, 180, 0, 18, 154, 0, 13, 42, 27, 181, 0, 18, 42, 28, 181, 0, 21, 177]
theorem kX5_refuse_0 (j : Nat) {b : UInt8} (hj : bX5_refuse_0[j]? = some b) : AtB cX5_refuse (0 + j) b := at_of32 (by decide +kernel) j hj
theorem dX5_refuse_0 : decode cX5_refuse 0 = .ok (.aload_n 0, 1) := dq_42 (kX5_refuse_0 0 rfl)
theorem dX5_refuse_1 : decode cX5_refuse 1 = .ok (.getfield 18, 3) := dq_180 (kX5_refuse_0 1 rfl) (kX5_refuse_0 2 rfl) (kX5_refuse_0 3 rfl) rfl
theorem dX5_refuse_4 : decode cX5_refuse 4 = .ok (.ifCond .ne 13, 3) := dq_154 (kX5_refuse_0 4 rfl) (kX5_refuse_0 5 rfl) (kX5_refuse_0 6 rfl) (by decide)
theorem dX5_refuse_7 : decode cX5_refuse 7 = .ok (.aload_n 0, 1) := dq_42 (kX5_refuse_0 7 rfl)
theorem dX5_refuse_8 : decode cX5_refuse 8 = .ok (.iload_n 1, 1) := dq_27 (kX5_refuse_0 8 rfl)
theorem dX5_refuse_9 : decode cX5_refuse 9 = .ok (.putfield 18, 3) := dq_181 (kX5_refuse_0 9 rfl) (kX5_refuse_0 10 rfl) (kX5_refuse_0 11 rfl) rfl
theorem dX5_refuse_12 : decode cX5_refuse 12 = .ok (.aload_n 0, 1) := dq_42 (kX5_refuse_0 12 rfl)
theorem dX5_refuse_13 : decode cX5_refuse 13 = .ok (.iload_n 2, 1) := dq_28 (kX5_refuse_0 13 rfl)
theorem dX5_refuse_14 : decode cX5_refuse 14 = .ok (.putfield 21, 3) := dq_181 (kX5_refuse_0 14 rfl) (kX5_refuse_0 15 rfl) (kX5_refuse_0 16 rfl) rfl
theorem dX5_refuse_17 : decode cX5_refuse 17 = .ok (.return_, 1) := dq_177 (kX5_refuse_0 17 rfl)

def bX5_set_0 : List UInt8 := [42, 180, 0, 31, 180, 0, 42, 42, 180, 0, 31, 180, 0, 42, 180, 0, 127, 4, 100, 27, 28, 182, 0, 130, 177]
theorem kX5_set_0 (j : Nat) {b : UInt8} (hj : bX5_set_0[j]? = some b) : AtB cX5_set (0 + j) b := at_of32 (by decide +kernel) j hj
theorem dX5_set_0 : decode cX5_set 0 = .ok (.aload_n 0, 1) := dq_42 (kX5_set_0 0 rfl)
theorem dX5_set_1 : decode cX5_set 1 = .ok (.getfield 31, 3) := dq_180 (kX5_set_0 1 rfl) (kX5_set_0 2 rfl) (kX5_set_0 3 rfl) rfl
theorem dX5_set_4 : decode cX5_set 4 = .ok (.getfield 42, 3) := dq_180 (kX5_set_0 4 rfl) (kX5_set_0 5 rfl) (kX5_set_0 6 rfl) rfl
theorem dX5_set_7 : decode cX5_set 7 = .ok (.aload_n 0, 1) := dq_42 (kX5_set_0 7 rfl)
theorem dX5_set_8 : decode cX5_set 8 = .ok (.getfield 31, 3) := dq_180 (kX5_set_0 8 rfl) (kX5_set_0 9 rfl) (kX5_set_0 10 rfl) rfl
theorem dX5_set_11 : decode cX5_set 11 = .ok (.getfield 42, 3) := dq_180 (kX5_set_0 11 rfl) (kX5_set_0 12 rfl) (kX5_set_0 13 rfl) rfl
theorem dX5_set_14 : decode cX5_set 14 = .ok (.getfield 127, 3) := dq_180 (kX5_set_0 14 rfl) (kX5_set_0 15 rfl) (kX5_set_0 16 rfl) rfl
theorem dX5_set_17 : decode cX5_set 17 = .ok (.iconst 1, 1) := dq_4 (kX5_set_0 17 rfl)
theorem dX5_set_18 : decode cX5_set 18 = .ok (.isub, 1) := dq_100 (kX5_set_0 18 rfl)
theorem dX5_set_19 : decode cX5_set 19 = .ok (.iload_n 1, 1) := dq_27 (kX5_set_0 19 rfl)
theorem dX5_set_20 : decode cX5_set 20 = .ok (.iload_n 2, 1) := dq_28 (kX5_set_0 20 rfl)
theorem dX5_set_21 : decode cX5_set 21 = .ok (.invokevirtual 130, 3) := dq_182 (kX5_set_0 21 rfl) (kX5_set_0 22 rfl) (kX5_set_0 23 rfl) rfl
theorem dX5_set_24 : decode cX5_set 24 = .ok (.return_, 1) := dq_177 (kX5_set_0 24 rfl)

def bX6_init_0 : List UInt8 := [42, 183, 0, 3, 42, 187, 0, 9, 89, 5, 16, 8, 183, 0, 11, 181, 0, 14, 42, 16, 24, 188, 10, 181, 0, 20, 42, 16, 24, 188, 10, 181]
theorem kX6_init_0 (j : Nat) {b : UInt8} (hj : bX6_init_0[j]? = some b) : AtB cX6_init (0 + j) b := at_of32 (by decide +kernel) j hj
def bX6_init_1 : List UInt8 := [0, 24, 42, 16, 64, 188, 10, 181, 0, 27, 42, 16, 24, 188, 10, 181, 0, 30, 42, 16, 8, 188, 10, 181, 0, 33, 42, 17, 8, 0, 188, 10]
theorem kX6_init_1 (j : Nat) {b : UInt8} (hj : bX6_init_1[j]? = some b) : AtB cX6_init (32 + j) b := at_of32 (by decide +kernel) j hj
def bX6_init_2 : List UInt8 := [181, 0, 36, 42, 16, 8, 188, 10, 181, 0, 39, 42, 2, 181, 0, 42, 42, 2, 181, 0, 46, 42, 180, 0, 24, 17, 1, 103, 184, 0, 49, 177]
theorem kX6_init_2 (j : Nat) {b : UInt8} (hj : bX6_init_2[j]? = some b) : AtB cX6_init (64 + j) b := at_of32 (by decide +kernel) j hj
theorem dX6_init_0 : decode cX6_init 0 = .ok (.aload_n 0, 1) := dq_42 (kX6_init_0 0 rfl)
theorem dX6_init_1 : decode cX6_init 1 = .ok (.invokespecial 3, 3) := dq_183 (kX6_init_0 1 rfl) (kX6_init_0 2 rfl) (kX6_init_0 3 rfl) rfl
theorem dX6_init_4 : decode cX6_init 4 = .ok (.aload_n 0, 1) := dq_42 (kX6_init_0 4 rfl)
theorem dX6_init_5 : decode cX6_init 5 = .ok (.new 9, 3) := dq_187 (kX6_init_0 5 rfl) (kX6_init_0 6 rfl) (kX6_init_0 7 rfl) rfl
theorem dX6_init_8 : decode cX6_init 8 = .ok (.dup, 1) := dq_89 (kX6_init_0 8 rfl)
theorem dX6_init_9 : decode cX6_init 9 = .ok (.iconst 2, 1) := dq_5 (kX6_init_0 9 rfl)
theorem dX6_init_10 : decode cX6_init 10 = .ok (.bipush 8, 2) := dq_16 (kX6_init_0 10 rfl) (kX6_init_0 11 rfl) (by decide)
theorem dX6_init_12 : decode cX6_init 12 = .ok (.invokespecial 11, 3) := dq_183 (kX6_init_0 12 rfl) (kX6_init_0 13 rfl) (kX6_init_0 14 rfl) rfl
theorem dX6_init_15 : decode cX6_init 15 = .ok (.putfield 14, 3) := dq_181 (kX6_init_0 15 rfl) (kX6_init_0 16 rfl) (kX6_init_0 17 rfl) rfl
theorem dX6_init_18 : decode cX6_init 18 = .ok (.aload_n 0, 1) := dq_42 (kX6_init_0 18 rfl)
theorem dX6_init_19 : decode cX6_init 19 = .ok (.bipush 24, 2) := dq_16 (kX6_init_0 19 rfl) (kX6_init_0 20 rfl) (by decide)
theorem dX6_init_21 : decode cX6_init 21 = .ok (.newarray .int, 2) := dq_188_10 (kX6_init_0 21 rfl) (kX6_init_0 22 rfl)
theorem dX6_init_23 : decode cX6_init 23 = .ok (.putfield 20, 3) := dq_181 (kX6_init_0 23 rfl) (kX6_init_0 24 rfl) (kX6_init_0 25 rfl) rfl
theorem dX6_init_26 : decode cX6_init 26 = .ok (.aload_n 0, 1) := dq_42 (kX6_init_0 26 rfl)
theorem dX6_init_27 : decode cX6_init 27 = .ok (.bipush 24, 2) := dq_16 (kX6_init_0 27 rfl) (kX6_init_0 28 rfl) (by decide)
theorem dX6_init_29 : decode cX6_init 29 = .ok (.newarray .int, 2) := dq_188_10 (kX6_init_0 29 rfl) (kX6_init_0 30 rfl)
theorem dX6_init_31 : decode cX6_init 31 = .ok (.putfield 24, 3) := dq_181 (kX6_init_0 31 rfl) (kX6_init_1 0 rfl) (kX6_init_1 1 rfl) rfl
theorem dX6_init_34 : decode cX6_init 34 = .ok (.aload_n 0, 1) := dq_42 (kX6_init_1 2 rfl)
theorem dX6_init_35 : decode cX6_init 35 = .ok (.bipush 64, 2) := dq_16 (kX6_init_1 3 rfl) (kX6_init_1 4 rfl) (by decide)
theorem dX6_init_37 : decode cX6_init 37 = .ok (.newarray .int, 2) := dq_188_10 (kX6_init_1 5 rfl) (kX6_init_1 6 rfl)
theorem dX6_init_39 : decode cX6_init 39 = .ok (.putfield 27, 3) := dq_181 (kX6_init_1 7 rfl) (kX6_init_1 8 rfl) (kX6_init_1 9 rfl) rfl
theorem dX6_init_42 : decode cX6_init 42 = .ok (.aload_n 0, 1) := dq_42 (kX6_init_1 10 rfl)
theorem dX6_init_43 : decode cX6_init 43 = .ok (.bipush 24, 2) := dq_16 (kX6_init_1 11 rfl) (kX6_init_1 12 rfl) (by decide)
theorem dX6_init_45 : decode cX6_init 45 = .ok (.newarray .int, 2) := dq_188_10 (kX6_init_1 13 rfl) (kX6_init_1 14 rfl)
theorem dX6_init_47 : decode cX6_init 47 = .ok (.putfield 30, 3) := dq_181 (kX6_init_1 15 rfl) (kX6_init_1 16 rfl) (kX6_init_1 17 rfl) rfl
theorem dX6_init_50 : decode cX6_init 50 = .ok (.aload_n 0, 1) := dq_42 (kX6_init_1 18 rfl)
theorem dX6_init_51 : decode cX6_init 51 = .ok (.bipush 8, 2) := dq_16 (kX6_init_1 19 rfl) (kX6_init_1 20 rfl) (by decide)
theorem dX6_init_53 : decode cX6_init 53 = .ok (.newarray .int, 2) := dq_188_10 (kX6_init_1 21 rfl) (kX6_init_1 22 rfl)
theorem dX6_init_55 : decode cX6_init 55 = .ok (.putfield 33, 3) := dq_181 (kX6_init_1 23 rfl) (kX6_init_1 24 rfl) (kX6_init_1 25 rfl) rfl
theorem dX6_init_58 : decode cX6_init 58 = .ok (.aload_n 0, 1) := dq_42 (kX6_init_1 26 rfl)
theorem dX6_init_59 : decode cX6_init 59 = .ok (.sipush 2048, 3) := dq_17 (kX6_init_1 27 rfl) (kX6_init_1 28 rfl) (kX6_init_1 29 rfl) (by decide)
theorem dX6_init_62 : decode cX6_init 62 = .ok (.newarray .int, 2) := dq_188_10 (kX6_init_1 30 rfl) (kX6_init_1 31 rfl)
theorem dX6_init_64 : decode cX6_init 64 = .ok (.putfield 36, 3) := dq_181 (kX6_init_2 0 rfl) (kX6_init_2 1 rfl) (kX6_init_2 2 rfl) rfl
theorem dX6_init_67 : decode cX6_init 67 = .ok (.aload_n 0, 1) := dq_42 (kX6_init_2 3 rfl)
theorem dX6_init_68 : decode cX6_init 68 = .ok (.bipush 8, 2) := dq_16 (kX6_init_2 4 rfl) (kX6_init_2 5 rfl) (by decide)
theorem dX6_init_70 : decode cX6_init 70 = .ok (.newarray .int, 2) := dq_188_10 (kX6_init_2 6 rfl) (kX6_init_2 7 rfl)
theorem dX6_init_72 : decode cX6_init 72 = .ok (.putfield 39, 3) := dq_181 (kX6_init_2 8 rfl) (kX6_init_2 9 rfl) (kX6_init_2 10 rfl) rfl
theorem dX6_init_75 : decode cX6_init 75 = .ok (.aload_n 0, 1) := dq_42 (kX6_init_2 11 rfl)
theorem dX6_init_76 : decode cX6_init 76 = .ok (.iconst (-1), 1) := dq_2 (kX6_init_2 12 rfl)
theorem dX6_init_77 : decode cX6_init 77 = .ok (.putfield 42, 3) := dq_181 (kX6_init_2 13 rfl) (kX6_init_2 14 rfl) (kX6_init_2 15 rfl) rfl
theorem dX6_init_80 : decode cX6_init 80 = .ok (.aload_n 0, 1) := dq_42 (kX6_init_2 16 rfl)
theorem dX6_init_81 : decode cX6_init 81 = .ok (.iconst (-1), 1) := dq_2 (kX6_init_2 17 rfl)
theorem dX6_init_82 : decode cX6_init 82 = .ok (.putfield 46, 3) := dq_181 (kX6_init_2 18 rfl) (kX6_init_2 19 rfl) (kX6_init_2 20 rfl) rfl
theorem dX6_init_85 : decode cX6_init 85 = .ok (.aload_n 0, 1) := dq_42 (kX6_init_2 21 rfl)
theorem dX6_init_86 : decode cX6_init 86 = .ok (.getfield 24, 3) := dq_180 (kX6_init_2 22 rfl) (kX6_init_2 23 rfl) (kX6_init_2 24 rfl) rfl
theorem dX6_init_89 : decode cX6_init 89 = .ok (.sipush 359, 3) := dq_17 (kX6_init_2 25 rfl) (kX6_init_2 26 rfl) (kX6_init_2 27 rfl) (by decide)
theorem dX6_init_92 : decode cX6_init 92 = .ok (.invokestatic 49, 3) := dq_184 (kX6_init_2 28 rfl) (kX6_init_2 29 rfl) (kX6_init_2 30 rfl) rfl
theorem dX6_init_95 : decode cX6_init 95 = .ok (.return_, 1) := dq_177 (kX6_init_2 31 rfl)

def bX6_forget_0 : List UInt8 := [42, 2, 181, 0, 42, 177]
theorem kX6_forget_0 (j : Nat) {b : UInt8} (hj : bX6_forget_0[j]? = some b) : AtB cX6_forget (0 + j) b := at_of32 (by decide +kernel) j hj
theorem dX6_forget_0 : decode cX6_forget 0 = .ok (.aload_n 0, 1) := dq_42 (kX6_forget_0 0 rfl)
theorem dX6_forget_1 : decode cX6_forget 1 = .ok (.iconst (-1), 1) := dq_2 (kX6_forget_0 1 rfl)
theorem dX6_forget_2 : decode cX6_forget 2 = .ok (.putfield 42, 3) := dq_181 (kX6_forget_0 2 rfl) (kX6_forget_0 3 rfl) (kX6_forget_0 4 rfl) rfl
theorem dX6_forget_5 : decode cX6_forget 5 = .ok (.return_, 1) := dq_177 (kX6_forget_0 5 rfl)

def bX6_hasStation_0 : List UInt8 := [3, 61, 28, 42, 180, 0, 14, 180, 0, 55, 162, 0, 24, 42, 180, 0, 14, 28, 3, 182, 0, 58, 27, 160, 0, 5, 4, 172, 132, 2, 1, 167]
theorem kX6_hasStation_0 (j : Nat) {b : UInt8} (hj : bX6_hasStation_0[j]? = some b) : AtB cX6_hasStation (0 + j) b := at_of32 (by decide +kernel) j hj
def bX6_hasStation_1 : List UInt8 := [255, 227, 3, 172]
theorem kX6_hasStation_1 (j : Nat) {b : UInt8} (hj : bX6_hasStation_1[j]? = some b) : AtB cX6_hasStation (32 + j) b := at_of32 (by decide +kernel) j hj
theorem dX6_hasStation_0 : decode cX6_hasStation 0 = .ok (.iconst 0, 1) := dq_3 (kX6_hasStation_0 0 rfl)
theorem dX6_hasStation_1 : decode cX6_hasStation 1 = .ok (.istore_n 2, 1) := dq_61 (kX6_hasStation_0 1 rfl)
theorem dX6_hasStation_2 : decode cX6_hasStation 2 = .ok (.iload_n 2, 1) := dq_28 (kX6_hasStation_0 2 rfl)
theorem dX6_hasStation_3 : decode cX6_hasStation 3 = .ok (.aload_n 0, 1) := dq_42 (kX6_hasStation_0 3 rfl)
theorem dX6_hasStation_4 : decode cX6_hasStation 4 = .ok (.getfield 14, 3) := dq_180 (kX6_hasStation_0 4 rfl) (kX6_hasStation_0 5 rfl) (kX6_hasStation_0 6 rfl) rfl
theorem dX6_hasStation_7 : decode cX6_hasStation 7 = .ok (.getfield 55, 3) := dq_180 (kX6_hasStation_0 7 rfl) (kX6_hasStation_0 8 rfl) (kX6_hasStation_0 9 rfl) rfl
theorem dX6_hasStation_10 : decode cX6_hasStation 10 = .ok (.if_icmp .ge 24, 3) := dq_162 (kX6_hasStation_0 10 rfl) (kX6_hasStation_0 11 rfl) (kX6_hasStation_0 12 rfl) (by decide)
theorem dX6_hasStation_13 : decode cX6_hasStation 13 = .ok (.aload_n 0, 1) := dq_42 (kX6_hasStation_0 13 rfl)
theorem dX6_hasStation_14 : decode cX6_hasStation 14 = .ok (.getfield 14, 3) := dq_180 (kX6_hasStation_0 14 rfl) (kX6_hasStation_0 15 rfl) (kX6_hasStation_0 16 rfl) rfl
theorem dX6_hasStation_17 : decode cX6_hasStation 17 = .ok (.iload_n 2, 1) := dq_28 (kX6_hasStation_0 17 rfl)
theorem dX6_hasStation_18 : decode cX6_hasStation 18 = .ok (.iconst 0, 1) := dq_3 (kX6_hasStation_0 18 rfl)
theorem dX6_hasStation_19 : decode cX6_hasStation 19 = .ok (.invokevirtual 58, 3) := dq_182 (kX6_hasStation_0 19 rfl) (kX6_hasStation_0 20 rfl) (kX6_hasStation_0 21 rfl) rfl
theorem dX6_hasStation_22 : decode cX6_hasStation 22 = .ok (.iload_n 1, 1) := dq_27 (kX6_hasStation_0 22 rfl)
theorem dX6_hasStation_23 : decode cX6_hasStation 23 = .ok (.if_icmp .ne 5, 3) := dq_160 (kX6_hasStation_0 23 rfl) (kX6_hasStation_0 24 rfl) (kX6_hasStation_0 25 rfl) (by decide)
theorem dX6_hasStation_26 : decode cX6_hasStation 26 = .ok (.iconst 1, 1) := dq_4 (kX6_hasStation_0 26 rfl)
theorem dX6_hasStation_27 : decode cX6_hasStation 27 = .ok (.ireturn, 1) := dq_172 (kX6_hasStation_0 27 rfl)
theorem dX6_hasStation_28 : decode cX6_hasStation 28 = .ok (.iinc 2 1, 3) := dq_132 (kX6_hasStation_0 28 rfl) (kX6_hasStation_0 29 rfl) (kX6_hasStation_0 30 rfl) rfl (by decide)
theorem dX6_hasStation_31 : decode cX6_hasStation 31 = .ok (.goto (-29), 3) := dq_167 (kX6_hasStation_0 31 rfl) (kX6_hasStation_1 0 rfl) (kX6_hasStation_1 1 rfl) (by decide)
theorem dX6_hasStation_34 : decode cX6_hasStation 34 = .ok (.iconst 0, 1) := dq_3 (kX6_hasStation_1 2 rfl)
theorem dX6_hasStation_35 : decode cX6_hasStation 35 = .ok (.ireturn, 1) := dq_172 (kX6_hasStation_1 3 rfl)

def bX6_needs_0 : List UInt8 := [3, 60, 3, 61, 28, 42, 180, 0, 14, 180, 0, 55, 162, 0, 21, 27, 42, 180, 0, 14, 28, 4, 182, 0, 58, 96, 60, 132, 2, 1, 167, 255]
theorem kX6_needs_0 (j : Nat) {b : UInt8} (hj : bX6_needs_0[j]? = some b) : AtB cX6_needs (0 + j) b := at_of32 (by decide +kernel) j hj
def bX6_needs_1 : List UInt8 := [230, 27, 172]
theorem kX6_needs_1 (j : Nat) {b : UInt8} (hj : bX6_needs_1[j]? = some b) : AtB cX6_needs (32 + j) b := at_of32 (by decide +kernel) j hj
theorem dX6_needs_0 : decode cX6_needs 0 = .ok (.iconst 0, 1) := dq_3 (kX6_needs_0 0 rfl)
theorem dX6_needs_1 : decode cX6_needs 1 = .ok (.istore_n 1, 1) := dq_60 (kX6_needs_0 1 rfl)
theorem dX6_needs_2 : decode cX6_needs 2 = .ok (.iconst 0, 1) := dq_3 (kX6_needs_0 2 rfl)
theorem dX6_needs_3 : decode cX6_needs 3 = .ok (.istore_n 2, 1) := dq_61 (kX6_needs_0 3 rfl)
theorem dX6_needs_4 : decode cX6_needs 4 = .ok (.iload_n 2, 1) := dq_28 (kX6_needs_0 4 rfl)
theorem dX6_needs_5 : decode cX6_needs 5 = .ok (.aload_n 0, 1) := dq_42 (kX6_needs_0 5 rfl)
theorem dX6_needs_6 : decode cX6_needs 6 = .ok (.getfield 14, 3) := dq_180 (kX6_needs_0 6 rfl) (kX6_needs_0 7 rfl) (kX6_needs_0 8 rfl) rfl
theorem dX6_needs_9 : decode cX6_needs 9 = .ok (.getfield 55, 3) := dq_180 (kX6_needs_0 9 rfl) (kX6_needs_0 10 rfl) (kX6_needs_0 11 rfl) rfl
theorem dX6_needs_12 : decode cX6_needs 12 = .ok (.if_icmp .ge 21, 3) := dq_162 (kX6_needs_0 12 rfl) (kX6_needs_0 13 rfl) (kX6_needs_0 14 rfl) (by decide)
theorem dX6_needs_15 : decode cX6_needs 15 = .ok (.iload_n 1, 1) := dq_27 (kX6_needs_0 15 rfl)
theorem dX6_needs_16 : decode cX6_needs 16 = .ok (.aload_n 0, 1) := dq_42 (kX6_needs_0 16 rfl)
theorem dX6_needs_17 : decode cX6_needs 17 = .ok (.getfield 14, 3) := dq_180 (kX6_needs_0 17 rfl) (kX6_needs_0 18 rfl) (kX6_needs_0 19 rfl) rfl
theorem dX6_needs_20 : decode cX6_needs 20 = .ok (.iload_n 2, 1) := dq_28 (kX6_needs_0 20 rfl)
theorem dX6_needs_21 : decode cX6_needs 21 = .ok (.iconst 1, 1) := dq_4 (kX6_needs_0 21 rfl)
theorem dX6_needs_22 : decode cX6_needs 22 = .ok (.invokevirtual 58, 3) := dq_182 (kX6_needs_0 22 rfl) (kX6_needs_0 23 rfl) (kX6_needs_0 24 rfl) rfl
theorem dX6_needs_25 : decode cX6_needs 25 = .ok (.iadd, 1) := dq_96 (kX6_needs_0 25 rfl)
theorem dX6_needs_26 : decode cX6_needs 26 = .ok (.istore_n 1, 1) := dq_60 (kX6_needs_0 26 rfl)
theorem dX6_needs_27 : decode cX6_needs 27 = .ok (.iinc 2 1, 3) := dq_132 (kX6_needs_0 27 rfl) (kX6_needs_0 28 rfl) (kX6_needs_0 29 rfl) rfl (by decide)
theorem dX6_needs_30 : decode cX6_needs 30 = .ok (.goto (-26), 3) := dq_167 (kX6_needs_0 30 rfl) (kX6_needs_0 31 rfl) (kX6_needs_1 0 rfl) (by decide)
theorem dX6_needs_33 : decode cX6_needs 33 = .ok (.iload_n 1, 1) := dq_27 (kX6_needs_1 1 rfl)
theorem dX6_needs_34 : decode cX6_needs 34 = .ok (.ireturn, 1) := dq_172 (kX6_needs_1 2 rfl)

def bX6_seek_0 : List UInt8 := [42, 27, 181, 0, 42, 42, 2, 181, 0, 46, 42, 182, 0, 62, 42, 3, 3, 182, 0, 65, 177]
theorem kX6_seek_0 (j : Nat) {b : UInt8} (hj : bX6_seek_0[j]? = some b) : AtB cX6_seek (0 + j) b := at_of32 (by decide +kernel) j hj
theorem dX6_seek_0 : decode cX6_seek 0 = .ok (.aload_n 0, 1) := dq_42 (kX6_seek_0 0 rfl)
theorem dX6_seek_1 : decode cX6_seek 1 = .ok (.iload_n 1, 1) := dq_27 (kX6_seek_0 1 rfl)
theorem dX6_seek_2 : decode cX6_seek 2 = .ok (.putfield 42, 3) := dq_181 (kX6_seek_0 2 rfl) (kX6_seek_0 3 rfl) (kX6_seek_0 4 rfl) rfl
theorem dX6_seek_5 : decode cX6_seek 5 = .ok (.aload_n 0, 1) := dq_42 (kX6_seek_0 5 rfl)
theorem dX6_seek_6 : decode cX6_seek 6 = .ok (.iconst (-1), 1) := dq_2 (kX6_seek_0 6 rfl)
theorem dX6_seek_7 : decode cX6_seek 7 = .ok (.putfield 46, 3) := dq_181 (kX6_seek_0 7 rfl) (kX6_seek_0 8 rfl) (kX6_seek_0 9 rfl) rfl
theorem dX6_seek_10 : decode cX6_seek 10 = .ok (.aload_n 0, 1) := dq_42 (kX6_seek_0 10 rfl)
theorem dX6_seek_11 : decode cX6_seek 11 = .ok (.invokevirtual 62, 3) := dq_182 (kX6_seek_0 11 rfl) (kX6_seek_0 12 rfl) (kX6_seek_0 13 rfl) rfl
theorem dX6_seek_14 : decode cX6_seek 14 = .ok (.aload_n 0, 1) := dq_42 (kX6_seek_0 14 rfl)
theorem dX6_seek_15 : decode cX6_seek 15 = .ok (.iconst 0, 1) := dq_3 (kX6_seek_0 15 rfl)
theorem dX6_seek_16 : decode cX6_seek 16 = .ok (.iconst 0, 1) := dq_3 (kX6_seek_0 16 rfl)
theorem dX6_seek_17 : decode cX6_seek 17 = .ok (.invokevirtual 65, 3) := dq_182 (kX6_seek_0 17 rfl) (kX6_seek_0 18 rfl) (kX6_seek_0 19 rfl) rfl
theorem dX6_seek_20 : decode cX6_seek 20 = .ok (.return_, 1) := dq_177 (kX6_seek_0 20 rfl)

def bX6_lookAhead_0 : List UInt8 := [4, 60, 27, 4, 42, 180, 0, 14, 180, 0, 55, 120, 162, 0, 47, 3, 61, 28, 42, 180, 0, 14, 180, 0, 55, 162, 0, 28, 42, 180, 0, 36]
theorem kX6_lookAhead_0 (j : Nat) {b : UInt8} (hj : bX6_lookAhead_0[j]? = some b) : AtB cX6_lookAhead (0 + j) b := at_of32 (by decide +kernel) j hj
def bX6_lookAhead_1 : List UInt8 := [27, 16, 8, 104, 28, 96, 42, 27, 28, 182, 0, 68, 184, 0, 71, 132, 2, 1, 167, 255, 223, 132, 1, 1, 167, 255, 202, 177]
theorem kX6_lookAhead_1 (j : Nat) {b : UInt8} (hj : bX6_lookAhead_1[j]? = some b) : AtB cX6_lookAhead (32 + j) b := at_of32 (by decide +kernel) j hj
theorem dX6_lookAhead_0 : decode cX6_lookAhead 0 = .ok (.iconst 1, 1) := dq_4 (kX6_lookAhead_0 0 rfl)
theorem dX6_lookAhead_1 : decode cX6_lookAhead 1 = .ok (.istore_n 1, 1) := dq_60 (kX6_lookAhead_0 1 rfl)
theorem dX6_lookAhead_2 : decode cX6_lookAhead 2 = .ok (.iload_n 1, 1) := dq_27 (kX6_lookAhead_0 2 rfl)
theorem dX6_lookAhead_3 : decode cX6_lookAhead 3 = .ok (.iconst 1, 1) := dq_4 (kX6_lookAhead_0 3 rfl)
theorem dX6_lookAhead_4 : decode cX6_lookAhead 4 = .ok (.aload_n 0, 1) := dq_42 (kX6_lookAhead_0 4 rfl)
theorem dX6_lookAhead_5 : decode cX6_lookAhead 5 = .ok (.getfield 14, 3) := dq_180 (kX6_lookAhead_0 5 rfl) (kX6_lookAhead_0 6 rfl) (kX6_lookAhead_0 7 rfl) rfl
theorem dX6_lookAhead_8 : decode cX6_lookAhead 8 = .ok (.getfield 55, 3) := dq_180 (kX6_lookAhead_0 8 rfl) (kX6_lookAhead_0 9 rfl) (kX6_lookAhead_0 10 rfl) rfl
theorem dX6_lookAhead_11 : decode cX6_lookAhead 11 = .ok (.ishl, 1) := dq_120 (kX6_lookAhead_0 11 rfl)
theorem dX6_lookAhead_12 : decode cX6_lookAhead 12 = .ok (.if_icmp .ge 47, 3) := dq_162 (kX6_lookAhead_0 12 rfl) (kX6_lookAhead_0 13 rfl) (kX6_lookAhead_0 14 rfl) (by decide)
theorem dX6_lookAhead_15 : decode cX6_lookAhead 15 = .ok (.iconst 0, 1) := dq_3 (kX6_lookAhead_0 15 rfl)
theorem dX6_lookAhead_16 : decode cX6_lookAhead 16 = .ok (.istore_n 2, 1) := dq_61 (kX6_lookAhead_0 16 rfl)
theorem dX6_lookAhead_17 : decode cX6_lookAhead 17 = .ok (.iload_n 2, 1) := dq_28 (kX6_lookAhead_0 17 rfl)
theorem dX6_lookAhead_18 : decode cX6_lookAhead 18 = .ok (.aload_n 0, 1) := dq_42 (kX6_lookAhead_0 18 rfl)
theorem dX6_lookAhead_19 : decode cX6_lookAhead 19 = .ok (.getfield 14, 3) := dq_180 (kX6_lookAhead_0 19 rfl) (kX6_lookAhead_0 20 rfl) (kX6_lookAhead_0 21 rfl) rfl
theorem dX6_lookAhead_22 : decode cX6_lookAhead 22 = .ok (.getfield 55, 3) := dq_180 (kX6_lookAhead_0 22 rfl) (kX6_lookAhead_0 23 rfl) (kX6_lookAhead_0 24 rfl) rfl
theorem dX6_lookAhead_25 : decode cX6_lookAhead 25 = .ok (.if_icmp .ge 28, 3) := dq_162 (kX6_lookAhead_0 25 rfl) (kX6_lookAhead_0 26 rfl) (kX6_lookAhead_0 27 rfl) (by decide)
theorem dX6_lookAhead_28 : decode cX6_lookAhead 28 = .ok (.aload_n 0, 1) := dq_42 (kX6_lookAhead_0 28 rfl)
theorem dX6_lookAhead_29 : decode cX6_lookAhead 29 = .ok (.getfield 36, 3) := dq_180 (kX6_lookAhead_0 29 rfl) (kX6_lookAhead_0 30 rfl) (kX6_lookAhead_0 31 rfl) rfl
theorem dX6_lookAhead_32 : decode cX6_lookAhead 32 = .ok (.iload_n 1, 1) := dq_27 (kX6_lookAhead_1 0 rfl)
theorem dX6_lookAhead_33 : decode cX6_lookAhead 33 = .ok (.bipush 8, 2) := dq_16 (kX6_lookAhead_1 1 rfl) (kX6_lookAhead_1 2 rfl) (by decide)
theorem dX6_lookAhead_35 : decode cX6_lookAhead 35 = .ok (.imul, 1) := dq_104 (kX6_lookAhead_1 3 rfl)
theorem dX6_lookAhead_36 : decode cX6_lookAhead 36 = .ok (.iload_n 2, 1) := dq_28 (kX6_lookAhead_1 4 rfl)
theorem dX6_lookAhead_37 : decode cX6_lookAhead 37 = .ok (.iadd, 1) := dq_96 (kX6_lookAhead_1 5 rfl)
theorem dX6_lookAhead_38 : decode cX6_lookAhead 38 = .ok (.aload_n 0, 1) := dq_42 (kX6_lookAhead_1 6 rfl)
theorem dX6_lookAhead_39 : decode cX6_lookAhead 39 = .ok (.iload_n 1, 1) := dq_27 (kX6_lookAhead_1 7 rfl)
theorem dX6_lookAhead_40 : decode cX6_lookAhead 40 = .ok (.iload_n 2, 1) := dq_28 (kX6_lookAhead_1 8 rfl)
theorem dX6_lookAhead_41 : decode cX6_lookAhead 41 = .ok (.invokevirtual 68, 3) := dq_182 (kX6_lookAhead_1 9 rfl) (kX6_lookAhead_1 10 rfl) (kX6_lookAhead_1 11 rfl) rfl
theorem dX6_lookAhead_44 : decode cX6_lookAhead 44 = .ok (.invokestatic 71, 3) := dq_184 (kX6_lookAhead_1 12 rfl) (kX6_lookAhead_1 13 rfl) (kX6_lookAhead_1 14 rfl) rfl
theorem dX6_lookAhead_47 : decode cX6_lookAhead 47 = .ok (.iinc 2 1, 3) := dq_132 (kX6_lookAhead_1 15 rfl) (kX6_lookAhead_1 16 rfl) (kX6_lookAhead_1 17 rfl) rfl (by decide)
theorem dX6_lookAhead_50 : decode cX6_lookAhead 50 = .ok (.goto (-33), 3) := dq_167 (kX6_lookAhead_1 18 rfl) (kX6_lookAhead_1 19 rfl) (kX6_lookAhead_1 20 rfl) (by decide)
theorem dX6_lookAhead_53 : decode cX6_lookAhead 53 = .ok (.iinc 1 1, 3) := dq_132 (kX6_lookAhead_1 21 rfl) (kX6_lookAhead_1 22 rfl) (kX6_lookAhead_1 23 rfl) rfl (by decide)
theorem dX6_lookAhead_56 : decode cX6_lookAhead 56 = .ok (.goto (-54), 3) := dq_167 (kX6_lookAhead_1 24 rfl) (kX6_lookAhead_1 25 rfl) (kX6_lookAhead_1 26 rfl) (by decide)
theorem dX6_lookAhead_59 : decode cX6_lookAhead 59 = .ok (.return_, 1) := dq_177 (kX6_lookAhead_1 27 rfl)

def bX6_leastAhead_0 : List UInt8 := [2, 62, 3, 54, 4, 21, 4, 42, 180, 0, 14, 180, 0, 55, 162, 0, 76, 27, 21, 4, 122, 4, 126, 154, 0, 6, 167, 0, 58, 42, 180, 0]
theorem kX6_leastAhead_0 (j : Nat) {b : UInt8} (hj : bX6_leastAhead_0[j]? = some b) : AtB cX6_leastAhead (0 + j) b := at_of32 (by decide +kernel) j hj
def bX6_leastAhead_1 : List UInt8 := [27, 28, 16, 8, 104, 21, 4, 96, 184, 0, 75, 42, 180, 0, 36, 27, 4, 21, 4, 120, 2, 130, 126, 16, 8, 104, 21, 4, 96, 184, 0, 75]
theorem kX6_leastAhead_1 (j : Nat) {b : UInt8} (hj : bX6_leastAhead_1[j]? = some b) : AtB cX6_leastAhead (32 + j) b := at_of32 (by decide +kernel) j hj
def bX6_leastAhead_2 : List UInt8 := [96, 54, 5, 29, 2, 160, 0, 8, 21, 5, 167, 0, 9, 29, 21, 5, 184, 0, 78, 62, 132, 4, 1, 167, 255, 174, 3, 29, 184, 0, 83, 172]
theorem kX6_leastAhead_2 (j : Nat) {b : UInt8} (hj : bX6_leastAhead_2[j]? = some b) : AtB cX6_leastAhead (64 + j) b := at_of32 (by decide +kernel) j hj
theorem dX6_leastAhead_0 : decode cX6_leastAhead 0 = .ok (.iconst (-1), 1) := dq_2 (kX6_leastAhead_0 0 rfl)
theorem dX6_leastAhead_1 : decode cX6_leastAhead 1 = .ok (.istore_n 3, 1) := dq_62 (kX6_leastAhead_0 1 rfl)
theorem dX6_leastAhead_2 : decode cX6_leastAhead 2 = .ok (.iconst 0, 1) := dq_3 (kX6_leastAhead_0 2 rfl)
theorem dX6_leastAhead_3 : decode cX6_leastAhead 3 = .ok (.istore 4, 2) := dq_54 (kX6_leastAhead_0 3 rfl) (kX6_leastAhead_0 4 rfl) rfl
theorem dX6_leastAhead_5 : decode cX6_leastAhead 5 = .ok (.iload 4, 2) := dq_21 (kX6_leastAhead_0 5 rfl) (kX6_leastAhead_0 6 rfl) rfl
theorem dX6_leastAhead_7 : decode cX6_leastAhead 7 = .ok (.aload_n 0, 1) := dq_42 (kX6_leastAhead_0 7 rfl)
theorem dX6_leastAhead_8 : decode cX6_leastAhead 8 = .ok (.getfield 14, 3) := dq_180 (kX6_leastAhead_0 8 rfl) (kX6_leastAhead_0 9 rfl) (kX6_leastAhead_0 10 rfl) rfl
theorem dX6_leastAhead_11 : decode cX6_leastAhead 11 = .ok (.getfield 55, 3) := dq_180 (kX6_leastAhead_0 11 rfl) (kX6_leastAhead_0 12 rfl) (kX6_leastAhead_0 13 rfl) rfl
theorem dX6_leastAhead_14 : decode cX6_leastAhead 14 = .ok (.if_icmp .ge 76, 3) := dq_162 (kX6_leastAhead_0 14 rfl) (kX6_leastAhead_0 15 rfl) (kX6_leastAhead_0 16 rfl) (by decide)
theorem dX6_leastAhead_17 : decode cX6_leastAhead 17 = .ok (.iload_n 1, 1) := dq_27 (kX6_leastAhead_0 17 rfl)
theorem dX6_leastAhead_18 : decode cX6_leastAhead 18 = .ok (.iload 4, 2) := dq_21 (kX6_leastAhead_0 18 rfl) (kX6_leastAhead_0 19 rfl) rfl
theorem dX6_leastAhead_20 : decode cX6_leastAhead 20 = .ok (.ishr, 1) := dq_122 (kX6_leastAhead_0 20 rfl)
theorem dX6_leastAhead_21 : decode cX6_leastAhead 21 = .ok (.iconst 1, 1) := dq_4 (kX6_leastAhead_0 21 rfl)
theorem dX6_leastAhead_22 : decode cX6_leastAhead 22 = .ok (.iand, 1) := dq_126 (kX6_leastAhead_0 22 rfl)
theorem dX6_leastAhead_23 : decode cX6_leastAhead 23 = .ok (.ifCond .ne 6, 3) := dq_154 (kX6_leastAhead_0 23 rfl) (kX6_leastAhead_0 24 rfl) (kX6_leastAhead_0 25 rfl) (by decide)
theorem dX6_leastAhead_26 : decode cX6_leastAhead 26 = .ok (.goto 58, 3) := dq_167 (kX6_leastAhead_0 26 rfl) (kX6_leastAhead_0 27 rfl) (kX6_leastAhead_0 28 rfl) (by decide)
theorem dX6_leastAhead_29 : decode cX6_leastAhead 29 = .ok (.aload_n 0, 1) := dq_42 (kX6_leastAhead_0 29 rfl)
theorem dX6_leastAhead_30 : decode cX6_leastAhead 30 = .ok (.getfield 27, 3) := dq_180 (kX6_leastAhead_0 30 rfl) (kX6_leastAhead_0 31 rfl) (kX6_leastAhead_1 0 rfl) rfl
theorem dX6_leastAhead_33 : decode cX6_leastAhead 33 = .ok (.iload_n 2, 1) := dq_28 (kX6_leastAhead_1 1 rfl)
theorem dX6_leastAhead_34 : decode cX6_leastAhead 34 = .ok (.bipush 8, 2) := dq_16 (kX6_leastAhead_1 2 rfl) (kX6_leastAhead_1 3 rfl) (by decide)
theorem dX6_leastAhead_36 : decode cX6_leastAhead 36 = .ok (.imul, 1) := dq_104 (kX6_leastAhead_1 4 rfl)
theorem dX6_leastAhead_37 : decode cX6_leastAhead 37 = .ok (.iload 4, 2) := dq_21 (kX6_leastAhead_1 5 rfl) (kX6_leastAhead_1 6 rfl) rfl
theorem dX6_leastAhead_39 : decode cX6_leastAhead 39 = .ok (.iadd, 1) := dq_96 (kX6_leastAhead_1 7 rfl)
theorem dX6_leastAhead_40 : decode cX6_leastAhead 40 = .ok (.invokestatic 75, 3) := dq_184 (kX6_leastAhead_1 8 rfl) (kX6_leastAhead_1 9 rfl) (kX6_leastAhead_1 10 rfl) rfl
theorem dX6_leastAhead_43 : decode cX6_leastAhead 43 = .ok (.aload_n 0, 1) := dq_42 (kX6_leastAhead_1 11 rfl)
theorem dX6_leastAhead_44 : decode cX6_leastAhead 44 = .ok (.getfield 36, 3) := dq_180 (kX6_leastAhead_1 12 rfl) (kX6_leastAhead_1 13 rfl) (kX6_leastAhead_1 14 rfl) rfl
theorem dX6_leastAhead_47 : decode cX6_leastAhead 47 = .ok (.iload_n 1, 1) := dq_27 (kX6_leastAhead_1 15 rfl)
theorem dX6_leastAhead_48 : decode cX6_leastAhead 48 = .ok (.iconst 1, 1) := dq_4 (kX6_leastAhead_1 16 rfl)
theorem dX6_leastAhead_49 : decode cX6_leastAhead 49 = .ok (.iload 4, 2) := dq_21 (kX6_leastAhead_1 17 rfl) (kX6_leastAhead_1 18 rfl) rfl
theorem dX6_leastAhead_51 : decode cX6_leastAhead 51 = .ok (.ishl, 1) := dq_120 (kX6_leastAhead_1 19 rfl)
theorem dX6_leastAhead_52 : decode cX6_leastAhead 52 = .ok (.iconst (-1), 1) := dq_2 (kX6_leastAhead_1 20 rfl)
theorem dX6_leastAhead_53 : decode cX6_leastAhead 53 = .ok (.ixor, 1) := dq_130 (kX6_leastAhead_1 21 rfl)
theorem dX6_leastAhead_54 : decode cX6_leastAhead 54 = .ok (.iand, 1) := dq_126 (kX6_leastAhead_1 22 rfl)
theorem dX6_leastAhead_55 : decode cX6_leastAhead 55 = .ok (.bipush 8, 2) := dq_16 (kX6_leastAhead_1 23 rfl) (kX6_leastAhead_1 24 rfl) (by decide)
theorem dX6_leastAhead_57 : decode cX6_leastAhead 57 = .ok (.imul, 1) := dq_104 (kX6_leastAhead_1 25 rfl)
theorem dX6_leastAhead_58 : decode cX6_leastAhead 58 = .ok (.iload 4, 2) := dq_21 (kX6_leastAhead_1 26 rfl) (kX6_leastAhead_1 27 rfl) rfl
theorem dX6_leastAhead_60 : decode cX6_leastAhead 60 = .ok (.iadd, 1) := dq_96 (kX6_leastAhead_1 28 rfl)
theorem dX6_leastAhead_61 : decode cX6_leastAhead 61 = .ok (.invokestatic 75, 3) := dq_184 (kX6_leastAhead_1 29 rfl) (kX6_leastAhead_1 30 rfl) (kX6_leastAhead_1 31 rfl) rfl
theorem dX6_leastAhead_64 : decode cX6_leastAhead 64 = .ok (.iadd, 1) := dq_96 (kX6_leastAhead_2 0 rfl)
theorem dX6_leastAhead_65 : decode cX6_leastAhead 65 = .ok (.istore 5, 2) := dq_54 (kX6_leastAhead_2 1 rfl) (kX6_leastAhead_2 2 rfl) rfl
theorem dX6_leastAhead_67 : decode cX6_leastAhead 67 = .ok (.iload_n 3, 1) := dq_29 (kX6_leastAhead_2 3 rfl)
theorem dX6_leastAhead_68 : decode cX6_leastAhead 68 = .ok (.iconst (-1), 1) := dq_2 (kX6_leastAhead_2 4 rfl)
theorem dX6_leastAhead_69 : decode cX6_leastAhead 69 = .ok (.if_icmp .ne 8, 3) := dq_160 (kX6_leastAhead_2 5 rfl) (kX6_leastAhead_2 6 rfl) (kX6_leastAhead_2 7 rfl) (by decide)
theorem dX6_leastAhead_72 : decode cX6_leastAhead 72 = .ok (.iload 5, 2) := dq_21 (kX6_leastAhead_2 8 rfl) (kX6_leastAhead_2 9 rfl) rfl
theorem dX6_leastAhead_74 : decode cX6_leastAhead 74 = .ok (.goto 9, 3) := dq_167 (kX6_leastAhead_2 10 rfl) (kX6_leastAhead_2 11 rfl) (kX6_leastAhead_2 12 rfl) (by decide)
theorem dX6_leastAhead_77 : decode cX6_leastAhead 77 = .ok (.iload_n 3, 1) := dq_29 (kX6_leastAhead_2 13 rfl)
theorem dX6_leastAhead_78 : decode cX6_leastAhead 78 = .ok (.iload 5, 2) := dq_21 (kX6_leastAhead_2 14 rfl) (kX6_leastAhead_2 15 rfl) rfl
theorem dX6_leastAhead_80 : decode cX6_leastAhead 80 = .ok (.invokestatic 78, 3) := dq_184 (kX6_leastAhead_2 16 rfl) (kX6_leastAhead_2 17 rfl) (kX6_leastAhead_2 18 rfl) rfl
theorem dX6_leastAhead_83 : decode cX6_leastAhead 83 = .ok (.istore_n 3, 1) := dq_62 (kX6_leastAhead_2 19 rfl)
theorem dX6_leastAhead_84 : decode cX6_leastAhead 84 = .ok (.iinc 4 1, 3) := dq_132 (kX6_leastAhead_2 20 rfl) (kX6_leastAhead_2 21 rfl) (kX6_leastAhead_2 22 rfl) rfl (by decide)
theorem dX6_leastAhead_87 : decode cX6_leastAhead 87 = .ok (.goto (-82), 3) := dq_167 (kX6_leastAhead_2 23 rfl) (kX6_leastAhead_2 24 rfl) (kX6_leastAhead_2 25 rfl) (by decide)
theorem dX6_leastAhead_90 : decode cX6_leastAhead 90 = .ok (.iconst 0, 1) := dq_3 (kX6_leastAhead_2 26 rfl)
theorem dX6_leastAhead_91 : decode cX6_leastAhead 91 = .ok (.iload_n 3, 1) := dq_29 (kX6_leastAhead_2 27 rfl)
theorem dX6_leastAhead_92 : decode cX6_leastAhead 92 = .ok (.invokestatic 83, 3) := dq_184 (kX6_leastAhead_2 28 rfl) (kX6_leastAhead_2 29 rfl) (kX6_leastAhead_2 30 rfl) rfl
theorem dX6_leastAhead_95 : decode cX6_leastAhead 95 = .ok (.ireturn, 1) := dq_172 (kX6_leastAhead_2 31 rfl)

def bX6_extend_0 : List UInt8 := [3, 62, 29, 42, 180, 0, 14, 180, 0, 55, 162, 0, 52, 28, 29, 122, 4, 126, 154, 0, 38, 42, 27, 29, 28, 4, 29, 120, 128, 182, 0, 86]
theorem kX6_extend_0 (j : Nat) {b : UInt8} (hj : bX6_extend_0[j]? = some b) : AtB cX6_extend (0 + j) b := at_of32 (by decide +kernel) j hj
def bX6_extend_1 : List UInt8 := [153, 0, 24, 42, 180, 0, 33, 27, 29, 184, 0, 71, 42, 27, 4, 96, 28, 4, 29, 120, 128, 182, 0, 90, 132, 3, 1, 167, 255, 199, 177]
theorem kX6_extend_1 (j : Nat) {b : UInt8} (hj : bX6_extend_1[j]? = some b) : AtB cX6_extend (32 + j) b := at_of32 (by decide +kernel) j hj
theorem dX6_extend_0 : decode cX6_extend 0 = .ok (.iconst 0, 1) := dq_3 (kX6_extend_0 0 rfl)
theorem dX6_extend_1 : decode cX6_extend 1 = .ok (.istore_n 3, 1) := dq_62 (kX6_extend_0 1 rfl)
theorem dX6_extend_2 : decode cX6_extend 2 = .ok (.iload_n 3, 1) := dq_29 (kX6_extend_0 2 rfl)
theorem dX6_extend_3 : decode cX6_extend 3 = .ok (.aload_n 0, 1) := dq_42 (kX6_extend_0 3 rfl)
theorem dX6_extend_4 : decode cX6_extend 4 = .ok (.getfield 14, 3) := dq_180 (kX6_extend_0 4 rfl) (kX6_extend_0 5 rfl) (kX6_extend_0 6 rfl) rfl
theorem dX6_extend_7 : decode cX6_extend 7 = .ok (.getfield 55, 3) := dq_180 (kX6_extend_0 7 rfl) (kX6_extend_0 8 rfl) (kX6_extend_0 9 rfl) rfl
theorem dX6_extend_10 : decode cX6_extend 10 = .ok (.if_icmp .ge 52, 3) := dq_162 (kX6_extend_0 10 rfl) (kX6_extend_0 11 rfl) (kX6_extend_0 12 rfl) (by decide)
theorem dX6_extend_13 : decode cX6_extend 13 = .ok (.iload_n 2, 1) := dq_28 (kX6_extend_0 13 rfl)
theorem dX6_extend_14 : decode cX6_extend 14 = .ok (.iload_n 3, 1) := dq_29 (kX6_extend_0 14 rfl)
theorem dX6_extend_15 : decode cX6_extend 15 = .ok (.ishr, 1) := dq_122 (kX6_extend_0 15 rfl)
theorem dX6_extend_16 : decode cX6_extend 16 = .ok (.iconst 1, 1) := dq_4 (kX6_extend_0 16 rfl)
theorem dX6_extend_17 : decode cX6_extend 17 = .ok (.iand, 1) := dq_126 (kX6_extend_0 17 rfl)
theorem dX6_extend_18 : decode cX6_extend 18 = .ok (.ifCond .ne 38, 3) := dq_154 (kX6_extend_0 18 rfl) (kX6_extend_0 19 rfl) (kX6_extend_0 20 rfl) (by decide)
theorem dX6_extend_21 : decode cX6_extend 21 = .ok (.aload_n 0, 1) := dq_42 (kX6_extend_0 21 rfl)
theorem dX6_extend_22 : decode cX6_extend 22 = .ok (.iload_n 1, 1) := dq_27 (kX6_extend_0 22 rfl)
theorem dX6_extend_23 : decode cX6_extend 23 = .ok (.iload_n 3, 1) := dq_29 (kX6_extend_0 23 rfl)
theorem dX6_extend_24 : decode cX6_extend 24 = .ok (.iload_n 2, 1) := dq_28 (kX6_extend_0 24 rfl)
theorem dX6_extend_25 : decode cX6_extend 25 = .ok (.iconst 1, 1) := dq_4 (kX6_extend_0 25 rfl)
theorem dX6_extend_26 : decode cX6_extend 26 = .ok (.iload_n 3, 1) := dq_29 (kX6_extend_0 26 rfl)
theorem dX6_extend_27 : decode cX6_extend 27 = .ok (.ishl, 1) := dq_120 (kX6_extend_0 27 rfl)
theorem dX6_extend_28 : decode cX6_extend 28 = .ok (.ior, 1) := dq_128 (kX6_extend_0 28 rfl)
theorem dX6_extend_29 : decode cX6_extend 29 = .ok (.invokevirtual 86, 3) := dq_182 (kX6_extend_0 29 rfl) (kX6_extend_0 30 rfl) (kX6_extend_0 31 rfl) rfl
theorem dX6_extend_32 : decode cX6_extend 32 = .ok (.ifCond .eq 24, 3) := dq_153 (kX6_extend_1 0 rfl) (kX6_extend_1 1 rfl) (kX6_extend_1 2 rfl) (by decide)
theorem dX6_extend_35 : decode cX6_extend 35 = .ok (.aload_n 0, 1) := dq_42 (kX6_extend_1 3 rfl)
theorem dX6_extend_36 : decode cX6_extend 36 = .ok (.getfield 33, 3) := dq_180 (kX6_extend_1 4 rfl) (kX6_extend_1 5 rfl) (kX6_extend_1 6 rfl) rfl
theorem dX6_extend_39 : decode cX6_extend 39 = .ok (.iload_n 1, 1) := dq_27 (kX6_extend_1 7 rfl)
theorem dX6_extend_40 : decode cX6_extend 40 = .ok (.iload_n 3, 1) := dq_29 (kX6_extend_1 8 rfl)
theorem dX6_extend_41 : decode cX6_extend 41 = .ok (.invokestatic 71, 3) := dq_184 (kX6_extend_1 9 rfl) (kX6_extend_1 10 rfl) (kX6_extend_1 11 rfl) rfl
theorem dX6_extend_44 : decode cX6_extend 44 = .ok (.aload_n 0, 1) := dq_42 (kX6_extend_1 12 rfl)
theorem dX6_extend_45 : decode cX6_extend 45 = .ok (.iload_n 1, 1) := dq_27 (kX6_extend_1 13 rfl)
theorem dX6_extend_46 : decode cX6_extend 46 = .ok (.iconst 1, 1) := dq_4 (kX6_extend_1 14 rfl)
theorem dX6_extend_47 : decode cX6_extend 47 = .ok (.iadd, 1) := dq_96 (kX6_extend_1 15 rfl)
theorem dX6_extend_48 : decode cX6_extend 48 = .ok (.iload_n 2, 1) := dq_28 (kX6_extend_1 16 rfl)
theorem dX6_extend_49 : decode cX6_extend 49 = .ok (.iconst 1, 1) := dq_4 (kX6_extend_1 17 rfl)
theorem dX6_extend_50 : decode cX6_extend 50 = .ok (.iload_n 3, 1) := dq_29 (kX6_extend_1 18 rfl)
theorem dX6_extend_51 : decode cX6_extend 51 = .ok (.ishl, 1) := dq_120 (kX6_extend_1 19 rfl)
theorem dX6_extend_52 : decode cX6_extend 52 = .ok (.ior, 1) := dq_128 (kX6_extend_1 20 rfl)
theorem dX6_extend_53 : decode cX6_extend 53 = .ok (.invokevirtual 90, 3) := dq_182 (kX6_extend_1 21 rfl) (kX6_extend_1 22 rfl) (kX6_extend_1 23 rfl) rfl
theorem dX6_extend_56 : decode cX6_extend 56 = .ok (.iinc 3 1, 3) := dq_132 (kX6_extend_1 24 rfl) (kX6_extend_1 25 rfl) (kX6_extend_1 26 rfl) rfl (by decide)
theorem dX6_extend_59 : decode cX6_extend 59 = .ok (.goto (-57), 3) := dq_167 (kX6_extend_1 27 rfl) (kX6_extend_1 28 rfl) (kX6_extend_1 29 rfl) (by decide)
theorem dX6_extend_62 : decode cX6_extend 62 = .ok (.return_, 1) := dq_177 (kX6_extend_1 30 rfl)

def bX6_goOn_0 : List UInt8 := [27, 42, 180, 0, 14, 180, 0, 55, 162, 0, 12, 42, 27, 28, 182, 0, 65, 167, 0, 7, 42, 182, 0, 93, 177]
theorem kX6_goOn_0 (j : Nat) {b : UInt8} (hj : bX6_goOn_0[j]? = some b) : AtB cX6_goOn (0 + j) b := at_of32 (by decide +kernel) j hj
theorem dX6_goOn_0 : decode cX6_goOn 0 = .ok (.iload_n 1, 1) := dq_27 (kX6_goOn_0 0 rfl)
theorem dX6_goOn_1 : decode cX6_goOn 1 = .ok (.aload_n 0, 1) := dq_42 (kX6_goOn_0 1 rfl)
theorem dX6_goOn_2 : decode cX6_goOn 2 = .ok (.getfield 14, 3) := dq_180 (kX6_goOn_0 2 rfl) (kX6_goOn_0 3 rfl) (kX6_goOn_0 4 rfl) rfl
theorem dX6_goOn_5 : decode cX6_goOn 5 = .ok (.getfield 55, 3) := dq_180 (kX6_goOn_0 5 rfl) (kX6_goOn_0 6 rfl) (kX6_goOn_0 7 rfl) rfl
theorem dX6_goOn_8 : decode cX6_goOn 8 = .ok (.if_icmp .ge 12, 3) := dq_162 (kX6_goOn_0 8 rfl) (kX6_goOn_0 9 rfl) (kX6_goOn_0 10 rfl) (by decide)
theorem dX6_goOn_11 : decode cX6_goOn 11 = .ok (.aload_n 0, 1) := dq_42 (kX6_goOn_0 11 rfl)
theorem dX6_goOn_12 : decode cX6_goOn 12 = .ok (.iload_n 1, 1) := dq_27 (kX6_goOn_0 12 rfl)
theorem dX6_goOn_13 : decode cX6_goOn 13 = .ok (.iload_n 2, 1) := dq_28 (kX6_goOn_0 13 rfl)
theorem dX6_goOn_14 : decode cX6_goOn 14 = .ok (.invokevirtual 65, 3) := dq_182 (kX6_goOn_0 14 rfl) (kX6_goOn_0 15 rfl) (kX6_goOn_0 16 rfl) rfl
theorem dX6_goOn_17 : decode cX6_goOn 17 = .ok (.goto 7, 3) := dq_167 (kX6_goOn_0 17 rfl) (kX6_goOn_0 18 rfl) (kX6_goOn_0 19 rfl) (by decide)
theorem dX6_goOn_20 : decode cX6_goOn 20 = .ok (.aload_n 0, 1) := dq_42 (kX6_goOn_0 20 rfl)
theorem dX6_goOn_21 : decode cX6_goOn 21 = .ok (.invokevirtual 93, 3) := dq_182 (kX6_goOn_0 21 rfl) (kX6_goOn_0 22 rfl) (kX6_goOn_0 23 rfl) rfl
theorem dX6_goOn_24 : decode cX6_goOn 24 = .ok (.return_, 1) := dq_177 (kX6_goOn_0 24 rfl)

def bX6_comes_0 : List UInt8 := [42, 180, 0, 27, 42, 180, 0, 33, 27, 4, 100, 184, 0, 75, 16, 8, 104, 28, 96, 184, 0, 75, 54, 4, 4, 42, 180, 0, 14, 180, 0, 55]
theorem kX6_comes_0 (j : Nat) {b : UInt8} (hj : bX6_comes_0[j]? = some b) : AtB cX6_comes (0 + j) b := at_of32 (by decide +kernel) j hj
def bX6_comes_1 : List UInt8 := [120, 4, 100, 29, 2, 130, 126, 54, 5, 42, 180, 0, 36, 21, 5, 16, 8, 104, 28, 96, 184, 0, 75, 54, 6, 3, 54, 7, 21, 7, 6, 162]
theorem kX6_comes_1 (j : Nat) {b : UInt8} (hj : bX6_comes_1[j]? = some b) : AtB cX6_comes (32 + j) b := at_of32 (by decide +kernel) j hj
def bX6_comes_2 : List UInt8 := [0, 117, 27, 154, 0, 10, 42, 180, 0, 42, 167, 0, 21, 42, 180, 0, 30, 27, 4, 100, 6, 104, 21, 7, 96, 184, 0, 75, 21, 4, 96, 54]
theorem kX6_comes_2 (j : Nat) {b : UInt8} (hj : bX6_comes_2[j]? = some b) : AtB cX6_comes (64 + j) b := at_of32 (by decide +kernel) j hj
def bX6_comes_3 : List UInt8 := [8, 21, 8, 42, 180, 0, 20, 21, 7, 16, 8, 104, 28, 96, 184, 0, 75, 184, 0, 83, 54, 9, 21, 8, 42, 180, 0, 24, 21, 7, 16, 8]
theorem kX6_comes_3 (j : Nat) {b : UInt8} (hj : bX6_comes_3[j]? = some b) : AtB cX6_comes (96 + j) b := at_of32 (by decide +kernel) j hj
def bX6_comes_4 : List UInt8 := [104, 28, 96, 184, 0, 75, 163, 0, 23, 42, 180, 0, 46, 2, 159, 0, 17, 21, 9, 21, 6, 96, 42, 180, 0, 46, 161, 0, 5, 3, 172, 42]
theorem kX6_comes_4 (j : Nat) {b : UInt8} (hj : bX6_comes_4[j]? = some b) : AtB cX6_comes (128 + j) b := at_of32 (by decide +kernel) j hj
def bX6_comes_5 : List UInt8 := [180, 0, 30, 27, 6, 104, 21, 7, 96, 21, 9, 184, 0, 71, 132, 7, 1, 167, 255, 139, 4, 172]
theorem kX6_comes_5 (j : Nat) {b : UInt8} (hj : bX6_comes_5[j]? = some b) : AtB cX6_comes (160 + j) b := at_of32 (by decide +kernel) j hj
theorem dX6_comes_0 : decode cX6_comes 0 = .ok (.aload_n 0, 1) := dq_42 (kX6_comes_0 0 rfl)
theorem dX6_comes_1 : decode cX6_comes 1 = .ok (.getfield 27, 3) := dq_180 (kX6_comes_0 1 rfl) (kX6_comes_0 2 rfl) (kX6_comes_0 3 rfl) rfl
theorem dX6_comes_4 : decode cX6_comes 4 = .ok (.aload_n 0, 1) := dq_42 (kX6_comes_0 4 rfl)
theorem dX6_comes_5 : decode cX6_comes 5 = .ok (.getfield 33, 3) := dq_180 (kX6_comes_0 5 rfl) (kX6_comes_0 6 rfl) (kX6_comes_0 7 rfl) rfl
theorem dX6_comes_8 : decode cX6_comes 8 = .ok (.iload_n 1, 1) := dq_27 (kX6_comes_0 8 rfl)
theorem dX6_comes_9 : decode cX6_comes 9 = .ok (.iconst 1, 1) := dq_4 (kX6_comes_0 9 rfl)
theorem dX6_comes_10 : decode cX6_comes 10 = .ok (.isub, 1) := dq_100 (kX6_comes_0 10 rfl)
theorem dX6_comes_11 : decode cX6_comes 11 = .ok (.invokestatic 75, 3) := dq_184 (kX6_comes_0 11 rfl) (kX6_comes_0 12 rfl) (kX6_comes_0 13 rfl) rfl
theorem dX6_comes_14 : decode cX6_comes 14 = .ok (.bipush 8, 2) := dq_16 (kX6_comes_0 14 rfl) (kX6_comes_0 15 rfl) (by decide)
theorem dX6_comes_16 : decode cX6_comes 16 = .ok (.imul, 1) := dq_104 (kX6_comes_0 16 rfl)
theorem dX6_comes_17 : decode cX6_comes 17 = .ok (.iload_n 2, 1) := dq_28 (kX6_comes_0 17 rfl)
theorem dX6_comes_18 : decode cX6_comes 18 = .ok (.iadd, 1) := dq_96 (kX6_comes_0 18 rfl)
theorem dX6_comes_19 : decode cX6_comes 19 = .ok (.invokestatic 75, 3) := dq_184 (kX6_comes_0 19 rfl) (kX6_comes_0 20 rfl) (kX6_comes_0 21 rfl) rfl
theorem dX6_comes_22 : decode cX6_comes 22 = .ok (.istore 4, 2) := dq_54 (kX6_comes_0 22 rfl) (kX6_comes_0 23 rfl) rfl
theorem dX6_comes_24 : decode cX6_comes 24 = .ok (.iconst 1, 1) := dq_4 (kX6_comes_0 24 rfl)
theorem dX6_comes_25 : decode cX6_comes 25 = .ok (.aload_n 0, 1) := dq_42 (kX6_comes_0 25 rfl)
theorem dX6_comes_26 : decode cX6_comes 26 = .ok (.getfield 14, 3) := dq_180 (kX6_comes_0 26 rfl) (kX6_comes_0 27 rfl) (kX6_comes_0 28 rfl) rfl
theorem dX6_comes_29 : decode cX6_comes 29 = .ok (.getfield 55, 3) := dq_180 (kX6_comes_0 29 rfl) (kX6_comes_0 30 rfl) (kX6_comes_0 31 rfl) rfl
theorem dX6_comes_32 : decode cX6_comes 32 = .ok (.ishl, 1) := dq_120 (kX6_comes_1 0 rfl)
theorem dX6_comes_33 : decode cX6_comes 33 = .ok (.iconst 1, 1) := dq_4 (kX6_comes_1 1 rfl)
theorem dX6_comes_34 : decode cX6_comes 34 = .ok (.isub, 1) := dq_100 (kX6_comes_1 2 rfl)
theorem dX6_comes_35 : decode cX6_comes 35 = .ok (.iload_n 3, 1) := dq_29 (kX6_comes_1 3 rfl)
theorem dX6_comes_36 : decode cX6_comes 36 = .ok (.iconst (-1), 1) := dq_2 (kX6_comes_1 4 rfl)
theorem dX6_comes_37 : decode cX6_comes 37 = .ok (.ixor, 1) := dq_130 (kX6_comes_1 5 rfl)
theorem dX6_comes_38 : decode cX6_comes 38 = .ok (.iand, 1) := dq_126 (kX6_comes_1 6 rfl)
theorem dX6_comes_39 : decode cX6_comes 39 = .ok (.istore 5, 2) := dq_54 (kX6_comes_1 7 rfl) (kX6_comes_1 8 rfl) rfl
theorem dX6_comes_41 : decode cX6_comes 41 = .ok (.aload_n 0, 1) := dq_42 (kX6_comes_1 9 rfl)
theorem dX6_comes_42 : decode cX6_comes 42 = .ok (.getfield 36, 3) := dq_180 (kX6_comes_1 10 rfl) (kX6_comes_1 11 rfl) (kX6_comes_1 12 rfl) rfl
theorem dX6_comes_45 : decode cX6_comes 45 = .ok (.iload 5, 2) := dq_21 (kX6_comes_1 13 rfl) (kX6_comes_1 14 rfl) rfl
theorem dX6_comes_47 : decode cX6_comes 47 = .ok (.bipush 8, 2) := dq_16 (kX6_comes_1 15 rfl) (kX6_comes_1 16 rfl) (by decide)
theorem dX6_comes_49 : decode cX6_comes 49 = .ok (.imul, 1) := dq_104 (kX6_comes_1 17 rfl)
theorem dX6_comes_50 : decode cX6_comes 50 = .ok (.iload_n 2, 1) := dq_28 (kX6_comes_1 18 rfl)
theorem dX6_comes_51 : decode cX6_comes 51 = .ok (.iadd, 1) := dq_96 (kX6_comes_1 19 rfl)
theorem dX6_comes_52 : decode cX6_comes 52 = .ok (.invokestatic 75, 3) := dq_184 (kX6_comes_1 20 rfl) (kX6_comes_1 21 rfl) (kX6_comes_1 22 rfl) rfl
theorem dX6_comes_55 : decode cX6_comes 55 = .ok (.istore 6, 2) := dq_54 (kX6_comes_1 23 rfl) (kX6_comes_1 24 rfl) rfl
theorem dX6_comes_57 : decode cX6_comes 57 = .ok (.iconst 0, 1) := dq_3 (kX6_comes_1 25 rfl)
theorem dX6_comes_58 : decode cX6_comes 58 = .ok (.istore 7, 2) := dq_54 (kX6_comes_1 26 rfl) (kX6_comes_1 27 rfl) rfl
theorem dX6_comes_60 : decode cX6_comes 60 = .ok (.iload 7, 2) := dq_21 (kX6_comes_1 28 rfl) (kX6_comes_1 29 rfl) rfl
theorem dX6_comes_62 : decode cX6_comes 62 = .ok (.iconst 3, 1) := dq_6 (kX6_comes_1 30 rfl)
theorem dX6_comes_63 : decode cX6_comes 63 = .ok (.if_icmp .ge 117, 3) := dq_162 (kX6_comes_1 31 rfl) (kX6_comes_2 0 rfl) (kX6_comes_2 1 rfl) (by decide)
theorem dX6_comes_66 : decode cX6_comes 66 = .ok (.iload_n 1, 1) := dq_27 (kX6_comes_2 2 rfl)
theorem dX6_comes_67 : decode cX6_comes 67 = .ok (.ifCond .ne 10, 3) := dq_154 (kX6_comes_2 3 rfl) (kX6_comes_2 4 rfl) (kX6_comes_2 5 rfl) (by decide)
theorem dX6_comes_70 : decode cX6_comes 70 = .ok (.aload_n 0, 1) := dq_42 (kX6_comes_2 6 rfl)
theorem dX6_comes_71 : decode cX6_comes 71 = .ok (.getfield 42, 3) := dq_180 (kX6_comes_2 7 rfl) (kX6_comes_2 8 rfl) (kX6_comes_2 9 rfl) rfl
theorem dX6_comes_74 : decode cX6_comes 74 = .ok (.goto 21, 3) := dq_167 (kX6_comes_2 10 rfl) (kX6_comes_2 11 rfl) (kX6_comes_2 12 rfl) (by decide)
theorem dX6_comes_77 : decode cX6_comes 77 = .ok (.aload_n 0, 1) := dq_42 (kX6_comes_2 13 rfl)
theorem dX6_comes_78 : decode cX6_comes 78 = .ok (.getfield 30, 3) := dq_180 (kX6_comes_2 14 rfl) (kX6_comes_2 15 rfl) (kX6_comes_2 16 rfl) rfl
theorem dX6_comes_81 : decode cX6_comes 81 = .ok (.iload_n 1, 1) := dq_27 (kX6_comes_2 17 rfl)
theorem dX6_comes_82 : decode cX6_comes 82 = .ok (.iconst 1, 1) := dq_4 (kX6_comes_2 18 rfl)
theorem dX6_comes_83 : decode cX6_comes 83 = .ok (.isub, 1) := dq_100 (kX6_comes_2 19 rfl)
theorem dX6_comes_84 : decode cX6_comes 84 = .ok (.iconst 3, 1) := dq_6 (kX6_comes_2 20 rfl)
theorem dX6_comes_85 : decode cX6_comes 85 = .ok (.imul, 1) := dq_104 (kX6_comes_2 21 rfl)
theorem dX6_comes_86 : decode cX6_comes 86 = .ok (.iload 7, 2) := dq_21 (kX6_comes_2 22 rfl) (kX6_comes_2 23 rfl) rfl
theorem dX6_comes_88 : decode cX6_comes 88 = .ok (.iadd, 1) := dq_96 (kX6_comes_2 24 rfl)
theorem dX6_comes_89 : decode cX6_comes 89 = .ok (.invokestatic 75, 3) := dq_184 (kX6_comes_2 25 rfl) (kX6_comes_2 26 rfl) (kX6_comes_2 27 rfl) rfl
theorem dX6_comes_92 : decode cX6_comes 92 = .ok (.iload 4, 2) := dq_21 (kX6_comes_2 28 rfl) (kX6_comes_2 29 rfl) rfl
theorem dX6_comes_94 : decode cX6_comes 94 = .ok (.iadd, 1) := dq_96 (kX6_comes_2 30 rfl)
theorem dX6_comes_95 : decode cX6_comes 95 = .ok (.istore 8, 2) := dq_54 (kX6_comes_2 31 rfl) (kX6_comes_3 0 rfl) rfl
theorem dX6_comes_97 : decode cX6_comes 97 = .ok (.iload 8, 2) := dq_21 (kX6_comes_3 1 rfl) (kX6_comes_3 2 rfl) rfl
theorem dX6_comes_99 : decode cX6_comes 99 = .ok (.aload_n 0, 1) := dq_42 (kX6_comes_3 3 rfl)
theorem dX6_comes_100 : decode cX6_comes 100 = .ok (.getfield 20, 3) := dq_180 (kX6_comes_3 4 rfl) (kX6_comes_3 5 rfl) (kX6_comes_3 6 rfl) rfl
theorem dX6_comes_103 : decode cX6_comes 103 = .ok (.iload 7, 2) := dq_21 (kX6_comes_3 7 rfl) (kX6_comes_3 8 rfl) rfl
theorem dX6_comes_105 : decode cX6_comes 105 = .ok (.bipush 8, 2) := dq_16 (kX6_comes_3 9 rfl) (kX6_comes_3 10 rfl) (by decide)
theorem dX6_comes_107 : decode cX6_comes 107 = .ok (.imul, 1) := dq_104 (kX6_comes_3 11 rfl)
theorem dX6_comes_108 : decode cX6_comes 108 = .ok (.iload_n 2, 1) := dq_28 (kX6_comes_3 12 rfl)
theorem dX6_comes_109 : decode cX6_comes 109 = .ok (.iadd, 1) := dq_96 (kX6_comes_3 13 rfl)
theorem dX6_comes_110 : decode cX6_comes 110 = .ok (.invokestatic 75, 3) := dq_184 (kX6_comes_3 14 rfl) (kX6_comes_3 15 rfl) (kX6_comes_3 16 rfl) rfl
theorem dX6_comes_113 : decode cX6_comes 113 = .ok (.invokestatic 83, 3) := dq_184 (kX6_comes_3 17 rfl) (kX6_comes_3 18 rfl) (kX6_comes_3 19 rfl) rfl
theorem dX6_comes_116 : decode cX6_comes 116 = .ok (.istore 9, 2) := dq_54 (kX6_comes_3 20 rfl) (kX6_comes_3 21 rfl) rfl
theorem dX6_comes_118 : decode cX6_comes 118 = .ok (.iload 8, 2) := dq_21 (kX6_comes_3 22 rfl) (kX6_comes_3 23 rfl) rfl
theorem dX6_comes_120 : decode cX6_comes 120 = .ok (.aload_n 0, 1) := dq_42 (kX6_comes_3 24 rfl)
theorem dX6_comes_121 : decode cX6_comes 121 = .ok (.getfield 24, 3) := dq_180 (kX6_comes_3 25 rfl) (kX6_comes_3 26 rfl) (kX6_comes_3 27 rfl) rfl
theorem dX6_comes_124 : decode cX6_comes 124 = .ok (.iload 7, 2) := dq_21 (kX6_comes_3 28 rfl) (kX6_comes_3 29 rfl) rfl
theorem dX6_comes_126 : decode cX6_comes 126 = .ok (.bipush 8, 2) := dq_16 (kX6_comes_3 30 rfl) (kX6_comes_3 31 rfl) (by decide)
theorem dX6_comes_128 : decode cX6_comes 128 = .ok (.imul, 1) := dq_104 (kX6_comes_4 0 rfl)
theorem dX6_comes_129 : decode cX6_comes 129 = .ok (.iload_n 2, 1) := dq_28 (kX6_comes_4 1 rfl)
theorem dX6_comes_130 : decode cX6_comes 130 = .ok (.iadd, 1) := dq_96 (kX6_comes_4 2 rfl)
theorem dX6_comes_131 : decode cX6_comes 131 = .ok (.invokestatic 75, 3) := dq_184 (kX6_comes_4 3 rfl) (kX6_comes_4 4 rfl) (kX6_comes_4 5 rfl) rfl
theorem dX6_comes_134 : decode cX6_comes 134 = .ok (.if_icmp .gt 23, 3) := dq_163 (kX6_comes_4 6 rfl) (kX6_comes_4 7 rfl) (kX6_comes_4 8 rfl) (by decide)
theorem dX6_comes_137 : decode cX6_comes 137 = .ok (.aload_n 0, 1) := dq_42 (kX6_comes_4 9 rfl)
theorem dX6_comes_138 : decode cX6_comes 138 = .ok (.getfield 46, 3) := dq_180 (kX6_comes_4 10 rfl) (kX6_comes_4 11 rfl) (kX6_comes_4 12 rfl) rfl
theorem dX6_comes_141 : decode cX6_comes 141 = .ok (.iconst (-1), 1) := dq_2 (kX6_comes_4 13 rfl)
theorem dX6_comes_142 : decode cX6_comes 142 = .ok (.if_icmp .eq 17, 3) := dq_159 (kX6_comes_4 14 rfl) (kX6_comes_4 15 rfl) (kX6_comes_4 16 rfl) (by decide)
theorem dX6_comes_145 : decode cX6_comes 145 = .ok (.iload 9, 2) := dq_21 (kX6_comes_4 17 rfl) (kX6_comes_4 18 rfl) rfl
theorem dX6_comes_147 : decode cX6_comes 147 = .ok (.iload 6, 2) := dq_21 (kX6_comes_4 19 rfl) (kX6_comes_4 20 rfl) rfl
theorem dX6_comes_149 : decode cX6_comes 149 = .ok (.iadd, 1) := dq_96 (kX6_comes_4 21 rfl)
theorem dX6_comes_150 : decode cX6_comes 150 = .ok (.aload_n 0, 1) := dq_42 (kX6_comes_4 22 rfl)
theorem dX6_comes_151 : decode cX6_comes 151 = .ok (.getfield 46, 3) := dq_180 (kX6_comes_4 23 rfl) (kX6_comes_4 24 rfl) (kX6_comes_4 25 rfl) rfl
theorem dX6_comes_154 : decode cX6_comes 154 = .ok (.if_icmp .lt 5, 3) := dq_161 (kX6_comes_4 26 rfl) (kX6_comes_4 27 rfl) (kX6_comes_4 28 rfl) (by decide)
theorem dX6_comes_157 : decode cX6_comes 157 = .ok (.iconst 0, 1) := dq_3 (kX6_comes_4 29 rfl)
theorem dX6_comes_158 : decode cX6_comes 158 = .ok (.ireturn, 1) := dq_172 (kX6_comes_4 30 rfl)
theorem dX6_comes_159 : decode cX6_comes 159 = .ok (.aload_n 0, 1) := dq_42 (kX6_comes_4 31 rfl)
theorem dX6_comes_160 : decode cX6_comes 160 = .ok (.getfield 30, 3) := dq_180 (kX6_comes_5 0 rfl) (kX6_comes_5 1 rfl) (kX6_comes_5 2 rfl) rfl
theorem dX6_comes_163 : decode cX6_comes 163 = .ok (.iload_n 1, 1) := dq_27 (kX6_comes_5 3 rfl)
theorem dX6_comes_164 : decode cX6_comes 164 = .ok (.iconst 3, 1) := dq_6 (kX6_comes_5 4 rfl)
theorem dX6_comes_165 : decode cX6_comes 165 = .ok (.imul, 1) := dq_104 (kX6_comes_5 5 rfl)
theorem dX6_comes_166 : decode cX6_comes 166 = .ok (.iload 7, 2) := dq_21 (kX6_comes_5 6 rfl) (kX6_comes_5 7 rfl) rfl
theorem dX6_comes_168 : decode cX6_comes 168 = .ok (.iadd, 1) := dq_96 (kX6_comes_5 8 rfl)
theorem dX6_comes_169 : decode cX6_comes 169 = .ok (.iload 9, 2) := dq_21 (kX6_comes_5 9 rfl) (kX6_comes_5 10 rfl) rfl
theorem dX6_comes_171 : decode cX6_comes 171 = .ok (.invokestatic 71, 3) := dq_184 (kX6_comes_5 11 rfl) (kX6_comes_5 12 rfl) (kX6_comes_5 13 rfl) rfl
theorem dX6_comes_174 : decode cX6_comes 174 = .ok (.iinc 7 1, 3) := dq_132 (kX6_comes_5 14 rfl) (kX6_comes_5 15 rfl) (kX6_comes_5 16 rfl) rfl (by decide)
theorem dX6_comes_177 : decode cX6_comes 177 = .ok (.goto (-117), 3) := dq_167 (kX6_comes_5 17 rfl) (kX6_comes_5 18 rfl) (kX6_comes_5 19 rfl) (by decide)
theorem dX6_comes_180 : decode cX6_comes 180 = .ok (.iconst 1, 1) := dq_4 (kX6_comes_5 20 rfl)
theorem dX6_comes_181 : decode cX6_comes 181 = .ok (.ireturn, 1) := dq_172 (kX6_comes_5 21 rfl)
