def bX6_keep_0 : List UInt8 := [42, 180, 0, 14, 180, 0, 55, 4, 100, 60, 42, 2, 181, 0, 46, 3, 61, 28, 6, 162, 0, 32, 42, 42, 180, 0, 46, 42, 180, 0, 30, 27]
theorem kX6_keep_0 (j : Nat) {b : UInt8} (hj : bX6_keep_0[j]? = some b) : AtB cX6_keep (0 + j) b := at_of32 (by decide +kernel) j hj
def bX6_keep_1 : List UInt8 := [6, 104, 28, 96, 184, 0, 75, 184, 0, 83, 181, 0, 46, 132, 2, 1, 167, 255, 225, 3, 61, 28, 42, 180, 0, 14, 180, 0, 55, 162, 0, 25]
theorem kX6_keep_1 (j : Nat) {b : UInt8} (hj : bX6_keep_1[j]? = some b) : AtB cX6_keep (32 + j) b := at_of32 (by decide +kernel) j hj
def bX6_keep_2 : List UInt8 := [42, 180, 0, 39, 28, 42, 180, 0, 33, 28, 184, 0, 75, 184, 0, 71, 132, 2, 1, 167, 255, 226, 177]
theorem kX6_keep_2 (j : Nat) {b : UInt8} (hj : bX6_keep_2[j]? = some b) : AtB cX6_keep (64 + j) b := at_of32 (by decide +kernel) j hj
theorem dX6_keep_0 : decode cX6_keep 0 = .ok (.aload_n 0, 1) := dq_42 (kX6_keep_0 0 rfl)
theorem dX6_keep_1 : decode cX6_keep 1 = .ok (.getfield 14, 3) := dq_180 (kX6_keep_0 1 rfl) (kX6_keep_0 2 rfl) (kX6_keep_0 3 rfl) rfl
theorem dX6_keep_4 : decode cX6_keep 4 = .ok (.getfield 55, 3) := dq_180 (kX6_keep_0 4 rfl) (kX6_keep_0 5 rfl) (kX6_keep_0 6 rfl) rfl
theorem dX6_keep_7 : decode cX6_keep 7 = .ok (.iconst 1, 1) := dq_4 (kX6_keep_0 7 rfl)
theorem dX6_keep_8 : decode cX6_keep 8 = .ok (.isub, 1) := dq_100 (kX6_keep_0 8 rfl)
theorem dX6_keep_9 : decode cX6_keep 9 = .ok (.istore_n 1, 1) := dq_60 (kX6_keep_0 9 rfl)
theorem dX6_keep_10 : decode cX6_keep 10 = .ok (.aload_n 0, 1) := dq_42 (kX6_keep_0 10 rfl)
theorem dX6_keep_11 : decode cX6_keep 11 = .ok (.iconst (-1), 1) := dq_2 (kX6_keep_0 11 rfl)
theorem dX6_keep_12 : decode cX6_keep 12 = .ok (.putfield 46, 3) := dq_181 (kX6_keep_0 12 rfl) (kX6_keep_0 13 rfl) (kX6_keep_0 14 rfl) rfl
theorem dX6_keep_15 : decode cX6_keep 15 = .ok (.iconst 0, 1) := dq_3 (kX6_keep_0 15 rfl)
theorem dX6_keep_16 : decode cX6_keep 16 = .ok (.istore_n 2, 1) := dq_61 (kX6_keep_0 16 rfl)
theorem dX6_keep_17 : decode cX6_keep 17 = .ok (.iload_n 2, 1) := dq_28 (kX6_keep_0 17 rfl)
theorem dX6_keep_18 : decode cX6_keep 18 = .ok (.iconst 3, 1) := dq_6 (kX6_keep_0 18 rfl)
theorem dX6_keep_19 : decode cX6_keep 19 = .ok (.if_icmp .ge 32, 3) := dq_162 (kX6_keep_0 19 rfl) (kX6_keep_0 20 rfl) (kX6_keep_0 21 rfl) (by decide)
theorem dX6_keep_22 : decode cX6_keep 22 = .ok (.aload_n 0, 1) := dq_42 (kX6_keep_0 22 rfl)
theorem dX6_keep_23 : decode cX6_keep 23 = .ok (.aload_n 0, 1) := dq_42 (kX6_keep_0 23 rfl)
theorem dX6_keep_24 : decode cX6_keep 24 = .ok (.getfield 46, 3) := dq_180 (kX6_keep_0 24 rfl) (kX6_keep_0 25 rfl) (kX6_keep_0 26 rfl) rfl
theorem dX6_keep_27 : decode cX6_keep 27 = .ok (.aload_n 0, 1) := dq_42 (kX6_keep_0 27 rfl)
theorem dX6_keep_28 : decode cX6_keep 28 = .ok (.getfield 30, 3) := dq_180 (kX6_keep_0 28 rfl) (kX6_keep_0 29 rfl) (kX6_keep_0 30 rfl) rfl
theorem dX6_keep_31 : decode cX6_keep 31 = .ok (.iload_n 1, 1) := dq_27 (kX6_keep_0 31 rfl)
theorem dX6_keep_32 : decode cX6_keep 32 = .ok (.iconst 3, 1) := dq_6 (kX6_keep_1 0 rfl)
theorem dX6_keep_33 : decode cX6_keep 33 = .ok (.imul, 1) := dq_104 (kX6_keep_1 1 rfl)
theorem dX6_keep_34 : decode cX6_keep 34 = .ok (.iload_n 2, 1) := dq_28 (kX6_keep_1 2 rfl)
theorem dX6_keep_35 : decode cX6_keep 35 = .ok (.iadd, 1) := dq_96 (kX6_keep_1 3 rfl)
theorem dX6_keep_36 : decode cX6_keep 36 = .ok (.invokestatic 75, 3) := dq_184 (kX6_keep_1 4 rfl) (kX6_keep_1 5 rfl) (kX6_keep_1 6 rfl) rfl
theorem dX6_keep_39 : decode cX6_keep 39 = .ok (.invokestatic 83, 3) := dq_184 (kX6_keep_1 7 rfl) (kX6_keep_1 8 rfl) (kX6_keep_1 9 rfl) rfl
theorem dX6_keep_42 : decode cX6_keep 42 = .ok (.putfield 46, 3) := dq_181 (kX6_keep_1 10 rfl) (kX6_keep_1 11 rfl) (kX6_keep_1 12 rfl) rfl
theorem dX6_keep_45 : decode cX6_keep 45 = .ok (.iinc 2 1, 3) := dq_132 (kX6_keep_1 13 rfl) (kX6_keep_1 14 rfl) (kX6_keep_1 15 rfl) rfl (by decide)
theorem dX6_keep_48 : decode cX6_keep 48 = .ok (.goto (-31), 3) := dq_167 (kX6_keep_1 16 rfl) (kX6_keep_1 17 rfl) (kX6_keep_1 18 rfl) (by decide)
theorem dX6_keep_51 : decode cX6_keep 51 = .ok (.iconst 0, 1) := dq_3 (kX6_keep_1 19 rfl)
theorem dX6_keep_52 : decode cX6_keep 52 = .ok (.istore_n 2, 1) := dq_61 (kX6_keep_1 20 rfl)
theorem dX6_keep_53 : decode cX6_keep 53 = .ok (.iload_n 2, 1) := dq_28 (kX6_keep_1 21 rfl)
theorem dX6_keep_54 : decode cX6_keep 54 = .ok (.aload_n 0, 1) := dq_42 (kX6_keep_1 22 rfl)
theorem dX6_keep_55 : decode cX6_keep 55 = .ok (.getfield 14, 3) := dq_180 (kX6_keep_1 23 rfl) (kX6_keep_1 24 rfl) (kX6_keep_1 25 rfl) rfl
theorem dX6_keep_58 : decode cX6_keep 58 = .ok (.getfield 55, 3) := dq_180 (kX6_keep_1 26 rfl) (kX6_keep_1 27 rfl) (kX6_keep_1 28 rfl) rfl
theorem dX6_keep_61 : decode cX6_keep 61 = .ok (.if_icmp .ge 25, 3) := dq_162 (kX6_keep_1 29 rfl) (kX6_keep_1 30 rfl) (kX6_keep_1 31 rfl) (by decide)
theorem dX6_keep_64 : decode cX6_keep 64 = .ok (.aload_n 0, 1) := dq_42 (kX6_keep_2 0 rfl)
theorem dX6_keep_65 : decode cX6_keep 65 = .ok (.getfield 39, 3) := dq_180 (kX6_keep_2 1 rfl) (kX6_keep_2 2 rfl) (kX6_keep_2 3 rfl) rfl
theorem dX6_keep_68 : decode cX6_keep 68 = .ok (.iload_n 2, 1) := dq_28 (kX6_keep_2 4 rfl)
theorem dX6_keep_69 : decode cX6_keep 69 = .ok (.aload_n 0, 1) := dq_42 (kX6_keep_2 5 rfl)
theorem dX6_keep_70 : decode cX6_keep 70 = .ok (.getfield 33, 3) := dq_180 (kX6_keep_2 6 rfl) (kX6_keep_2 7 rfl) (kX6_keep_2 8 rfl) rfl
theorem dX6_keep_73 : decode cX6_keep 73 = .ok (.iload_n 2, 1) := dq_28 (kX6_keep_2 9 rfl)
theorem dX6_keep_74 : decode cX6_keep 74 = .ok (.invokestatic 75, 3) := dq_184 (kX6_keep_2 10 rfl) (kX6_keep_2 11 rfl) (kX6_keep_2 12 rfl) rfl
theorem dX6_keep_77 : decode cX6_keep 77 = .ok (.invokestatic 71, 3) := dq_184 (kX6_keep_2 13 rfl) (kX6_keep_2 14 rfl) (kX6_keep_2 15 rfl) rfl
theorem dX6_keep_80 : decode cX6_keep 80 = .ok (.iinc 2 1, 3) := dq_132 (kX6_keep_2 16 rfl) (kX6_keep_2 17 rfl) (kX6_keep_2 18 rfl) rfl (by decide)
theorem dX6_keep_83 : decode cX6_keep 83 = .ok (.goto (-30), 3) := dq_167 (kX6_keep_2 19 rfl) (kX6_keep_2 20 rfl) (kX6_keep_2 21 rfl) (by decide)
theorem dX6_keep_86 : decode cX6_keep 86 = .ok (.return_, 1) := dq_177 (kX6_keep_2 22 rfl)

def bX7_init_0 : List UInt8 := [42, 183, 0, 3, 42, 3, 181, 0, 9, 42, 3, 181, 0, 15, 42, 2, 181, 0, 18, 42, 3, 181, 0, 21, 42, 3, 181, 0, 24, 42, 2, 181]
theorem kX7_init_0 (j : Nat) {b : UInt8} (hj : bX7_init_0[j]? = some b) : AtB cX7_init (0 + j) b := at_of32 (by decide +kernel) j hj
def bX7_init_1 : List UInt8 := [0, 27, 42, 3, 181, 0, 30, 42, 3, 181, 0, 33, 42, 27, 181, 0, 36, 42, 28, 181, 0, 39, 42, 29, 181, 0, 42, 177]
theorem kX7_init_1 (j : Nat) {b : UInt8} (hj : bX7_init_1[j]? = some b) : AtB cX7_init (32 + j) b := at_of32 (by decide +kernel) j hj
theorem dX7_init_0 : decode cX7_init 0 = .ok (.aload_n 0, 1) := dq_42 (kX7_init_0 0 rfl)
theorem dX7_init_1 : decode cX7_init 1 = .ok (.invokespecial 3, 3) := dq_183 (kX7_init_0 1 rfl) (kX7_init_0 2 rfl) (kX7_init_0 3 rfl) rfl
theorem dX7_init_4 : decode cX7_init 4 = .ok (.aload_n 0, 1) := dq_42 (kX7_init_0 4 rfl)
theorem dX7_init_5 : decode cX7_init 5 = .ok (.iconst 0, 1) := dq_3 (kX7_init_0 5 rfl)
theorem dX7_init_6 : decode cX7_init 6 = .ok (.putfield 9, 3) := dq_181 (kX7_init_0 6 rfl) (kX7_init_0 7 rfl) (kX7_init_0 8 rfl) rfl
theorem dX7_init_9 : decode cX7_init 9 = .ok (.aload_n 0, 1) := dq_42 (kX7_init_0 9 rfl)
theorem dX7_init_10 : decode cX7_init 10 = .ok (.iconst 0, 1) := dq_3 (kX7_init_0 10 rfl)
theorem dX7_init_11 : decode cX7_init 11 = .ok (.putfield 15, 3) := dq_181 (kX7_init_0 11 rfl) (kX7_init_0 12 rfl) (kX7_init_0 13 rfl) rfl
theorem dX7_init_14 : decode cX7_init 14 = .ok (.aload_n 0, 1) := dq_42 (kX7_init_0 14 rfl)
theorem dX7_init_15 : decode cX7_init 15 = .ok (.iconst (-1), 1) := dq_2 (kX7_init_0 15 rfl)
theorem dX7_init_16 : decode cX7_init 16 = .ok (.putfield 18, 3) := dq_181 (kX7_init_0 16 rfl) (kX7_init_0 17 rfl) (kX7_init_0 18 rfl) rfl
theorem dX7_init_19 : decode cX7_init 19 = .ok (.aload_n 0, 1) := dq_42 (kX7_init_0 19 rfl)
theorem dX7_init_20 : decode cX7_init 20 = .ok (.iconst 0, 1) := dq_3 (kX7_init_0 20 rfl)
theorem dX7_init_21 : decode cX7_init 21 = .ok (.putfield 21, 3) := dq_181 (kX7_init_0 21 rfl) (kX7_init_0 22 rfl) (kX7_init_0 23 rfl) rfl
theorem dX7_init_24 : decode cX7_init 24 = .ok (.aload_n 0, 1) := dq_42 (kX7_init_0 24 rfl)
theorem dX7_init_25 : decode cX7_init 25 = .ok (.iconst 0, 1) := dq_3 (kX7_init_0 25 rfl)
theorem dX7_init_26 : decode cX7_init 26 = .ok (.putfield 24, 3) := dq_181 (kX7_init_0 26 rfl) (kX7_init_0 27 rfl) (kX7_init_0 28 rfl) rfl
theorem dX7_init_29 : decode cX7_init 29 = .ok (.aload_n 0, 1) := dq_42 (kX7_init_0 29 rfl)
theorem dX7_init_30 : decode cX7_init 30 = .ok (.iconst (-1), 1) := dq_2 (kX7_init_0 30 rfl)
theorem dX7_init_31 : decode cX7_init 31 = .ok (.putfield 27, 3) := dq_181 (kX7_init_0 31 rfl) (kX7_init_1 0 rfl) (kX7_init_1 1 rfl) rfl
theorem dX7_init_34 : decode cX7_init 34 = .ok (.aload_n 0, 1) := dq_42 (kX7_init_1 2 rfl)
theorem dX7_init_35 : decode cX7_init 35 = .ok (.iconst 0, 1) := dq_3 (kX7_init_1 3 rfl)
theorem dX7_init_36 : decode cX7_init 36 = .ok (.putfield 30, 3) := dq_181 (kX7_init_1 4 rfl) (kX7_init_1 5 rfl) (kX7_init_1 6 rfl) rfl
theorem dX7_init_39 : decode cX7_init 39 = .ok (.aload_n 0, 1) := dq_42 (kX7_init_1 7 rfl)
theorem dX7_init_40 : decode cX7_init 40 = .ok (.iconst 0, 1) := dq_3 (kX7_init_1 8 rfl)
theorem dX7_init_41 : decode cX7_init 41 = .ok (.putfield 33, 3) := dq_181 (kX7_init_1 9 rfl) (kX7_init_1 10 rfl) (kX7_init_1 11 rfl) rfl
theorem dX7_init_44 : decode cX7_init 44 = .ok (.aload_n 0, 1) := dq_42 (kX7_init_1 12 rfl)
theorem dX7_init_45 : decode cX7_init 45 = .ok (.iload_n 1, 1) := dq_27 (kX7_init_1 13 rfl)
theorem dX7_init_46 : decode cX7_init 46 = .ok (.putfield 36, 3) := dq_181 (kX7_init_1 14 rfl) (kX7_init_1 15 rfl) (kX7_init_1 16 rfl) rfl
theorem dX7_init_49 : decode cX7_init 49 = .ok (.aload_n 0, 1) := dq_42 (kX7_init_1 17 rfl)
theorem dX7_init_50 : decode cX7_init 50 = .ok (.iload_n 2, 1) := dq_28 (kX7_init_1 18 rfl)
theorem dX7_init_51 : decode cX7_init 51 = .ok (.putfield 39, 3) := dq_181 (kX7_init_1 19 rfl) (kX7_init_1 20 rfl) (kX7_init_1 21 rfl) rfl
theorem dX7_init_54 : decode cX7_init 54 = .ok (.aload_n 0, 1) := dq_42 (kX7_init_1 22 rfl)
theorem dX7_init_55 : decode cX7_init 55 = .ok (.iload_n 3, 1) := dq_29 (kX7_init_1 23 rfl)
theorem dX7_init_56 : decode cX7_init 56 = .ok (.putfield 42, 3) := dq_181 (kX7_init_1 24 rfl) (kX7_init_1 25 rfl) (kX7_init_1 26 rfl) rfl
theorem dX7_init_59 : decode cX7_init 59 = .ok (.return_, 1) := dq_177 (kX7_init_1 27 rfl)

def bX7_leave_0 : List UInt8 := [42, 4, 181, 0, 9, 42, 27, 181, 0, 15, 42, 28, 181, 0, 18, 42, 29, 181, 0, 21, 42, 21, 5, 181, 0, 33, 42, 21, 4, 21, 5, 96]
theorem kX7_leave_0 (j : Nat) {b : UInt8} (hj : bX7_leave_0[j]? = some b) : AtB cX7_leave (0 + j) b := at_of32 (by decide +kernel) j hj
def bX7_leave_1 : List UInt8 := [181, 0, 27, 42, 3, 181, 0, 30, 177]
theorem kX7_leave_1 (j : Nat) {b : UInt8} (hj : bX7_leave_1[j]? = some b) : AtB cX7_leave (32 + j) b := at_of32 (by decide +kernel) j hj
theorem dX7_leave_0 : decode cX7_leave 0 = .ok (.aload_n 0, 1) := dq_42 (kX7_leave_0 0 rfl)
theorem dX7_leave_1 : decode cX7_leave 1 = .ok (.iconst 1, 1) := dq_4 (kX7_leave_0 1 rfl)
theorem dX7_leave_2 : decode cX7_leave 2 = .ok (.putfield 9, 3) := dq_181 (kX7_leave_0 2 rfl) (kX7_leave_0 3 rfl) (kX7_leave_0 4 rfl) rfl
theorem dX7_leave_5 : decode cX7_leave 5 = .ok (.aload_n 0, 1) := dq_42 (kX7_leave_0 5 rfl)
theorem dX7_leave_6 : decode cX7_leave 6 = .ok (.iload_n 1, 1) := dq_27 (kX7_leave_0 6 rfl)
theorem dX7_leave_7 : decode cX7_leave 7 = .ok (.putfield 15, 3) := dq_181 (kX7_leave_0 7 rfl) (kX7_leave_0 8 rfl) (kX7_leave_0 9 rfl) rfl
theorem dX7_leave_10 : decode cX7_leave 10 = .ok (.aload_n 0, 1) := dq_42 (kX7_leave_0 10 rfl)
theorem dX7_leave_11 : decode cX7_leave 11 = .ok (.iload_n 2, 1) := dq_28 (kX7_leave_0 11 rfl)
theorem dX7_leave_12 : decode cX7_leave 12 = .ok (.putfield 18, 3) := dq_181 (kX7_leave_0 12 rfl) (kX7_leave_0 13 rfl) (kX7_leave_0 14 rfl) rfl
theorem dX7_leave_15 : decode cX7_leave 15 = .ok (.aload_n 0, 1) := dq_42 (kX7_leave_0 15 rfl)
theorem dX7_leave_16 : decode cX7_leave 16 = .ok (.iload_n 3, 1) := dq_29 (kX7_leave_0 16 rfl)
theorem dX7_leave_17 : decode cX7_leave 17 = .ok (.putfield 21, 3) := dq_181 (kX7_leave_0 17 rfl) (kX7_leave_0 18 rfl) (kX7_leave_0 19 rfl) rfl
theorem dX7_leave_20 : decode cX7_leave 20 = .ok (.aload_n 0, 1) := dq_42 (kX7_leave_0 20 rfl)
theorem dX7_leave_21 : decode cX7_leave 21 = .ok (.iload 5, 2) := dq_21 (kX7_leave_0 21 rfl) (kX7_leave_0 22 rfl) rfl
theorem dX7_leave_23 : decode cX7_leave 23 = .ok (.putfield 33, 3) := dq_181 (kX7_leave_0 23 rfl) (kX7_leave_0 24 rfl) (kX7_leave_0 25 rfl) rfl
theorem dX7_leave_26 : decode cX7_leave 26 = .ok (.aload_n 0, 1) := dq_42 (kX7_leave_0 26 rfl)
theorem dX7_leave_27 : decode cX7_leave 27 = .ok (.iload 4, 2) := dq_21 (kX7_leave_0 27 rfl) (kX7_leave_0 28 rfl) rfl
theorem dX7_leave_29 : decode cX7_leave 29 = .ok (.iload 5, 2) := dq_21 (kX7_leave_0 29 rfl) (kX7_leave_0 30 rfl) rfl
theorem dX7_leave_31 : decode cX7_leave 31 = .ok (.iadd, 1) := dq_96 (kX7_leave_0 31 rfl)
theorem dX7_leave_32 : decode cX7_leave 32 = .ok (.putfield 27, 3) := dq_181 (kX7_leave_1 0 rfl) (kX7_leave_1 1 rfl) (kX7_leave_1 2 rfl) rfl
theorem dX7_leave_35 : decode cX7_leave 35 = .ok (.aload_n 0, 1) := dq_42 (kX7_leave_1 3 rfl)
theorem dX7_leave_36 : decode cX7_leave 36 = .ok (.iconst 0, 1) := dq_3 (kX7_leave_1 4 rfl)
theorem dX7_leave_37 : decode cX7_leave 37 = .ok (.putfield 30, 3) := dq_181 (kX7_leave_1 5 rfl) (kX7_leave_1 6 rfl) (kX7_leave_1 7 rfl) rfl
theorem dX7_leave_40 : decode cX7_leave 40 = .ok (.return_, 1) := dq_177 (kX7_leave_1 8 rfl)

def bX7_turnBack_0 : List UInt8 := [42, 6, 181, 0, 9, 42, 27, 42, 180, 0, 33, 96, 181, 0, 27, 177]
theorem kX7_turnBack_0 (j : Nat) {b : UInt8} (hj : bX7_turnBack_0[j]? = some b) : AtB cX7_turnBack (0 + j) b := at_of32 (by decide +kernel) j hj
theorem dX7_turnBack_0 : decode cX7_turnBack 0 = .ok (.aload_n 0, 1) := dq_42 (kX7_turnBack_0 0 rfl)
theorem dX7_turnBack_1 : decode cX7_turnBack 1 = .ok (.iconst 3, 1) := dq_6 (kX7_turnBack_0 1 rfl)
theorem dX7_turnBack_2 : decode cX7_turnBack 2 = .ok (.putfield 9, 3) := dq_181 (kX7_turnBack_0 2 rfl) (kX7_turnBack_0 3 rfl) (kX7_turnBack_0 4 rfl) rfl
theorem dX7_turnBack_5 : decode cX7_turnBack 5 = .ok (.aload_n 0, 1) := dq_42 (kX7_turnBack_0 5 rfl)
theorem dX7_turnBack_6 : decode cX7_turnBack 6 = .ok (.iload_n 1, 1) := dq_27 (kX7_turnBack_0 6 rfl)
theorem dX7_turnBack_7 : decode cX7_turnBack 7 = .ok (.aload_n 0, 1) := dq_42 (kX7_turnBack_0 7 rfl)
theorem dX7_turnBack_8 : decode cX7_turnBack 8 = .ok (.getfield 33, 3) := dq_180 (kX7_turnBack_0 8 rfl) (kX7_turnBack_0 9 rfl) (kX7_turnBack_0 10 rfl) rfl
theorem dX7_turnBack_11 : decode cX7_turnBack 11 = .ok (.iadd, 1) := dq_96 (kX7_turnBack_0 11 rfl)
theorem dX7_turnBack_12 : decode cX7_turnBack 12 = .ok (.putfield 27, 3) := dq_181 (kX7_turnBack_0 12 rfl) (kX7_turnBack_0 13 rfl) (kX7_turnBack_0 14 rfl) rfl
theorem dX7_turnBack_15 : decode cX7_turnBack 15 = .ok (.return_, 1) := dq_177 (kX7_turnBack_0 15 rfl)

def bX8_init_0 : List UInt8 := [42, 183, 0, 3, 42, 3, 181, 0, 9, 42, 27, 181, 0, 15, 42, 28, 181, 0, 18, 42, 3, 27, 28, 104, 184, 0, 21, 188, 10, 181, 0, 27]
theorem kX8_init_0 (j : Nat) {b : UInt8} (hj : bX8_init_0[j]? = some b) : AtB cX8_init (0 + j) b := at_of32 (by decide +kernel) j hj
def bX8_init_1 : List UInt8 := [177]
theorem kX8_init_1 (j : Nat) {b : UInt8} (hj : bX8_init_1[j]? = some b) : AtB cX8_init (32 + j) b := at_of32 (by decide +kernel) j hj
theorem dX8_init_0 : decode cX8_init 0 = .ok (.aload_n 0, 1) := dq_42 (kX8_init_0 0 rfl)
theorem dX8_init_1 : decode cX8_init 1 = .ok (.invokespecial 3, 3) := dq_183 (kX8_init_0 1 rfl) (kX8_init_0 2 rfl) (kX8_init_0 3 rfl) rfl
theorem dX8_init_4 : decode cX8_init 4 = .ok (.aload_n 0, 1) := dq_42 (kX8_init_0 4 rfl)
theorem dX8_init_5 : decode cX8_init 5 = .ok (.iconst 0, 1) := dq_3 (kX8_init_0 5 rfl)
theorem dX8_init_6 : decode cX8_init 6 = .ok (.putfield 9, 3) := dq_181 (kX8_init_0 6 rfl) (kX8_init_0 7 rfl) (kX8_init_0 8 rfl) rfl
theorem dX8_init_9 : decode cX8_init 9 = .ok (.aload_n 0, 1) := dq_42 (kX8_init_0 9 rfl)
theorem dX8_init_10 : decode cX8_init 10 = .ok (.iload_n 1, 1) := dq_27 (kX8_init_0 10 rfl)
theorem dX8_init_11 : decode cX8_init 11 = .ok (.putfield 15, 3) := dq_181 (kX8_init_0 11 rfl) (kX8_init_0 12 rfl) (kX8_init_0 13 rfl) rfl
theorem dX8_init_14 : decode cX8_init 14 = .ok (.aload_n 0, 1) := dq_42 (kX8_init_0 14 rfl)
theorem dX8_init_15 : decode cX8_init 15 = .ok (.iload_n 2, 1) := dq_28 (kX8_init_0 15 rfl)
theorem dX8_init_16 : decode cX8_init 16 = .ok (.putfield 18, 3) := dq_181 (kX8_init_0 16 rfl) (kX8_init_0 17 rfl) (kX8_init_0 18 rfl) rfl
theorem dX8_init_19 : decode cX8_init 19 = .ok (.aload_n 0, 1) := dq_42 (kX8_init_0 19 rfl)
theorem dX8_init_20 : decode cX8_init 20 = .ok (.iconst 0, 1) := dq_3 (kX8_init_0 20 rfl)
theorem dX8_init_21 : decode cX8_init 21 = .ok (.iload_n 1, 1) := dq_27 (kX8_init_0 21 rfl)
theorem dX8_init_22 : decode cX8_init 22 = .ok (.iload_n 2, 1) := dq_28 (kX8_init_0 22 rfl)
theorem dX8_init_23 : decode cX8_init 23 = .ok (.imul, 1) := dq_104 (kX8_init_0 23 rfl)
theorem dX8_init_24 : decode cX8_init 24 = .ok (.invokestatic 21, 3) := dq_184 (kX8_init_0 24 rfl) (kX8_init_0 25 rfl) (kX8_init_0 26 rfl) rfl
theorem dX8_init_27 : decode cX8_init 27 = .ok (.newarray .int, 2) := dq_188_10 (kX8_init_0 27 rfl) (kX8_init_0 28 rfl)
theorem dX8_init_29 : decode cX8_init 29 = .ok (.putfield 27, 3) := dq_181 (kX8_init_0 29 rfl) (kX8_init_0 30 rfl) (kX8_init_0 31 rfl) rfl
theorem dX8_init_32 : decode cX8_init 32 = .ok (.return_, 1) := dq_177 (kX8_init_1 0 rfl)

def bX8_isFull_0 : List UInt8 := [42, 180, 0, 9, 42, 180, 0, 18, 161, 0, 7, 4, 167, 0, 4, 3, 172]
theorem kX8_isFull_0 (j : Nat) {b : UInt8} (hj : bX8_isFull_0[j]? = some b) : AtB cX8_isFull (0 + j) b := at_of32 (by decide +kernel) j hj
theorem dX8_isFull_0 : decode cX8_isFull 0 = .ok (.aload_n 0, 1) := dq_42 (kX8_isFull_0 0 rfl)
theorem dX8_isFull_1 : decode cX8_isFull 1 = .ok (.getfield 9, 3) := dq_180 (kX8_isFull_0 1 rfl) (kX8_isFull_0 2 rfl) (kX8_isFull_0 3 rfl) rfl
theorem dX8_isFull_4 : decode cX8_isFull 4 = .ok (.aload_n 0, 1) := dq_42 (kX8_isFull_0 4 rfl)
theorem dX8_isFull_5 : decode cX8_isFull 5 = .ok (.getfield 18, 3) := dq_180 (kX8_isFull_0 5 rfl) (kX8_isFull_0 6 rfl) (kX8_isFull_0 7 rfl) rfl
theorem dX8_isFull_8 : decode cX8_isFull 8 = .ok (.if_icmp .lt 7, 3) := dq_161 (kX8_isFull_0 8 rfl) (kX8_isFull_0 9 rfl) (kX8_isFull_0 10 rfl) (by decide)
theorem dX8_isFull_11 : decode cX8_isFull 11 = .ok (.iconst 1, 1) := dq_4 (kX8_isFull_0 11 rfl)
theorem dX8_isFull_12 : decode cX8_isFull 12 = .ok (.goto 4, 3) := dq_167 (kX8_isFull_0 12 rfl) (kX8_isFull_0 13 rfl) (kX8_isFull_0 14 rfl) (by decide)
theorem dX8_isFull_15 : decode cX8_isFull 15 = .ok (.iconst 0, 1) := dq_3 (kX8_isFull_0 15 rfl)
theorem dX8_isFull_16 : decode cX8_isFull 16 = .ok (.ireturn, 1) := dq_172 (kX8_isFull_0 16 rfl)

def bX8_has_0 : List UInt8 := [27, 155, 0, 15, 27, 42, 180, 0, 9, 162, 0, 7, 4, 167, 0, 4, 3, 172]
theorem kX8_has_0 (j : Nat) {b : UInt8} (hj : bX8_has_0[j]? = some b) : AtB cX8_has (0 + j) b := at_of32 (by decide +kernel) j hj
theorem dX8_has_0 : decode cX8_has 0 = .ok (.iload_n 1, 1) := dq_27 (kX8_has_0 0 rfl)
theorem dX8_has_1 : decode cX8_has 1 = .ok (.ifCond .lt 15, 3) := dq_155 (kX8_has_0 1 rfl) (kX8_has_0 2 rfl) (kX8_has_0 3 rfl) (by decide)
theorem dX8_has_4 : decode cX8_has 4 = .ok (.iload_n 1, 1) := dq_27 (kX8_has_0 4 rfl)
theorem dX8_has_5 : decode cX8_has 5 = .ok (.aload_n 0, 1) := dq_42 (kX8_has_0 5 rfl)
theorem dX8_has_6 : decode cX8_has 6 = .ok (.getfield 9, 3) := dq_180 (kX8_has_0 6 rfl) (kX8_has_0 7 rfl) (kX8_has_0 8 rfl) rfl
theorem dX8_has_9 : decode cX8_has 9 = .ok (.if_icmp .ge 7, 3) := dq_162 (kX8_has_0 9 rfl) (kX8_has_0 10 rfl) (kX8_has_0 11 rfl) (by decide)
theorem dX8_has_12 : decode cX8_has 12 = .ok (.iconst 1, 1) := dq_4 (kX8_has_0 12 rfl)
theorem dX8_has_13 : decode cX8_has 13 = .ok (.goto 4, 3) := dq_167 (kX8_has_0 13 rfl) (kX8_has_0 14 rfl) (kX8_has_0 15 rfl) (by decide)
theorem dX8_has_16 : decode cX8_has 16 = .ok (.iconst 0, 1) := dq_3 (kX8_has_0 16 rfl)
theorem dX8_has_17 : decode cX8_has 17 = .ok (.ireturn, 1) := dq_172 (kX8_has_0 17 rfl)

def bX8_get_0 : List UInt8 := [27, 42, 180, 0, 15, 104, 28, 96, 62, 27, 155, 0, 27, 27, 42, 180, 0, 9, 162, 0, 19, 28, 155, 0, 15, 28, 42, 180, 0, 15, 162, 0]
theorem kX8_get_0 (j : Nat) {b : UInt8} (hj : bX8_get_0[j]? = some b) : AtB cX8_get (0 + j) b := at_of32 (by decide +kernel) j hj
def bX8_get_1 : List UInt8 := [7, 4, 167, 0, 4, 3, 54, 4, 21, 4, 153, 0, 25, 29, 155, 0, 21, 29, 42, 180, 0, 27, 190, 162, 0, 12, 42, 180, 0, 27, 29, 46]
theorem kX8_get_1 (j : Nat) {b : UInt8} (hj : bX8_get_1[j]? = some b) : AtB cX8_get (32 + j) b := at_of32 (by decide +kernel) j hj
def bX8_get_2 : List UInt8 := [167, 0, 4, 3, 172]
theorem kX8_get_2 (j : Nat) {b : UInt8} (hj : bX8_get_2[j]? = some b) : AtB cX8_get (64 + j) b := at_of32 (by decide +kernel) j hj
theorem dX8_get_0 : decode cX8_get 0 = .ok (.iload_n 1, 1) := dq_27 (kX8_get_0 0 rfl)
theorem dX8_get_1 : decode cX8_get 1 = .ok (.aload_n 0, 1) := dq_42 (kX8_get_0 1 rfl)
theorem dX8_get_2 : decode cX8_get 2 = .ok (.getfield 15, 3) := dq_180 (kX8_get_0 2 rfl) (kX8_get_0 3 rfl) (kX8_get_0 4 rfl) rfl
theorem dX8_get_5 : decode cX8_get 5 = .ok (.imul, 1) := dq_104 (kX8_get_0 5 rfl)
theorem dX8_get_6 : decode cX8_get 6 = .ok (.iload_n 2, 1) := dq_28 (kX8_get_0 6 rfl)
theorem dX8_get_7 : decode cX8_get 7 = .ok (.iadd, 1) := dq_96 (kX8_get_0 7 rfl)
theorem dX8_get_8 : decode cX8_get 8 = .ok (.istore_n 3, 1) := dq_62 (kX8_get_0 8 rfl)
theorem dX8_get_9 : decode cX8_get 9 = .ok (.iload_n 1, 1) := dq_27 (kX8_get_0 9 rfl)
theorem dX8_get_10 : decode cX8_get 10 = .ok (.ifCond .lt 27, 3) := dq_155 (kX8_get_0 10 rfl) (kX8_get_0 11 rfl) (kX8_get_0 12 rfl) (by decide)
theorem dX8_get_13 : decode cX8_get 13 = .ok (.iload_n 1, 1) := dq_27 (kX8_get_0 13 rfl)
theorem dX8_get_14 : decode cX8_get 14 = .ok (.aload_n 0, 1) := dq_42 (kX8_get_0 14 rfl)
theorem dX8_get_15 : decode cX8_get 15 = .ok (.getfield 9, 3) := dq_180 (kX8_get_0 15 rfl) (kX8_get_0 16 rfl) (kX8_get_0 17 rfl) rfl
theorem dX8_get_18 : decode cX8_get 18 = .ok (.if_icmp .ge 19, 3) := dq_162 (kX8_get_0 18 rfl) (kX8_get_0 19 rfl) (kX8_get_0 20 rfl) (by decide)
theorem dX8_get_21 : decode cX8_get 21 = .ok (.iload_n 2, 1) := dq_28 (kX8_get_0 21 rfl)
theorem dX8_get_22 : decode cX8_get 22 = .ok (.ifCond .lt 15, 3) := dq_155 (kX8_get_0 22 rfl) (kX8_get_0 23 rfl) (kX8_get_0 24 rfl) (by decide)
theorem dX8_get_25 : decode cX8_get 25 = .ok (.iload_n 2, 1) := dq_28 (kX8_get_0 25 rfl)
theorem dX8_get_26 : decode cX8_get 26 = .ok (.aload_n 0, 1) := dq_42 (kX8_get_0 26 rfl)
theorem dX8_get_27 : decode cX8_get 27 = .ok (.getfield 15, 3) := dq_180 (kX8_get_0 27 rfl) (kX8_get_0 28 rfl) (kX8_get_0 29 rfl) rfl
theorem dX8_get_30 : decode cX8_get 30 = .ok (.if_icmp .ge 7, 3) := dq_162 (kX8_get_0 30 rfl) (kX8_get_0 31 rfl) (kX8_get_1 0 rfl) (by decide)
theorem dX8_get_33 : decode cX8_get 33 = .ok (.iconst 1, 1) := dq_4 (kX8_get_1 1 rfl)
theorem dX8_get_34 : decode cX8_get 34 = .ok (.goto 4, 3) := dq_167 (kX8_get_1 2 rfl) (kX8_get_1 3 rfl) (kX8_get_1 4 rfl) (by decide)
theorem dX8_get_37 : decode cX8_get 37 = .ok (.iconst 0, 1) := dq_3 (kX8_get_1 5 rfl)
theorem dX8_get_38 : decode cX8_get 38 = .ok (.istore 4, 2) := dq_54 (kX8_get_1 6 rfl) (kX8_get_1 7 rfl) rfl
theorem dX8_get_40 : decode cX8_get 40 = .ok (.iload 4, 2) := dq_21 (kX8_get_1 8 rfl) (kX8_get_1 9 rfl) rfl
theorem dX8_get_42 : decode cX8_get 42 = .ok (.ifCond .eq 25, 3) := dq_153 (kX8_get_1 10 rfl) (kX8_get_1 11 rfl) (kX8_get_1 12 rfl) (by decide)
theorem dX8_get_45 : decode cX8_get 45 = .ok (.iload_n 3, 1) := dq_29 (kX8_get_1 13 rfl)
theorem dX8_get_46 : decode cX8_get 46 = .ok (.ifCond .lt 21, 3) := dq_155 (kX8_get_1 14 rfl) (kX8_get_1 15 rfl) (kX8_get_1 16 rfl) (by decide)
theorem dX8_get_49 : decode cX8_get 49 = .ok (.iload_n 3, 1) := dq_29 (kX8_get_1 17 rfl)
theorem dX8_get_50 : decode cX8_get 50 = .ok (.aload_n 0, 1) := dq_42 (kX8_get_1 18 rfl)
theorem dX8_get_51 : decode cX8_get 51 = .ok (.getfield 27, 3) := dq_180 (kX8_get_1 19 rfl) (kX8_get_1 20 rfl) (kX8_get_1 21 rfl) rfl
theorem dX8_get_54 : decode cX8_get 54 = .ok (.arraylength, 1) := dq_190 (kX8_get_1 22 rfl)
theorem dX8_get_55 : decode cX8_get 55 = .ok (.if_icmp .ge 12, 3) := dq_162 (kX8_get_1 23 rfl) (kX8_get_1 24 rfl) (kX8_get_1 25 rfl) (by decide)
theorem dX8_get_58 : decode cX8_get 58 = .ok (.aload_n 0, 1) := dq_42 (kX8_get_1 26 rfl)
theorem dX8_get_59 : decode cX8_get 59 = .ok (.getfield 27, 3) := dq_180 (kX8_get_1 27 rfl) (kX8_get_1 28 rfl) (kX8_get_1 29 rfl) rfl
theorem dX8_get_62 : decode cX8_get 62 = .ok (.iload_n 3, 1) := dq_29 (kX8_get_1 30 rfl)
theorem dX8_get_63 : decode cX8_get 63 = .ok (.iaload, 1) := dq_46 (kX8_get_1 31 rfl)
theorem dX8_get_64 : decode cX8_get 64 = .ok (.goto 4, 3) := dq_167 (kX8_get_2 0 rfl) (kX8_get_2 1 rfl) (kX8_get_2 2 rfl) (by decide)
theorem dX8_get_67 : decode cX8_get 67 = .ok (.iconst 0, 1) := dq_3 (kX8_get_2 3 rfl)
theorem dX8_get_68 : decode cX8_get 68 = .ok (.ireturn, 1) := dq_172 (kX8_get_2 4 rfl)

def bX8_put_0 : List UInt8 := [27, 42, 180, 0, 15, 104, 28, 96, 54, 4, 27, 155, 0, 27, 27, 42, 180, 0, 9, 162, 0, 19, 28, 155, 0, 15, 28, 42, 180, 0, 15, 162]
theorem kX8_put_0 (j : Nat) {b : UInt8} (hj : bX8_put_0[j]? = some b) : AtB cX8_put (0 + j) b := at_of32 (by decide +kernel) j hj
def bX8_put_1 : List UInt8 := [0, 7, 4, 167, 0, 4, 3, 54, 5, 21, 5, 153, 0, 26, 21, 4, 155, 0, 21, 21, 4, 42, 180, 0, 27, 190, 162, 0, 11, 42, 180, 0]
theorem kX8_put_1 (j : Nat) {b : UInt8} (hj : bX8_put_1[j]? = some b) : AtB cX8_put (32 + j) b := at_of32 (by decide +kernel) j hj
def bX8_put_2 : List UInt8 := [27, 21, 4, 29, 79, 177]
theorem kX8_put_2 (j : Nat) {b : UInt8} (hj : bX8_put_2[j]? = some b) : AtB cX8_put (64 + j) b := at_of32 (by decide +kernel) j hj
theorem dX8_put_0 : decode cX8_put 0 = .ok (.iload_n 1, 1) := dq_27 (kX8_put_0 0 rfl)
theorem dX8_put_1 : decode cX8_put 1 = .ok (.aload_n 0, 1) := dq_42 (kX8_put_0 1 rfl)
theorem dX8_put_2 : decode cX8_put 2 = .ok (.getfield 15, 3) := dq_180 (kX8_put_0 2 rfl) (kX8_put_0 3 rfl) (kX8_put_0 4 rfl) rfl
theorem dX8_put_5 : decode cX8_put 5 = .ok (.imul, 1) := dq_104 (kX8_put_0 5 rfl)
theorem dX8_put_6 : decode cX8_put 6 = .ok (.iload_n 2, 1) := dq_28 (kX8_put_0 6 rfl)
theorem dX8_put_7 : decode cX8_put 7 = .ok (.iadd, 1) := dq_96 (kX8_put_0 7 rfl)
theorem dX8_put_8 : decode cX8_put 8 = .ok (.istore 4, 2) := dq_54 (kX8_put_0 8 rfl) (kX8_put_0 9 rfl) rfl
theorem dX8_put_10 : decode cX8_put 10 = .ok (.iload_n 1, 1) := dq_27 (kX8_put_0 10 rfl)
theorem dX8_put_11 : decode cX8_put 11 = .ok (.ifCond .lt 27, 3) := dq_155 (kX8_put_0 11 rfl) (kX8_put_0 12 rfl) (kX8_put_0 13 rfl) (by decide)
theorem dX8_put_14 : decode cX8_put 14 = .ok (.iload_n 1, 1) := dq_27 (kX8_put_0 14 rfl)
theorem dX8_put_15 : decode cX8_put 15 = .ok (.aload_n 0, 1) := dq_42 (kX8_put_0 15 rfl)
theorem dX8_put_16 : decode cX8_put 16 = .ok (.getfield 9, 3) := dq_180 (kX8_put_0 16 rfl) (kX8_put_0 17 rfl) (kX8_put_0 18 rfl) rfl
theorem dX8_put_19 : decode cX8_put 19 = .ok (.if_icmp .ge 19, 3) := dq_162 (kX8_put_0 19 rfl) (kX8_put_0 20 rfl) (kX8_put_0 21 rfl) (by decide)
theorem dX8_put_22 : decode cX8_put 22 = .ok (.iload_n 2, 1) := dq_28 (kX8_put_0 22 rfl)
theorem dX8_put_23 : decode cX8_put 23 = .ok (.ifCond .lt 15, 3) := dq_155 (kX8_put_0 23 rfl) (kX8_put_0 24 rfl) (kX8_put_0 25 rfl) (by decide)
theorem dX8_put_26 : decode cX8_put 26 = .ok (.iload_n 2, 1) := dq_28 (kX8_put_0 26 rfl)
theorem dX8_put_27 : decode cX8_put 27 = .ok (.aload_n 0, 1) := dq_42 (kX8_put_0 27 rfl)
theorem dX8_put_28 : decode cX8_put 28 = .ok (.getfield 15, 3) := dq_180 (kX8_put_0 28 rfl) (kX8_put_0 29 rfl) (kX8_put_0 30 rfl) rfl
theorem dX8_put_31 : decode cX8_put 31 = .ok (.if_icmp .ge 7, 3) := dq_162 (kX8_put_0 31 rfl) (kX8_put_1 0 rfl) (kX8_put_1 1 rfl) (by decide)
theorem dX8_put_34 : decode cX8_put 34 = .ok (.iconst 1, 1) := dq_4 (kX8_put_1 2 rfl)
theorem dX8_put_35 : decode cX8_put 35 = .ok (.goto 4, 3) := dq_167 (kX8_put_1 3 rfl) (kX8_put_1 4 rfl) (kX8_put_1 5 rfl) (by decide)
theorem dX8_put_38 : decode cX8_put 38 = .ok (.iconst 0, 1) := dq_3 (kX8_put_1 6 rfl)
theorem dX8_put_39 : decode cX8_put 39 = .ok (.istore 5, 2) := dq_54 (kX8_put_1 7 rfl) (kX8_put_1 8 rfl) rfl
theorem dX8_put_41 : decode cX8_put 41 = .ok (.iload 5, 2) := dq_21 (kX8_put_1 9 rfl) (kX8_put_1 10 rfl) rfl
theorem dX8_put_43 : decode cX8_put 43 = .ok (.ifCond .eq 26, 3) := dq_153 (kX8_put_1 11 rfl) (kX8_put_1 12 rfl) (kX8_put_1 13 rfl) (by decide)
theorem dX8_put_46 : decode cX8_put 46 = .ok (.iload 4, 2) := dq_21 (kX8_put_1 14 rfl) (kX8_put_1 15 rfl) rfl
theorem dX8_put_48 : decode cX8_put 48 = .ok (.ifCond .lt 21, 3) := dq_155 (kX8_put_1 16 rfl) (kX8_put_1 17 rfl) (kX8_put_1 18 rfl) (by decide)
theorem dX8_put_51 : decode cX8_put 51 = .ok (.iload 4, 2) := dq_21 (kX8_put_1 19 rfl) (kX8_put_1 20 rfl) rfl
theorem dX8_put_53 : decode cX8_put 53 = .ok (.aload_n 0, 1) := dq_42 (kX8_put_1 21 rfl)
theorem dX8_put_54 : decode cX8_put 54 = .ok (.getfield 27, 3) := dq_180 (kX8_put_1 22 rfl) (kX8_put_1 23 rfl) (kX8_put_1 24 rfl) rfl
theorem dX8_put_57 : decode cX8_put 57 = .ok (.arraylength, 1) := dq_190 (kX8_put_1 25 rfl)
theorem dX8_put_58 : decode cX8_put 58 = .ok (.if_icmp .ge 11, 3) := dq_162 (kX8_put_1 26 rfl) (kX8_put_1 27 rfl) (kX8_put_1 28 rfl) (by decide)
theorem dX8_put_61 : decode cX8_put 61 = .ok (.aload_n 0, 1) := dq_42 (kX8_put_1 29 rfl)
theorem dX8_put_62 : decode cX8_put 62 = .ok (.getfield 27, 3) := dq_180 (kX8_put_1 30 rfl) (kX8_put_1 31 rfl) (kX8_put_2 0 rfl) rfl
theorem dX8_put_65 : decode cX8_put 65 = .ok (.iload 4, 2) := dq_21 (kX8_put_2 1 rfl) (kX8_put_2 2 rfl) rfl
theorem dX8_put_67 : decode cX8_put 67 = .ok (.iload_n 3, 1) := dq_29 (kX8_put_2 3 rfl)
theorem dX8_put_68 : decode cX8_put 68 = .ok (.iastore, 1) := dq_79 (kX8_put_2 4 rfl)
theorem dX8_put_69 : decode cX8_put 69 = .ok (.return_, 1) := dq_177 (kX8_put_2 5 rfl)

def bX8_append_0 : List UInt8 := [42, 182, 0, 31, 153, 0, 5, 2, 172, 42, 180, 0, 9, 54, 6, 42, 89, 180, 0, 9, 4, 96, 181, 0, 9, 42, 21, 6, 3, 27, 182, 0]
theorem kX8_append_0 (j : Nat) {b : UInt8} (hj : bX8_append_0[j]? = some b) : AtB cX8_append (0 + j) b := at_of32 (by decide +kernel) j hj
def bX8_append_1 : List UInt8 := [35, 42, 21, 6, 4, 28, 182, 0, 35, 42, 21, 6, 5, 29, 182, 0, 35, 42, 21, 6, 6, 21, 4, 182, 0, 35, 42, 21, 6, 7, 21, 5]
theorem kX8_append_1 (j : Nat) {b : UInt8} (hj : bX8_append_1[j]? = some b) : AtB cX8_append (32 + j) b := at_of32 (by decide +kernel) j hj
def bX8_append_2 : List UInt8 := [182, 0, 35, 21, 6, 172]
theorem kX8_append_2 (j : Nat) {b : UInt8} (hj : bX8_append_2[j]? = some b) : AtB cX8_append (64 + j) b := at_of32 (by decide +kernel) j hj
theorem dX8_append_0 : decode cX8_append 0 = .ok (.aload_n 0, 1) := dq_42 (kX8_append_0 0 rfl)
theorem dX8_append_1 : decode cX8_append 1 = .ok (.invokevirtual 31, 3) := dq_182 (kX8_append_0 1 rfl) (kX8_append_0 2 rfl) (kX8_append_0 3 rfl) rfl
theorem dX8_append_4 : decode cX8_append 4 = .ok (.ifCond .eq 5, 3) := dq_153 (kX8_append_0 4 rfl) (kX8_append_0 5 rfl) (kX8_append_0 6 rfl) (by decide)
theorem dX8_append_7 : decode cX8_append 7 = .ok (.iconst (-1), 1) := dq_2 (kX8_append_0 7 rfl)
theorem dX8_append_8 : decode cX8_append 8 = .ok (.ireturn, 1) := dq_172 (kX8_append_0 8 rfl)
theorem dX8_append_9 : decode cX8_append 9 = .ok (.aload_n 0, 1) := dq_42 (kX8_append_0 9 rfl)
theorem dX8_append_10 : decode cX8_append 10 = .ok (.getfield 9, 3) := dq_180 (kX8_append_0 10 rfl) (kX8_append_0 11 rfl) (kX8_append_0 12 rfl) rfl
theorem dX8_append_13 : decode cX8_append 13 = .ok (.istore 6, 2) := dq_54 (kX8_append_0 13 rfl) (kX8_append_0 14 rfl) rfl
theorem dX8_append_15 : decode cX8_append 15 = .ok (.aload_n 0, 1) := dq_42 (kX8_append_0 15 rfl)
theorem dX8_append_16 : decode cX8_append 16 = .ok (.dup, 1) := dq_89 (kX8_append_0 16 rfl)
theorem dX8_append_17 : decode cX8_append 17 = .ok (.getfield 9, 3) := dq_180 (kX8_append_0 17 rfl) (kX8_append_0 18 rfl) (kX8_append_0 19 rfl) rfl
theorem dX8_append_20 : decode cX8_append 20 = .ok (.iconst 1, 1) := dq_4 (kX8_append_0 20 rfl)
theorem dX8_append_21 : decode cX8_append 21 = .ok (.iadd, 1) := dq_96 (kX8_append_0 21 rfl)
theorem dX8_append_22 : decode cX8_append 22 = .ok (.putfield 9, 3) := dq_181 (kX8_append_0 22 rfl) (kX8_append_0 23 rfl) (kX8_append_0 24 rfl) rfl
theorem dX8_append_25 : decode cX8_append 25 = .ok (.aload_n 0, 1) := dq_42 (kX8_append_0 25 rfl)
theorem dX8_append_26 : decode cX8_append 26 = .ok (.iload 6, 2) := dq_21 (kX8_append_0 26 rfl) (kX8_append_0 27 rfl) rfl
theorem dX8_append_28 : decode cX8_append 28 = .ok (.iconst 0, 1) := dq_3 (kX8_append_0 28 rfl)
theorem dX8_append_29 : decode cX8_append 29 = .ok (.iload_n 1, 1) := dq_27 (kX8_append_0 29 rfl)
theorem dX8_append_30 : decode cX8_append 30 = .ok (.invokevirtual 35, 3) := dq_182 (kX8_append_0 30 rfl) (kX8_append_0 31 rfl) (kX8_append_1 0 rfl) rfl
theorem dX8_append_33 : decode cX8_append 33 = .ok (.aload_n 0, 1) := dq_42 (kX8_append_1 1 rfl)
theorem dX8_append_34 : decode cX8_append 34 = .ok (.iload 6, 2) := dq_21 (kX8_append_1 2 rfl) (kX8_append_1 3 rfl) rfl
theorem dX8_append_36 : decode cX8_append 36 = .ok (.iconst 1, 1) := dq_4 (kX8_append_1 4 rfl)
theorem dX8_append_37 : decode cX8_append 37 = .ok (.iload_n 2, 1) := dq_28 (kX8_append_1 5 rfl)
theorem dX8_append_38 : decode cX8_append 38 = .ok (.invokevirtual 35, 3) := dq_182 (kX8_append_1 6 rfl) (kX8_append_1 7 rfl) (kX8_append_1 8 rfl) rfl
theorem dX8_append_41 : decode cX8_append 41 = .ok (.aload_n 0, 1) := dq_42 (kX8_append_1 9 rfl)
theorem dX8_append_42 : decode cX8_append 42 = .ok (.iload 6, 2) := dq_21 (kX8_append_1 10 rfl) (kX8_append_1 11 rfl) rfl
theorem dX8_append_44 : decode cX8_append 44 = .ok (.iconst 2, 1) := dq_5 (kX8_append_1 12 rfl)
theorem dX8_append_45 : decode cX8_append 45 = .ok (.iload_n 3, 1) := dq_29 (kX8_append_1 13 rfl)
theorem dX8_append_46 : decode cX8_append 46 = .ok (.invokevirtual 35, 3) := dq_182 (kX8_append_1 14 rfl) (kX8_append_1 15 rfl) (kX8_append_1 16 rfl) rfl
theorem dX8_append_49 : decode cX8_append 49 = .ok (.aload_n 0, 1) := dq_42 (kX8_append_1 17 rfl)
theorem dX8_append_50 : decode cX8_append 50 = .ok (.iload 6, 2) := dq_21 (kX8_append_1 18 rfl) (kX8_append_1 19 rfl) rfl
theorem dX8_append_52 : decode cX8_append 52 = .ok (.iconst 3, 1) := dq_6 (kX8_append_1 20 rfl)
theorem dX8_append_53 : decode cX8_append 53 = .ok (.iload 4, 2) := dq_21 (kX8_append_1 21 rfl) (kX8_append_1 22 rfl) rfl
theorem dX8_append_55 : decode cX8_append 55 = .ok (.invokevirtual 35, 3) := dq_182 (kX8_append_1 23 rfl) (kX8_append_1 24 rfl) (kX8_append_1 25 rfl) rfl
theorem dX8_append_58 : decode cX8_append 58 = .ok (.aload_n 0, 1) := dq_42 (kX8_append_1 26 rfl)
theorem dX8_append_59 : decode cX8_append 59 = .ok (.iload 6, 2) := dq_21 (kX8_append_1 27 rfl) (kX8_append_1 28 rfl) rfl
theorem dX8_append_61 : decode cX8_append 61 = .ok (.iconst 4, 1) := dq_7 (kX8_append_1 29 rfl)
theorem dX8_append_62 : decode cX8_append 62 = .ok (.iload 5, 2) := dq_21 (kX8_append_1 30 rfl) (kX8_append_1 31 rfl) rfl
theorem dX8_append_64 : decode cX8_append 64 = .ok (.invokevirtual 35, 3) := dq_182 (kX8_append_2 0 rfl) (kX8_append_2 1 rfl) (kX8_append_2 2 rfl) rfl
theorem dX8_append_67 : decode cX8_append 67 = .ok (.iload 6, 2) := dq_21 (kX8_append_2 3 rfl) (kX8_append_2 4 rfl) rfl
theorem dX8_append_69 : decode cX8_append 69 = .ok (.ireturn, 1) := dq_172 (kX8_append_2 5 rfl)

def bX9_init_0 : List UInt8 := [42, 183, 0, 3, 42, 3, 181, 0, 9, 42, 27, 181, 0, 15, 42, 28, 181, 0, 18, 42, 187, 0, 21, 89, 16, 6, 21, 4, 183, 0, 23, 181]
theorem kX9_init_0 (j : Nat) {b : UInt8} (hj : bX9_init_0[j]? = some b) : AtB cX9_init (0 + j) b := at_of32 (by decide +kernel) j hj
def bX9_init_1 : List UInt8 := [0, 26, 42, 3, 29, 184, 0, 30, 188, 10, 181, 0, 36, 177]
theorem kX9_init_1 (j : Nat) {b : UInt8} (hj : bX9_init_1[j]? = some b) : AtB cX9_init (32 + j) b := at_of32 (by decide +kernel) j hj
theorem dX9_init_0 : decode cX9_init 0 = .ok (.aload_n 0, 1) := dq_42 (kX9_init_0 0 rfl)
theorem dX9_init_1 : decode cX9_init 1 = .ok (.invokespecial 3, 3) := dq_183 (kX9_init_0 1 rfl) (kX9_init_0 2 rfl) (kX9_init_0 3 rfl) rfl
theorem dX9_init_4 : decode cX9_init 4 = .ok (.aload_n 0, 1) := dq_42 (kX9_init_0 4 rfl)
theorem dX9_init_5 : decode cX9_init 5 = .ok (.iconst 0, 1) := dq_3 (kX9_init_0 5 rfl)
theorem dX9_init_6 : decode cX9_init 6 = .ok (.putfield 9, 3) := dq_181 (kX9_init_0 6 rfl) (kX9_init_0 7 rfl) (kX9_init_0 8 rfl) rfl
theorem dX9_init_9 : decode cX9_init 9 = .ok (.aload_n 0, 1) := dq_42 (kX9_init_0 9 rfl)
theorem dX9_init_10 : decode cX9_init 10 = .ok (.iload_n 1, 1) := dq_27 (kX9_init_0 10 rfl)
theorem dX9_init_11 : decode cX9_init 11 = .ok (.putfield 15, 3) := dq_181 (kX9_init_0 11 rfl) (kX9_init_0 12 rfl) (kX9_init_0 13 rfl) rfl
theorem dX9_init_14 : decode cX9_init 14 = .ok (.aload_n 0, 1) := dq_42 (kX9_init_0 14 rfl)
theorem dX9_init_15 : decode cX9_init 15 = .ok (.iload_n 2, 1) := dq_28 (kX9_init_0 15 rfl)
theorem dX9_init_16 : decode cX9_init 16 = .ok (.putfield 18, 3) := dq_181 (kX9_init_0 16 rfl) (kX9_init_0 17 rfl) (kX9_init_0 18 rfl) rfl
theorem dX9_init_19 : decode cX9_init 19 = .ok (.aload_n 0, 1) := dq_42 (kX9_init_0 19 rfl)
theorem dX9_init_20 : decode cX9_init 20 = .ok (.new 21, 3) := dq_187 (kX9_init_0 20 rfl) (kX9_init_0 21 rfl) (kX9_init_0 22 rfl) rfl
theorem dX9_init_23 : decode cX9_init 23 = .ok (.dup, 1) := dq_89 (kX9_init_0 23 rfl)
theorem dX9_init_24 : decode cX9_init 24 = .ok (.bipush 6, 2) := dq_16 (kX9_init_0 24 rfl) (kX9_init_0 25 rfl) (by decide)
theorem dX9_init_26 : decode cX9_init 26 = .ok (.iload 4, 2) := dq_21 (kX9_init_0 26 rfl) (kX9_init_0 27 rfl) rfl
theorem dX9_init_28 : decode cX9_init 28 = .ok (.invokespecial 23, 3) := dq_183 (kX9_init_0 28 rfl) (kX9_init_0 29 rfl) (kX9_init_0 30 rfl) rfl
theorem dX9_init_31 : decode cX9_init 31 = .ok (.putfield 26, 3) := dq_181 (kX9_init_0 31 rfl) (kX9_init_1 0 rfl) (kX9_init_1 1 rfl) rfl
theorem dX9_init_34 : decode cX9_init 34 = .ok (.aload_n 0, 1) := dq_42 (kX9_init_1 2 rfl)
theorem dX9_init_35 : decode cX9_init 35 = .ok (.iconst 0, 1) := dq_3 (kX9_init_1 3 rfl)
theorem dX9_init_36 : decode cX9_init 36 = .ok (.iload_n 3, 1) := dq_29 (kX9_init_1 4 rfl)
theorem dX9_init_37 : decode cX9_init 37 = .ok (.invokestatic 30, 3) := dq_184 (kX9_init_1 5 rfl) (kX9_init_1 6 rfl) (kX9_init_1 7 rfl) rfl
theorem dX9_init_40 : decode cX9_init 40 = .ok (.newarray .int, 2) := dq_188_10 (kX9_init_1 8 rfl) (kX9_init_1 9 rfl)
theorem dX9_init_42 : decode cX9_init 42 = .ok (.putfield 36, 3) := dq_181 (kX9_init_1 10 rfl) (kX9_init_1 11 rfl) (kX9_init_1 12 rfl) rfl
theorem dX9_init_45 : decode cX9_init 45 = .ok (.return_, 1) := dq_177 (kX9_init_1 13 rfl)

def bX9_isInForce_0 : List UInt8 := [27, 42, 180, 0, 15, 161, 0, 15, 27, 42, 180, 0, 18, 163, 0, 7, 4, 167, 0, 4, 3, 172]
theorem kX9_isInForce_0 (j : Nat) {b : UInt8} (hj : bX9_isInForce_0[j]? = some b) : AtB cX9_isInForce (0 + j) b := at_of32 (by decide +kernel) j hj
theorem dX9_isInForce_0 : decode cX9_isInForce 0 = .ok (.iload_n 1, 1) := dq_27 (kX9_isInForce_0 0 rfl)
theorem dX9_isInForce_1 : decode cX9_isInForce 1 = .ok (.aload_n 0, 1) := dq_42 (kX9_isInForce_0 1 rfl)
theorem dX9_isInForce_2 : decode cX9_isInForce 2 = .ok (.getfield 15, 3) := dq_180 (kX9_isInForce_0 2 rfl) (kX9_isInForce_0 3 rfl) (kX9_isInForce_0 4 rfl) rfl
theorem dX9_isInForce_5 : decode cX9_isInForce 5 = .ok (.if_icmp .lt 15, 3) := dq_161 (kX9_isInForce_0 5 rfl) (kX9_isInForce_0 6 rfl) (kX9_isInForce_0 7 rfl) (by decide)
theorem dX9_isInForce_8 : decode cX9_isInForce 8 = .ok (.iload_n 1, 1) := dq_27 (kX9_isInForce_0 8 rfl)
theorem dX9_isInForce_9 : decode cX9_isInForce 9 = .ok (.aload_n 0, 1) := dq_42 (kX9_isInForce_0 9 rfl)
theorem dX9_isInForce_10 : decode cX9_isInForce 10 = .ok (.getfield 18, 3) := dq_180 (kX9_isInForce_0 10 rfl) (kX9_isInForce_0 11 rfl) (kX9_isInForce_0 12 rfl) rfl
theorem dX9_isInForce_13 : decode cX9_isInForce 13 = .ok (.if_icmp .gt 7, 3) := dq_163 (kX9_isInForce_0 13 rfl) (kX9_isInForce_0 14 rfl) (kX9_isInForce_0 15 rfl) (by decide)
theorem dX9_isInForce_16 : decode cX9_isInForce 16 = .ok (.iconst 1, 1) := dq_4 (kX9_isInForce_0 16 rfl)
theorem dX9_isInForce_17 : decode cX9_isInForce 17 = .ok (.goto 4, 3) := dq_167 (kX9_isInForce_0 17 rfl) (kX9_isInForce_0 18 rfl) (kX9_isInForce_0 19 rfl) (by decide)
theorem dX9_isInForce_20 : decode cX9_isInForce 20 = .ok (.iconst 0, 1) := dq_3 (kX9_isInForce_0 20 rfl)
theorem dX9_isInForce_21 : decode cX9_isInForce 21 = .ok (.ireturn, 1) := dq_172 (kX9_isInForce_0 21 rfl)

def bX9_letterOf_0 : List UInt8 := [42, 180, 0, 26, 27, 3, 182, 0, 40, 172]
theorem kX9_letterOf_0 (j : Nat) {b : UInt8} (hj : bX9_letterOf_0[j]? = some b) : AtB cX9_letterOf (0 + j) b := at_of32 (by decide +kernel) j hj
theorem dX9_letterOf_0 : decode cX9_letterOf 0 = .ok (.aload_n 0, 1) := dq_42 (kX9_letterOf_0 0 rfl)
theorem dX9_letterOf_1 : decode cX9_letterOf 1 = .ok (.getfield 26, 3) := dq_180 (kX9_letterOf_0 1 rfl) (kX9_letterOf_0 2 rfl) (kX9_letterOf_0 3 rfl) rfl
theorem dX9_letterOf_4 : decode cX9_letterOf 4 = .ok (.iload_n 1, 1) := dq_27 (kX9_letterOf_0 4 rfl)
theorem dX9_letterOf_5 : decode cX9_letterOf 5 = .ok (.iconst 0, 1) := dq_3 (kX9_letterOf_0 5 rfl)
theorem dX9_letterOf_6 : decode cX9_letterOf 6 = .ok (.invokevirtual 40, 3) := dq_182 (kX9_letterOf_0 6 rfl) (kX9_letterOf_0 7 rfl) (kX9_letterOf_0 8 rfl) rfl
theorem dX9_letterOf_9 : decode cX9_letterOf 9 = .ok (.ireturn, 1) := dq_172 (kX9_letterOf_0 9 rfl)

def bX9_hasCondition_0 : List UInt8 := [42, 180, 0, 26, 27, 182, 0, 43, 153, 0, 28, 42, 180, 0, 26, 27, 8, 182, 0, 40, 42, 180, 0, 26, 27, 7, 182, 0, 40, 164, 0, 7]
theorem kX9_hasCondition_0 (j : Nat) {b : UInt8} (hj : bX9_hasCondition_0[j]? = some b) : AtB cX9_hasCondition (0 + j) b := at_of32 (by decide +kernel) j hj
def bX9_hasCondition_1 : List UInt8 := [4, 167, 0, 4, 3, 172]
theorem kX9_hasCondition_1 (j : Nat) {b : UInt8} (hj : bX9_hasCondition_1[j]? = some b) : AtB cX9_hasCondition (32 + j) b := at_of32 (by decide +kernel) j hj
theorem dX9_hasCondition_0 : decode cX9_hasCondition 0 = .ok (.aload_n 0, 1) := dq_42 (kX9_hasCondition_0 0 rfl)
theorem dX9_hasCondition_1 : decode cX9_hasCondition 1 = .ok (.getfield 26, 3) := dq_180 (kX9_hasCondition_0 1 rfl) (kX9_hasCondition_0 2 rfl) (kX9_hasCondition_0 3 rfl) rfl
theorem dX9_hasCondition_4 : decode cX9_hasCondition 4 = .ok (.iload_n 1, 1) := dq_27 (kX9_hasCondition_0 4 rfl)
theorem dX9_hasCondition_5 : decode cX9_hasCondition 5 = .ok (.invokevirtual 43, 3) := dq_182 (kX9_hasCondition_0 5 rfl) (kX9_hasCondition_0 6 rfl) (kX9_hasCondition_0 7 rfl) rfl
theorem dX9_hasCondition_8 : decode cX9_hasCondition 8 = .ok (.ifCond .eq 28, 3) := dq_153 (kX9_hasCondition_0 8 rfl) (kX9_hasCondition_0 9 rfl) (kX9_hasCondition_0 10 rfl) (by decide)
theorem dX9_hasCondition_11 : decode cX9_hasCondition 11 = .ok (.aload_n 0, 1) := dq_42 (kX9_hasCondition_0 11 rfl)
theorem dX9_hasCondition_12 : decode cX9_hasCondition 12 = .ok (.getfield 26, 3) := dq_180 (kX9_hasCondition_0 12 rfl) (kX9_hasCondition_0 13 rfl) (kX9_hasCondition_0 14 rfl) rfl
theorem dX9_hasCondition_15 : decode cX9_hasCondition 15 = .ok (.iload_n 1, 1) := dq_27 (kX9_hasCondition_0 15 rfl)
theorem dX9_hasCondition_16 : decode cX9_hasCondition 16 = .ok (.iconst 5, 1) := dq_8 (kX9_hasCondition_0 16 rfl)
theorem dX9_hasCondition_17 : decode cX9_hasCondition 17 = .ok (.invokevirtual 40, 3) := dq_182 (kX9_hasCondition_0 17 rfl) (kX9_hasCondition_0 18 rfl) (kX9_hasCondition_0 19 rfl) rfl
theorem dX9_hasCondition_20 : decode cX9_hasCondition 20 = .ok (.aload_n 0, 1) := dq_42 (kX9_hasCondition_0 20 rfl)
theorem dX9_hasCondition_21 : decode cX9_hasCondition 21 = .ok (.getfield 26, 3) := dq_180 (kX9_hasCondition_0 21 rfl) (kX9_hasCondition_0 22 rfl) (kX9_hasCondition_0 23 rfl) rfl
theorem dX9_hasCondition_24 : decode cX9_hasCondition 24 = .ok (.iload_n 1, 1) := dq_27 (kX9_hasCondition_0 24 rfl)
theorem dX9_hasCondition_25 : decode cX9_hasCondition 25 = .ok (.iconst 4, 1) := dq_7 (kX9_hasCondition_0 25 rfl)
theorem dX9_hasCondition_26 : decode cX9_hasCondition 26 = .ok (.invokevirtual 40, 3) := dq_182 (kX9_hasCondition_0 26 rfl) (kX9_hasCondition_0 27 rfl) (kX9_hasCondition_0 28 rfl) rfl
theorem dX9_hasCondition_29 : decode cX9_hasCondition 29 = .ok (.if_icmp .le 7, 3) := dq_164 (kX9_hasCondition_0 29 rfl) (kX9_hasCondition_0 30 rfl) (kX9_hasCondition_0 31 rfl) (by decide)
theorem dX9_hasCondition_32 : decode cX9_hasCondition 32 = .ok (.iconst 1, 1) := dq_4 (kX9_hasCondition_1 0 rfl)
theorem dX9_hasCondition_33 : decode cX9_hasCondition 33 = .ok (.goto 4, 3) := dq_167 (kX9_hasCondition_1 1 rfl) (kX9_hasCondition_1 2 rfl) (kX9_hasCondition_1 3 rfl) (by decide)
theorem dX9_hasCondition_36 : decode cX9_hasCondition 36 = .ok (.iconst 0, 1) := dq_3 (kX9_hasCondition_1 4 rfl)
theorem dX9_hasCondition_37 : decode cX9_hasCondition 37 = .ok (.ireturn, 1) := dq_172 (kX9_hasCondition_1 5 rfl)

def bX9_addStep_0 : List UInt8 := [42, 180, 0, 9, 62, 42, 180, 0, 36, 29, 28, 8, 120, 27, 128, 184, 0, 47, 42, 89, 180, 0, 9, 4, 96, 181, 0, 9, 29, 172]
theorem kX9_addStep_0 (j : Nat) {b : UInt8} (hj : bX9_addStep_0[j]? = some b) : AtB cX9_addStep (0 + j) b := at_of32 (by decide +kernel) j hj
theorem dX9_addStep_0 : decode cX9_addStep 0 = .ok (.aload_n 0, 1) := dq_42 (kX9_addStep_0 0 rfl)
theorem dX9_addStep_1 : decode cX9_addStep 1 = .ok (.getfield 9, 3) := dq_180 (kX9_addStep_0 1 rfl) (kX9_addStep_0 2 rfl) (kX9_addStep_0 3 rfl) rfl
theorem dX9_addStep_4 : decode cX9_addStep 4 = .ok (.istore_n 3, 1) := dq_62 (kX9_addStep_0 4 rfl)
theorem dX9_addStep_5 : decode cX9_addStep 5 = .ok (.aload_n 0, 1) := dq_42 (kX9_addStep_0 5 rfl)
theorem dX9_addStep_6 : decode cX9_addStep 6 = .ok (.getfield 36, 3) := dq_180 (kX9_addStep_0 6 rfl) (kX9_addStep_0 7 rfl) (kX9_addStep_0 8 rfl) rfl
theorem dX9_addStep_9 : decode cX9_addStep 9 = .ok (.iload_n 3, 1) := dq_29 (kX9_addStep_0 9 rfl)
theorem dX9_addStep_10 : decode cX9_addStep 10 = .ok (.iload_n 2, 1) := dq_28 (kX9_addStep_0 10 rfl)
theorem dX9_addStep_11 : decode cX9_addStep 11 = .ok (.iconst 5, 1) := dq_8 (kX9_addStep_0 11 rfl)
theorem dX9_addStep_12 : decode cX9_addStep 12 = .ok (.ishl, 1) := dq_120 (kX9_addStep_0 12 rfl)
theorem dX9_addStep_13 : decode cX9_addStep 13 = .ok (.iload_n 1, 1) := dq_27 (kX9_addStep_0 13 rfl)
theorem dX9_addStep_14 : decode cX9_addStep 14 = .ok (.ior, 1) := dq_128 (kX9_addStep_0 14 rfl)
theorem dX9_addStep_15 : decode cX9_addStep 15 = .ok (.invokestatic 47, 3) := dq_184 (kX9_addStep_0 15 rfl) (kX9_addStep_0 16 rfl) (kX9_addStep_0 17 rfl) rfl
theorem dX9_addStep_18 : decode cX9_addStep 18 = .ok (.aload_n 0, 1) := dq_42 (kX9_addStep_0 18 rfl)
theorem dX9_addStep_19 : decode cX9_addStep 19 = .ok (.dup, 1) := dq_89 (kX9_addStep_0 19 rfl)
theorem dX9_addStep_20 : decode cX9_addStep 20 = .ok (.getfield 9, 3) := dq_180 (kX9_addStep_0 20 rfl) (kX9_addStep_0 21 rfl) (kX9_addStep_0 22 rfl) rfl
theorem dX9_addStep_23 : decode cX9_addStep 23 = .ok (.iconst 1, 1) := dq_4 (kX9_addStep_0 23 rfl)
theorem dX9_addStep_24 : decode cX9_addStep 24 = .ok (.iadd, 1) := dq_96 (kX9_addStep_0 24 rfl)
theorem dX9_addStep_25 : decode cX9_addStep 25 = .ok (.putfield 9, 3) := dq_181 (kX9_addStep_0 25 rfl) (kX9_addStep_0 26 rfl) (kX9_addStep_0 27 rfl) rfl
theorem dX9_addStep_28 : decode cX9_addStep 28 = .ok (.iload_n 3, 1) := dq_29 (kX9_addStep_0 28 rfl)
theorem dX9_addStep_29 : decode cX9_addStep 29 = .ok (.ireturn, 1) := dq_172 (kX9_addStep_0 29 rfl)

def bX9_lead_0 : List UInt8 := [27, 2, 159, 0, 29, 42, 180, 0, 36, 27, 42, 180, 0, 9, 8, 120, 42, 180, 0, 36, 27, 184, 0, 53, 16, 31, 126, 128, 184, 0, 47, 177]
theorem kX9_lead_0 (j : Nat) {b : UInt8} (hj : bX9_lead_0[j]? = some b) : AtB cX9_lead (0 + j) b := at_of32 (by decide +kernel) j hj
theorem dX9_lead_0 : decode cX9_lead 0 = .ok (.iload_n 1, 1) := dq_27 (kX9_lead_0 0 rfl)
theorem dX9_lead_1 : decode cX9_lead 1 = .ok (.iconst (-1), 1) := dq_2 (kX9_lead_0 1 rfl)
theorem dX9_lead_2 : decode cX9_lead 2 = .ok (.if_icmp .eq 29, 3) := dq_159 (kX9_lead_0 2 rfl) (kX9_lead_0 3 rfl) (kX9_lead_0 4 rfl) (by decide)
theorem dX9_lead_5 : decode cX9_lead 5 = .ok (.aload_n 0, 1) := dq_42 (kX9_lead_0 5 rfl)
theorem dX9_lead_6 : decode cX9_lead 6 = .ok (.getfield 36, 3) := dq_180 (kX9_lead_0 6 rfl) (kX9_lead_0 7 rfl) (kX9_lead_0 8 rfl) rfl
theorem dX9_lead_9 : decode cX9_lead 9 = .ok (.iload_n 1, 1) := dq_27 (kX9_lead_0 9 rfl)
theorem dX9_lead_10 : decode cX9_lead 10 = .ok (.aload_n 0, 1) := dq_42 (kX9_lead_0 10 rfl)
theorem dX9_lead_11 : decode cX9_lead 11 = .ok (.getfield 9, 3) := dq_180 (kX9_lead_0 11 rfl) (kX9_lead_0 12 rfl) (kX9_lead_0 13 rfl) rfl
theorem dX9_lead_14 : decode cX9_lead 14 = .ok (.iconst 5, 1) := dq_8 (kX9_lead_0 14 rfl)
theorem dX9_lead_15 : decode cX9_lead 15 = .ok (.ishl, 1) := dq_120 (kX9_lead_0 15 rfl)
theorem dX9_lead_16 : decode cX9_lead 16 = .ok (.aload_n 0, 1) := dq_42 (kX9_lead_0 16 rfl)
theorem dX9_lead_17 : decode cX9_lead 17 = .ok (.getfield 36, 3) := dq_180 (kX9_lead_0 17 rfl) (kX9_lead_0 18 rfl) (kX9_lead_0 19 rfl) rfl
theorem dX9_lead_20 : decode cX9_lead 20 = .ok (.iload_n 1, 1) := dq_27 (kX9_lead_0 20 rfl)
theorem dX9_lead_21 : decode cX9_lead 21 = .ok (.invokestatic 53, 3) := dq_184 (kX9_lead_0 21 rfl) (kX9_lead_0 22 rfl) (kX9_lead_0 23 rfl) rfl
theorem dX9_lead_24 : decode cX9_lead 24 = .ok (.bipush 31, 2) := dq_16 (kX9_lead_0 24 rfl) (kX9_lead_0 25 rfl) (by decide)
theorem dX9_lead_26 : decode cX9_lead 26 = .ok (.iand, 1) := dq_126 (kX9_lead_0 26 rfl)
theorem dX9_lead_27 : decode cX9_lead 27 = .ok (.ior, 1) := dq_128 (kX9_lead_0 27 rfl)
theorem dX9_lead_28 : decode cX9_lead 28 = .ok (.invokestatic 47, 3) := dq_184 (kX9_lead_0 28 rfl) (kX9_lead_0 29 rfl) (kX9_lead_0 30 rfl) rfl
theorem dX9_lead_31 : decode cX9_lead 31 = .ok (.return_, 1) := dq_177 (kX9_lead_0 31 rfl)

def bX10_init_0 : List UInt8 := [42, 183, 0, 3, 42, 3, 181, 0, 9, 42, 3, 181, 0, 15, 42, 3, 181, 0, 18, 42, 3, 181, 0, 21, 42, 2, 181, 0, 24, 42, 2, 181]
theorem kX10_init_0 (j : Nat) {b : UInt8} (hj : bX10_init_0[j]? = some b) : AtB cX10_init (0 + j) b := at_of32 (by decide +kernel) j hj
def bX10_init_1 : List UInt8 := [0, 27, 42, 2, 181, 0, 30, 42, 2, 181, 0, 33, 42, 3, 181, 0, 36, 42, 3, 181, 0, 39, 42, 27, 181, 0, 42, 42, 28, 181, 0, 45]
theorem kX10_init_1 (j : Nat) {b : UInt8} (hj : bX10_init_1[j]? = some b) : AtB cX10_init (32 + j) b := at_of32 (by decide +kernel) j hj
def bX10_init_2 : List UInt8 := [42, 29, 181, 0, 48, 42, 21, 4, 181, 0, 51, 42, 21, 5, 181, 0, 54, 177]
theorem kX10_init_2 (j : Nat) {b : UInt8} (hj : bX10_init_2[j]? = some b) : AtB cX10_init (64 + j) b := at_of32 (by decide +kernel) j hj
theorem dX10_init_0 : decode cX10_init 0 = .ok (.aload_n 0, 1) := dq_42 (kX10_init_0 0 rfl)
theorem dX10_init_1 : decode cX10_init 1 = .ok (.invokespecial 3, 3) := dq_183 (kX10_init_0 1 rfl) (kX10_init_0 2 rfl) (kX10_init_0 3 rfl) rfl
theorem dX10_init_4 : decode cX10_init 4 = .ok (.aload_n 0, 1) := dq_42 (kX10_init_0 4 rfl)
theorem dX10_init_5 : decode cX10_init 5 = .ok (.iconst 0, 1) := dq_3 (kX10_init_0 5 rfl)
theorem dX10_init_6 : decode cX10_init 6 = .ok (.putfield 9, 3) := dq_181 (kX10_init_0 6 rfl) (kX10_init_0 7 rfl) (kX10_init_0 8 rfl) rfl
theorem dX10_init_9 : decode cX10_init 9 = .ok (.aload_n 0, 1) := dq_42 (kX10_init_0 9 rfl)
theorem dX10_init_10 : decode cX10_init 10 = .ok (.iconst 0, 1) := dq_3 (kX10_init_0 10 rfl)
theorem dX10_init_11 : decode cX10_init 11 = .ok (.putfield 15, 3) := dq_181 (kX10_init_0 11 rfl) (kX10_init_0 12 rfl) (kX10_init_0 13 rfl) rfl
theorem dX10_init_14 : decode cX10_init 14 = .ok (.aload_n 0, 1) := dq_42 (kX10_init_0 14 rfl)
theorem dX10_init_15 : decode cX10_init 15 = .ok (.iconst 0, 1) := dq_3 (kX10_init_0 15 rfl)
theorem dX10_init_16 : decode cX10_init 16 = .ok (.putfield 18, 3) := dq_181 (kX10_init_0 16 rfl) (kX10_init_0 17 rfl) (kX10_init_0 18 rfl) rfl
theorem dX10_init_19 : decode cX10_init 19 = .ok (.aload_n 0, 1) := dq_42 (kX10_init_0 19 rfl)
theorem dX10_init_20 : decode cX10_init 20 = .ok (.iconst 0, 1) := dq_3 (kX10_init_0 20 rfl)
theorem dX10_init_21 : decode cX10_init 21 = .ok (.putfield 21, 3) := dq_181 (kX10_init_0 21 rfl) (kX10_init_0 22 rfl) (kX10_init_0 23 rfl) rfl
theorem dX10_init_24 : decode cX10_init 24 = .ok (.aload_n 0, 1) := dq_42 (kX10_init_0 24 rfl)
theorem dX10_init_25 : decode cX10_init 25 = .ok (.iconst (-1), 1) := dq_2 (kX10_init_0 25 rfl)
theorem dX10_init_26 : decode cX10_init 26 = .ok (.putfield 24, 3) := dq_181 (kX10_init_0 26 rfl) (kX10_init_0 27 rfl) (kX10_init_0 28 rfl) rfl
theorem dX10_init_29 : decode cX10_init 29 = .ok (.aload_n 0, 1) := dq_42 (kX10_init_0 29 rfl)
theorem dX10_init_30 : decode cX10_init 30 = .ok (.iconst (-1), 1) := dq_2 (kX10_init_0 30 rfl)
theorem dX10_init_31 : decode cX10_init 31 = .ok (.putfield 27, 3) := dq_181 (kX10_init_0 31 rfl) (kX10_init_1 0 rfl) (kX10_init_1 1 rfl) rfl
theorem dX10_init_34 : decode cX10_init 34 = .ok (.aload_n 0, 1) := dq_42 (kX10_init_1 2 rfl)
theorem dX10_init_35 : decode cX10_init 35 = .ok (.iconst (-1), 1) := dq_2 (kX10_init_1 3 rfl)
theorem dX10_init_36 : decode cX10_init 36 = .ok (.putfield 30, 3) := dq_181 (kX10_init_1 4 rfl) (kX10_init_1 5 rfl) (kX10_init_1 6 rfl) rfl
theorem dX10_init_39 : decode cX10_init 39 = .ok (.aload_n 0, 1) := dq_42 (kX10_init_1 7 rfl)
theorem dX10_init_40 : decode cX10_init 40 = .ok (.iconst (-1), 1) := dq_2 (kX10_init_1 8 rfl)
theorem dX10_init_41 : decode cX10_init 41 = .ok (.putfield 33, 3) := dq_181 (kX10_init_1 9 rfl) (kX10_init_1 10 rfl) (kX10_init_1 11 rfl) rfl
theorem dX10_init_44 : decode cX10_init 44 = .ok (.aload_n 0, 1) := dq_42 (kX10_init_1 12 rfl)
theorem dX10_init_45 : decode cX10_init 45 = .ok (.iconst 0, 1) := dq_3 (kX10_init_1 13 rfl)
theorem dX10_init_46 : decode cX10_init 46 = .ok (.putfield 36, 3) := dq_181 (kX10_init_1 14 rfl) (kX10_init_1 15 rfl) (kX10_init_1 16 rfl) rfl
theorem dX10_init_49 : decode cX10_init 49 = .ok (.aload_n 0, 1) := dq_42 (kX10_init_1 17 rfl)
theorem dX10_init_50 : decode cX10_init 50 = .ok (.iconst 0, 1) := dq_3 (kX10_init_1 18 rfl)
theorem dX10_init_51 : decode cX10_init 51 = .ok (.putfield 39, 3) := dq_181 (kX10_init_1 19 rfl) (kX10_init_1 20 rfl) (kX10_init_1 21 rfl) rfl
theorem dX10_init_54 : decode cX10_init 54 = .ok (.aload_n 0, 1) := dq_42 (kX10_init_1 22 rfl)
theorem dX10_init_55 : decode cX10_init 55 = .ok (.iload_n 1, 1) := dq_27 (kX10_init_1 23 rfl)
theorem dX10_init_56 : decode cX10_init 56 = .ok (.putfield 42, 3) := dq_181 (kX10_init_1 24 rfl) (kX10_init_1 25 rfl) (kX10_init_1 26 rfl) rfl
theorem dX10_init_59 : decode cX10_init 59 = .ok (.aload_n 0, 1) := dq_42 (kX10_init_1 27 rfl)
theorem dX10_init_60 : decode cX10_init 60 = .ok (.iload_n 2, 1) := dq_28 (kX10_init_1 28 rfl)
theorem dX10_init_61 : decode cX10_init 61 = .ok (.putfield 45, 3) := dq_181 (kX10_init_1 29 rfl) (kX10_init_1 30 rfl) (kX10_init_1 31 rfl) rfl
theorem dX10_init_64 : decode cX10_init 64 = .ok (.aload_n 0, 1) := dq_42 (kX10_init_2 0 rfl)
theorem dX10_init_65 : decode cX10_init 65 = .ok (.iload_n 3, 1) := dq_29 (kX10_init_2 1 rfl)
theorem dX10_init_66 : decode cX10_init 66 = .ok (.putfield 48, 3) := dq_181 (kX10_init_2 2 rfl) (kX10_init_2 3 rfl) (kX10_init_2 4 rfl) rfl
theorem dX10_init_69 : decode cX10_init 69 = .ok (.aload_n 0, 1) := dq_42 (kX10_init_2 5 rfl)
theorem dX10_init_70 : decode cX10_init 70 = .ok (.iload 4, 2) := dq_21 (kX10_init_2 6 rfl) (kX10_init_2 7 rfl) rfl
theorem dX10_init_72 : decode cX10_init 72 = .ok (.putfield 51, 3) := dq_181 (kX10_init_2 8 rfl) (kX10_init_2 9 rfl) (kX10_init_2 10 rfl) rfl
theorem dX10_init_75 : decode cX10_init 75 = .ok (.aload_n 0, 1) := dq_42 (kX10_init_2 11 rfl)
theorem dX10_init_76 : decode cX10_init 76 = .ok (.iload 5, 2) := dq_21 (kX10_init_2 12 rfl) (kX10_init_2 13 rfl) rfl
theorem dX10_init_78 : decode cX10_init 78 = .ok (.putfield 54, 3) := dq_181 (kX10_init_2 14 rfl) (kX10_init_2 15 rfl) (kX10_init_2 16 rfl) rfl
theorem dX10_init_81 : decode cX10_init 81 = .ok (.return_, 1) := dq_177 (kX10_init_2 17 rfl)

def bX11_init_0 : List UInt8 := [42, 183, 0, 3, 42, 187, 0, 9, 89, 183, 0, 11, 181, 0, 12, 42, 187, 0, 16, 89, 183, 0, 18, 181, 0, 19, 42, 187, 0, 23, 89, 183]
theorem kX11_init_0 (j : Nat) {b : UInt8} (hj : bX11_init_0[j]? = some b) : AtB cX11_init (0 + j) b := at_of32 (by decide +kernel) j hj
def bX11_init_1 : List UInt8 := [0, 25, 181, 0, 26, 42, 16, 9, 189, 0, 30, 181, 0, 32, 42, 3, 181, 0, 36, 42, 16, 60, 189, 0, 40, 181, 0, 42, 42, 3, 181, 0]
theorem kX11_init_1 (j : Nat) {b : UInt8} (hj : bX11_init_1[j]? = some b) : AtB cX11_init (32 + j) b := at_of32 (by decide +kernel) j hj
def bX11_init_2 : List UInt8 := [46, 42, 16, 100, 189, 0, 49, 181, 0, 51, 42, 3, 181, 0, 55, 42, 16, 10, 189, 0, 58, 181, 0, 60, 42, 3, 181, 0, 64, 42, 187, 0]
theorem kX11_init_2 (j : Nat) {b : UInt8} (hj : bX11_init_2[j]? = some b) : AtB cX11_init (64 + j) b := at_of32 (by decide +kernel) j hj
def bX11_init_3 : List UInt8 := [67, 89, 8, 16, 40, 183, 0, 69, 181, 0, 72, 42, 187, 0, 67, 89, 8, 16, 60, 183, 0, 69, 181, 0, 76, 42, 187, 0, 67, 89, 6, 16]
theorem kX11_init_3 (j : Nat) {b : UInt8} (hj : bX11_init_3[j]? = some b) : AtB cX11_init (96 + j) b := at_of32 (by decide +kernel) j hj
def bX11_init_4 : List UInt8 := [10, 183, 0, 69, 181, 0, 79, 42, 187, 0, 67, 89, 8, 17, 0, 200, 183, 0, 69, 181, 0, 82, 42, 187, 0, 67, 89, 8, 17, 0, 200, 183]
theorem kX11_init_4 (j : Nat) {b : UInt8} (hj : bX11_init_4[j]? = some b) : AtB cX11_init (128 + j) b := at_of32 (by decide +kernel) j hj
def bX11_init_5 : List UInt8 := [0, 69, 181, 0, 85, 42, 187, 0, 67, 89, 4, 16, 7, 183, 0, 69, 181, 0, 88, 42, 187, 0, 67, 89, 4, 17, 1, 144, 183, 0, 69, 181]
theorem kX11_init_5 (j : Nat) {b : UInt8} (hj : bX11_init_5[j]? = some b) : AtB cX11_init (160 + j) b := at_of32 (by decide +kernel) j hj
def bX11_init_6 : List UInt8 := [0, 91, 42, 16, 11, 188, 10, 181, 0, 94, 42, 16, 8, 188, 11, 181, 0, 98, 42, 180, 0, 94, 16, 50, 184, 0, 102, 42, 180, 0, 94, 16]
theorem kX11_init_6 (j : Nat) {b : UInt8} (hj : bX11_init_6[j]? = some b) : AtB cX11_init (192 + j) b := at_of32 (by decide +kernel) j hj
def bX11_init_7 : List UInt8 := [10, 16, 100, 184, 0, 108, 177]
theorem kX11_init_7 (j : Nat) {b : UInt8} (hj : bX11_init_7[j]? = some b) : AtB cX11_init (224 + j) b := at_of32 (by decide +kernel) j hj
theorem dX11_init_0 : decode cX11_init 0 = .ok (.aload_n 0, 1) := dq_42 (kX11_init_0 0 rfl)
theorem dX11_init_1 : decode cX11_init 1 = .ok (.invokespecial 3, 3) := dq_183 (kX11_init_0 1 rfl) (kX11_init_0 2 rfl) (kX11_init_0 3 rfl) rfl
theorem dX11_init_4 : decode cX11_init 4 = .ok (.aload_n 0, 1) := dq_42 (kX11_init_0 4 rfl)
theorem dX11_init_5 : decode cX11_init 5 = .ok (.new 9, 3) := dq_187 (kX11_init_0 5 rfl) (kX11_init_0 6 rfl) (kX11_init_0 7 rfl) rfl
theorem dX11_init_8 : decode cX11_init 8 = .ok (.dup, 1) := dq_89 (kX11_init_0 8 rfl)
theorem dX11_init_9 : decode cX11_init 9 = .ok (.invokespecial 11, 3) := dq_183 (kX11_init_0 9 rfl) (kX11_init_0 10 rfl) (kX11_init_0 11 rfl) rfl
theorem dX11_init_12 : decode cX11_init 12 = .ok (.putfield 12, 3) := dq_181 (kX11_init_0 12 rfl) (kX11_init_0 13 rfl) (kX11_init_0 14 rfl) rfl
theorem dX11_init_15 : decode cX11_init 15 = .ok (.aload_n 0, 1) := dq_42 (kX11_init_0 15 rfl)
theorem dX11_init_16 : decode cX11_init 16 = .ok (.new 16, 3) := dq_187 (kX11_init_0 16 rfl) (kX11_init_0 17 rfl) (kX11_init_0 18 rfl) rfl
theorem dX11_init_19 : decode cX11_init 19 = .ok (.dup, 1) := dq_89 (kX11_init_0 19 rfl)
theorem dX11_init_20 : decode cX11_init 20 = .ok (.invokespecial 18, 3) := dq_183 (kX11_init_0 20 rfl) (kX11_init_0 21 rfl) (kX11_init_0 22 rfl) rfl
theorem dX11_init_23 : decode cX11_init 23 = .ok (.putfield 19, 3) := dq_181 (kX11_init_0 23 rfl) (kX11_init_0 24 rfl) (kX11_init_0 25 rfl) rfl
theorem dX11_init_26 : decode cX11_init 26 = .ok (.aload_n 0, 1) := dq_42 (kX11_init_0 26 rfl)
theorem dX11_init_27 : decode cX11_init 27 = .ok (.new 23, 3) := dq_187 (kX11_init_0 27 rfl) (kX11_init_0 28 rfl) (kX11_init_0 29 rfl) rfl
theorem dX11_init_30 : decode cX11_init 30 = .ok (.dup, 1) := dq_89 (kX11_init_0 30 rfl)
theorem dX11_init_31 : decode cX11_init 31 = .ok (.invokespecial 25, 3) := dq_183 (kX11_init_0 31 rfl) (kX11_init_1 0 rfl) (kX11_init_1 1 rfl) rfl
theorem dX11_init_34 : decode cX11_init 34 = .ok (.putfield 26, 3) := dq_181 (kX11_init_1 2 rfl) (kX11_init_1 3 rfl) (kX11_init_1 4 rfl) rfl
theorem dX11_init_37 : decode cX11_init 37 = .ok (.aload_n 0, 1) := dq_42 (kX11_init_1 5 rfl)
theorem dX11_init_38 : decode cX11_init 38 = .ok (.bipush 9, 2) := dq_16 (kX11_init_1 6 rfl) (kX11_init_1 7 rfl) (by decide)
theorem dX11_init_40 : decode cX11_init 40 = .ok (.anewarray 30, 3) := dq_189 (kX11_init_1 8 rfl) (kX11_init_1 9 rfl) (kX11_init_1 10 rfl) rfl
theorem dX11_init_43 : decode cX11_init 43 = .ok (.putfield 32, 3) := dq_181 (kX11_init_1 11 rfl) (kX11_init_1 12 rfl) (kX11_init_1 13 rfl) rfl
theorem dX11_init_46 : decode cX11_init 46 = .ok (.aload_n 0, 1) := dq_42 (kX11_init_1 14 rfl)
theorem dX11_init_47 : decode cX11_init 47 = .ok (.iconst 0, 1) := dq_3 (kX11_init_1 15 rfl)
theorem dX11_init_48 : decode cX11_init 48 = .ok (.putfield 36, 3) := dq_181 (kX11_init_1 16 rfl) (kX11_init_1 17 rfl) (kX11_init_1 18 rfl) rfl
theorem dX11_init_51 : decode cX11_init 51 = .ok (.aload_n 0, 1) := dq_42 (kX11_init_1 19 rfl)
theorem dX11_init_52 : decode cX11_init 52 = .ok (.bipush 60, 2) := dq_16 (kX11_init_1 20 rfl) (kX11_init_1 21 rfl) (by decide)
theorem dX11_init_54 : decode cX11_init 54 = .ok (.anewarray 40, 3) := dq_189 (kX11_init_1 22 rfl) (kX11_init_1 23 rfl) (kX11_init_1 24 rfl) rfl
theorem dX11_init_57 : decode cX11_init 57 = .ok (.putfield 42, 3) := dq_181 (kX11_init_1 25 rfl) (kX11_init_1 26 rfl) (kX11_init_1 27 rfl) rfl
theorem dX11_init_60 : decode cX11_init 60 = .ok (.aload_n 0, 1) := dq_42 (kX11_init_1 28 rfl)
theorem dX11_init_61 : decode cX11_init 61 = .ok (.iconst 0, 1) := dq_3 (kX11_init_1 29 rfl)
theorem dX11_init_62 : decode cX11_init 62 = .ok (.putfield 46, 3) := dq_181 (kX11_init_1 30 rfl) (kX11_init_1 31 rfl) (kX11_init_2 0 rfl) rfl
theorem dX11_init_65 : decode cX11_init 65 = .ok (.aload_n 0, 1) := dq_42 (kX11_init_2 1 rfl)
theorem dX11_init_66 : decode cX11_init 66 = .ok (.bipush 100, 2) := dq_16 (kX11_init_2 2 rfl) (kX11_init_2 3 rfl) (by decide)
theorem dX11_init_68 : decode cX11_init 68 = .ok (.anewarray 49, 3) := dq_189 (kX11_init_2 4 rfl) (kX11_init_2 5 rfl) (kX11_init_2 6 rfl) rfl
theorem dX11_init_71 : decode cX11_init 71 = .ok (.putfield 51, 3) := dq_181 (kX11_init_2 7 rfl) (kX11_init_2 8 rfl) (kX11_init_2 9 rfl) rfl
theorem dX11_init_74 : decode cX11_init 74 = .ok (.aload_n 0, 1) := dq_42 (kX11_init_2 10 rfl)
theorem dX11_init_75 : decode cX11_init 75 = .ok (.iconst 0, 1) := dq_3 (kX11_init_2 11 rfl)
theorem dX11_init_76 : decode cX11_init 76 = .ok (.putfield 55, 3) := dq_181 (kX11_init_2 12 rfl) (kX11_init_2 13 rfl) (kX11_init_2 14 rfl) rfl
theorem dX11_init_79 : decode cX11_init 79 = .ok (.aload_n 0, 1) := dq_42 (kX11_init_2 15 rfl)
theorem dX11_init_80 : decode cX11_init 80 = .ok (.bipush 10, 2) := dq_16 (kX11_init_2 16 rfl) (kX11_init_2 17 rfl) (by decide)
theorem dX11_init_82 : decode cX11_init 82 = .ok (.anewarray 58, 3) := dq_189 (kX11_init_2 18 rfl) (kX11_init_2 19 rfl) (kX11_init_2 20 rfl) rfl
theorem dX11_init_85 : decode cX11_init 85 = .ok (.putfield 60, 3) := dq_181 (kX11_init_2 21 rfl) (kX11_init_2 22 rfl) (kX11_init_2 23 rfl) rfl
theorem dX11_init_88 : decode cX11_init 88 = .ok (.aload_n 0, 1) := dq_42 (kX11_init_2 24 rfl)
theorem dX11_init_89 : decode cX11_init 89 = .ok (.iconst 0, 1) := dq_3 (kX11_init_2 25 rfl)
theorem dX11_init_90 : decode cX11_init 90 = .ok (.putfield 64, 3) := dq_181 (kX11_init_2 26 rfl) (kX11_init_2 27 rfl) (kX11_init_2 28 rfl) rfl
theorem dX11_init_93 : decode cX11_init 93 = .ok (.aload_n 0, 1) := dq_42 (kX11_init_2 29 rfl)
theorem dX11_init_94 : decode cX11_init 94 = .ok (.new 67, 3) := dq_187 (kX11_init_2 30 rfl) (kX11_init_2 31 rfl) (kX11_init_3 0 rfl) rfl
theorem dX11_init_97 : decode cX11_init 97 = .ok (.dup, 1) := dq_89 (kX11_init_3 1 rfl)
theorem dX11_init_98 : decode cX11_init 98 = .ok (.iconst 5, 1) := dq_8 (kX11_init_3 2 rfl)
theorem dX11_init_99 : decode cX11_init 99 = .ok (.bipush 40, 2) := dq_16 (kX11_init_3 3 rfl) (kX11_init_3 4 rfl) (by decide)
theorem dX11_init_101 : decode cX11_init 101 = .ok (.invokespecial 69, 3) := dq_183 (kX11_init_3 5 rfl) (kX11_init_3 6 rfl) (kX11_init_3 7 rfl) rfl
theorem dX11_init_104 : decode cX11_init 104 = .ok (.putfield 72, 3) := dq_181 (kX11_init_3 8 rfl) (kX11_init_3 9 rfl) (kX11_init_3 10 rfl) rfl
theorem dX11_init_107 : decode cX11_init 107 = .ok (.aload_n 0, 1) := dq_42 (kX11_init_3 11 rfl)
theorem dX11_init_108 : decode cX11_init 108 = .ok (.new 67, 3) := dq_187 (kX11_init_3 12 rfl) (kX11_init_3 13 rfl) (kX11_init_3 14 rfl) rfl
theorem dX11_init_111 : decode cX11_init 111 = .ok (.dup, 1) := dq_89 (kX11_init_3 15 rfl)
theorem dX11_init_112 : decode cX11_init 112 = .ok (.iconst 5, 1) := dq_8 (kX11_init_3 16 rfl)
theorem dX11_init_113 : decode cX11_init 113 = .ok (.bipush 60, 2) := dq_16 (kX11_init_3 17 rfl) (kX11_init_3 18 rfl) (by decide)
theorem dX11_init_115 : decode cX11_init 115 = .ok (.invokespecial 69, 3) := dq_183 (kX11_init_3 19 rfl) (kX11_init_3 20 rfl) (kX11_init_3 21 rfl) rfl
theorem dX11_init_118 : decode cX11_init 118 = .ok (.putfield 76, 3) := dq_181 (kX11_init_3 22 rfl) (kX11_init_3 23 rfl) (kX11_init_3 24 rfl) rfl
theorem dX11_init_121 : decode cX11_init 121 = .ok (.aload_n 0, 1) := dq_42 (kX11_init_3 25 rfl)
theorem dX11_init_122 : decode cX11_init 122 = .ok (.new 67, 3) := dq_187 (kX11_init_3 26 rfl) (kX11_init_3 27 rfl) (kX11_init_3 28 rfl) rfl
theorem dX11_init_125 : decode cX11_init 125 = .ok (.dup, 1) := dq_89 (kX11_init_3 29 rfl)
theorem dX11_init_126 : decode cX11_init 126 = .ok (.iconst 3, 1) := dq_6 (kX11_init_3 30 rfl)
theorem dX11_init_127 : decode cX11_init 127 = .ok (.bipush 10, 2) := dq_16 (kX11_init_3 31 rfl) (kX11_init_4 0 rfl) (by decide)
theorem dX11_init_129 : decode cX11_init 129 = .ok (.invokespecial 69, 3) := dq_183 (kX11_init_4 1 rfl) (kX11_init_4 2 rfl) (kX11_init_4 3 rfl) rfl
theorem dX11_init_132 : decode cX11_init 132 = .ok (.putfield 79, 3) := dq_181 (kX11_init_4 4 rfl) (kX11_init_4 5 rfl) (kX11_init_4 6 rfl) rfl
theorem dX11_init_135 : decode cX11_init 135 = .ok (.aload_n 0, 1) := dq_42 (kX11_init_4 7 rfl)
theorem dX11_init_136 : decode cX11_init 136 = .ok (.new 67, 3) := dq_187 (kX11_init_4 8 rfl) (kX11_init_4 9 rfl) (kX11_init_4 10 rfl) rfl
theorem dX11_init_139 : decode cX11_init 139 = .ok (.dup, 1) := dq_89 (kX11_init_4 11 rfl)
theorem dX11_init_140 : decode cX11_init 140 = .ok (.iconst 5, 1) := dq_8 (kX11_init_4 12 rfl)
theorem dX11_init_141 : decode cX11_init 141 = .ok (.sipush 200, 3) := dq_17 (kX11_init_4 13 rfl) (kX11_init_4 14 rfl) (kX11_init_4 15 rfl) (by decide)
theorem dX11_init_144 : decode cX11_init 144 = .ok (.invokespecial 69, 3) := dq_183 (kX11_init_4 16 rfl) (kX11_init_4 17 rfl) (kX11_init_4 18 rfl) rfl
theorem dX11_init_147 : decode cX11_init 147 = .ok (.putfield 82, 3) := dq_181 (kX11_init_4 19 rfl) (kX11_init_4 20 rfl) (kX11_init_4 21 rfl) rfl
theorem dX11_init_150 : decode cX11_init 150 = .ok (.aload_n 0, 1) := dq_42 (kX11_init_4 22 rfl)
theorem dX11_init_151 : decode cX11_init 151 = .ok (.new 67, 3) := dq_187 (kX11_init_4 23 rfl) (kX11_init_4 24 rfl) (kX11_init_4 25 rfl) rfl
theorem dX11_init_154 : decode cX11_init 154 = .ok (.dup, 1) := dq_89 (kX11_init_4 26 rfl)
theorem dX11_init_155 : decode cX11_init 155 = .ok (.iconst 5, 1) := dq_8 (kX11_init_4 27 rfl)
theorem dX11_init_156 : decode cX11_init 156 = .ok (.sipush 200, 3) := dq_17 (kX11_init_4 28 rfl) (kX11_init_4 29 rfl) (kX11_init_4 30 rfl) (by decide)
theorem dX11_init_159 : decode cX11_init 159 = .ok (.invokespecial 69, 3) := dq_183 (kX11_init_4 31 rfl) (kX11_init_5 0 rfl) (kX11_init_5 1 rfl) rfl
theorem dX11_init_162 : decode cX11_init 162 = .ok (.putfield 85, 3) := dq_181 (kX11_init_5 2 rfl) (kX11_init_5 3 rfl) (kX11_init_5 4 rfl) rfl
theorem dX11_init_165 : decode cX11_init 165 = .ok (.aload_n 0, 1) := dq_42 (kX11_init_5 5 rfl)
theorem dX11_init_166 : decode cX11_init 166 = .ok (.new 67, 3) := dq_187 (kX11_init_5 6 rfl) (kX11_init_5 7 rfl) (kX11_init_5 8 rfl) rfl
theorem dX11_init_169 : decode cX11_init 169 = .ok (.dup, 1) := dq_89 (kX11_init_5 9 rfl)
theorem dX11_init_170 : decode cX11_init 170 = .ok (.iconst 1, 1) := dq_4 (kX11_init_5 10 rfl)
theorem dX11_init_171 : decode cX11_init 171 = .ok (.bipush 7, 2) := dq_16 (kX11_init_5 11 rfl) (kX11_init_5 12 rfl) (by decide)
theorem dX11_init_173 : decode cX11_init 173 = .ok (.invokespecial 69, 3) := dq_183 (kX11_init_5 13 rfl) (kX11_init_5 14 rfl) (kX11_init_5 15 rfl) rfl
theorem dX11_init_176 : decode cX11_init 176 = .ok (.putfield 88, 3) := dq_181 (kX11_init_5 16 rfl) (kX11_init_5 17 rfl) (kX11_init_5 18 rfl) rfl
theorem dX11_init_179 : decode cX11_init 179 = .ok (.aload_n 0, 1) := dq_42 (kX11_init_5 19 rfl)
theorem dX11_init_180 : decode cX11_init 180 = .ok (.new 67, 3) := dq_187 (kX11_init_5 20 rfl) (kX11_init_5 21 rfl) (kX11_init_5 22 rfl) rfl
theorem dX11_init_183 : decode cX11_init 183 = .ok (.dup, 1) := dq_89 (kX11_init_5 23 rfl)
theorem dX11_init_184 : decode cX11_init 184 = .ok (.iconst 1, 1) := dq_4 (kX11_init_5 24 rfl)
theorem dX11_init_185 : decode cX11_init 185 = .ok (.sipush 400, 3) := dq_17 (kX11_init_5 25 rfl) (kX11_init_5 26 rfl) (kX11_init_5 27 rfl) (by decide)
theorem dX11_init_188 : decode cX11_init 188 = .ok (.invokespecial 69, 3) := dq_183 (kX11_init_5 28 rfl) (kX11_init_5 29 rfl) (kX11_init_5 30 rfl) rfl
theorem dX11_init_191 : decode cX11_init 191 = .ok (.putfield 91, 3) := dq_181 (kX11_init_5 31 rfl) (kX11_init_6 0 rfl) (kX11_init_6 1 rfl) rfl
theorem dX11_init_194 : decode cX11_init 194 = .ok (.aload_n 0, 1) := dq_42 (kX11_init_6 2 rfl)
theorem dX11_init_195 : decode cX11_init 195 = .ok (.bipush 11, 2) := dq_16 (kX11_init_6 3 rfl) (kX11_init_6 4 rfl) (by decide)
theorem dX11_init_197 : decode cX11_init 197 = .ok (.newarray .int, 2) := dq_188_10 (kX11_init_6 5 rfl) (kX11_init_6 6 rfl)
theorem dX11_init_199 : decode cX11_init 199 = .ok (.putfield 94, 3) := dq_181 (kX11_init_6 7 rfl) (kX11_init_6 8 rfl) (kX11_init_6 9 rfl) rfl
theorem dX11_init_202 : decode cX11_init 202 = .ok (.aload_n 0, 1) := dq_42 (kX11_init_6 10 rfl)
theorem dX11_init_203 : decode cX11_init 203 = .ok (.bipush 8, 2) := dq_16 (kX11_init_6 11 rfl) (kX11_init_6 12 rfl) (by decide)
theorem dX11_init_205 : decode cX11_init 205 = .ok (.newarray .long, 2) := dq_188_11 (kX11_init_6 13 rfl) (kX11_init_6 14 rfl)
theorem dX11_init_207 : decode cX11_init 207 = .ok (.putfield 98, 3) := dq_181 (kX11_init_6 15 rfl) (kX11_init_6 16 rfl) (kX11_init_6 17 rfl) rfl
theorem dX11_init_210 : decode cX11_init 210 = .ok (.aload_n 0, 1) := dq_42 (kX11_init_6 18 rfl)
theorem dX11_init_211 : decode cX11_init 211 = .ok (.getfield 94, 3) := dq_180 (kX11_init_6 19 rfl) (kX11_init_6 20 rfl) (kX11_init_6 21 rfl) rfl
theorem dX11_init_214 : decode cX11_init 214 = .ok (.bipush 50, 2) := dq_16 (kX11_init_6 22 rfl) (kX11_init_6 23 rfl) (by decide)
theorem dX11_init_216 : decode cX11_init 216 = .ok (.invokestatic 102, 3) := dq_184 (kX11_init_6 24 rfl) (kX11_init_6 25 rfl) (kX11_init_6 26 rfl) rfl
theorem dX11_init_219 : decode cX11_init 219 = .ok (.aload_n 0, 1) := dq_42 (kX11_init_6 27 rfl)
theorem dX11_init_220 : decode cX11_init 220 = .ok (.getfield 94, 3) := dq_180 (kX11_init_6 28 rfl) (kX11_init_6 29 rfl) (kX11_init_6 30 rfl) rfl
theorem dX11_init_223 : decode cX11_init 223 = .ok (.bipush 10, 2) := dq_16 (kX11_init_6 31 rfl) (kX11_init_7 0 rfl) (by decide)
theorem dX11_init_225 : decode cX11_init 225 = .ok (.bipush 100, 2) := dq_16 (kX11_init_7 1 rfl) (kX11_init_7 2 rfl) (by decide)
theorem dX11_init_227 : decode cX11_init 227 = .ok (.invokestatic 108, 3) := dq_184 (kX11_init_7 3 rfl) (kX11_init_7 4 rfl) (kX11_init_7 5 rfl) rfl
theorem dX11_init_230 : decode cX11_init 230 = .ok (.return_, 1) := dq_177 (kX11_init_7 6 rfl)

def bX11_ice_0 : List UInt8 := [27, 7, 16, 12, 184, 0, 112, 153, 0, 27, 28, 7, 16, 12, 184, 0, 112, 153, 0, 17, 42, 180, 0, 46, 157, 0, 10, 42, 180, 0, 55, 158]
theorem kX11_ice_0 (j : Nat) {b : UInt8} (hj : bX11_ice_0[j]? = some b) : AtB cX11_ice (0 + j) b := at_of32 (by decide +kernel) j hj
def bX11_ice_1 : List UInt8 := [0, 5, 3, 172, 42, 180, 0, 12, 27, 28, 182, 0, 116, 4, 172]
theorem kX11_ice_1 (j : Nat) {b : UInt8} (hj : bX11_ice_1[j]? = some b) : AtB cX11_ice (32 + j) b := at_of32 (by decide +kernel) j hj
theorem dX11_ice_0 : decode cX11_ice 0 = .ok (.iload_n 1, 1) := dq_27 (kX11_ice_0 0 rfl)
theorem dX11_ice_1 : decode cX11_ice 1 = .ok (.iconst 4, 1) := dq_7 (kX11_ice_0 1 rfl)
theorem dX11_ice_2 : decode cX11_ice 2 = .ok (.bipush 12, 2) := dq_16 (kX11_ice_0 2 rfl) (kX11_ice_0 3 rfl) (by decide)
theorem dX11_ice_4 : decode cX11_ice 4 = .ok (.invokestatic 112, 3) := dq_184 (kX11_ice_0 4 rfl) (kX11_ice_0 5 rfl) (kX11_ice_0 6 rfl) rfl
theorem dX11_ice_7 : decode cX11_ice 7 = .ok (.ifCond .eq 27, 3) := dq_153 (kX11_ice_0 7 rfl) (kX11_ice_0 8 rfl) (kX11_ice_0 9 rfl) (by decide)
theorem dX11_ice_10 : decode cX11_ice 10 = .ok (.iload_n 2, 1) := dq_28 (kX11_ice_0 10 rfl)
theorem dX11_ice_11 : decode cX11_ice 11 = .ok (.iconst 4, 1) := dq_7 (kX11_ice_0 11 rfl)
theorem dX11_ice_12 : decode cX11_ice 12 = .ok (.bipush 12, 2) := dq_16 (kX11_ice_0 12 rfl) (kX11_ice_0 13 rfl) (by decide)
theorem dX11_ice_14 : decode cX11_ice 14 = .ok (.invokestatic 112, 3) := dq_184 (kX11_ice_0 14 rfl) (kX11_ice_0 15 rfl) (kX11_ice_0 16 rfl) rfl
theorem dX11_ice_17 : decode cX11_ice 17 = .ok (.ifCond .eq 17, 3) := dq_153 (kX11_ice_0 17 rfl) (kX11_ice_0 18 rfl) (kX11_ice_0 19 rfl) (by decide)
theorem dX11_ice_20 : decode cX11_ice 20 = .ok (.aload_n 0, 1) := dq_42 (kX11_ice_0 20 rfl)
theorem dX11_ice_21 : decode cX11_ice 21 = .ok (.getfield 46, 3) := dq_180 (kX11_ice_0 21 rfl) (kX11_ice_0 22 rfl) (kX11_ice_0 23 rfl) rfl
theorem dX11_ice_24 : decode cX11_ice 24 = .ok (.ifCond .gt 10, 3) := dq_157 (kX11_ice_0 24 rfl) (kX11_ice_0 25 rfl) (kX11_ice_0 26 rfl) (by decide)
theorem dX11_ice_27 : decode cX11_ice 27 = .ok (.aload_n 0, 1) := dq_42 (kX11_ice_0 27 rfl)
theorem dX11_ice_28 : decode cX11_ice 28 = .ok (.getfield 55, 3) := dq_180 (kX11_ice_0 28 rfl) (kX11_ice_0 29 rfl) (kX11_ice_0 30 rfl) rfl
theorem dX11_ice_31 : decode cX11_ice 31 = .ok (.ifCond .le 5, 3) := dq_158 (kX11_ice_0 31 rfl) (kX11_ice_1 0 rfl) (kX11_ice_1 1 rfl) (by decide)
theorem dX11_ice_34 : decode cX11_ice 34 = .ok (.iconst 0, 1) := dq_3 (kX11_ice_1 2 rfl)
theorem dX11_ice_35 : decode cX11_ice 35 = .ok (.ireturn, 1) := dq_172 (kX11_ice_1 3 rfl)
theorem dX11_ice_36 : decode cX11_ice 36 = .ok (.aload_n 0, 1) := dq_42 (kX11_ice_1 4 rfl)
theorem dX11_ice_37 : decode cX11_ice 37 = .ok (.getfield 12, 3) := dq_180 (kX11_ice_1 5 rfl) (kX11_ice_1 6 rfl) (kX11_ice_1 7 rfl) rfl
theorem dX11_ice_40 : decode cX11_ice 40 = .ok (.iload_n 1, 1) := dq_27 (kX11_ice_1 8 rfl)
theorem dX11_ice_41 : decode cX11_ice 41 = .ok (.iload_n 2, 1) := dq_28 (kX11_ice_1 9 rfl)
theorem dX11_ice_42 : decode cX11_ice 42 = .ok (.invokevirtual 116, 3) := dq_182 (kX11_ice_1 10 rfl) (kX11_ice_1 11 rfl) (kX11_ice_1 12 rfl) rfl
theorem dX11_ice_45 : decode cX11_ice 45 = .ok (.iconst 1, 1) := dq_4 (kX11_ice_1 13 rfl)
theorem dX11_ice_46 : decode cX11_ice 46 = .ok (.ireturn, 1) := dq_172 (kX11_ice_1 14 rfl)

def bX11_cell_0 : List UInt8 := [21, 4, 2, 160, 0, 12, 21, 5, 154, 0, 7, 4, 167, 0, 4, 3, 54, 6, 21, 4, 3, 16, 7, 184, 0, 112, 153, 0, 20, 21, 5, 16]
theorem kX11_cell_0 (j : Nat) {b : UInt8} (hj : bX11_cell_0[j]? = some b) : AtB cX11_cell (0 + j) b := at_of32 (by decide +kernel) j hj
def bX11_cell_1 : List UInt8 := [10, 17, 14, 16, 184, 0, 112, 153, 0, 7, 4, 167, 0, 4, 3, 54, 7, 42, 180, 0, 12, 27, 182, 0, 119, 153, 0, 32, 28, 3, 16, 40]
theorem kX11_cell_1 (j : Nat) {b : UInt8} (hj : bX11_cell_1[j]? = some b) : AtB cX11_cell (32 + j) b := at_of32 (by decide +kernel) j hj
def bX11_cell_2 : List UInt8 := [184, 0, 112, 153, 0, 22, 29, 3, 6, 184, 0, 112, 153, 0, 13, 21, 6, 154, 0, 10, 21, 7, 154, 0, 5, 3, 172, 42, 180, 0, 12, 180]
theorem kX11_cell_2 (j : Nat) {b : UInt8} (hj : bX11_cell_2[j]? = some b) : AtB cX11_cell (64 + j) b := at_of32 (by decide +kernel) j hj
def bX11_cell_3 : List UInt8 := [0, 123, 27, 28, 184, 0, 108, 42, 180, 0, 12, 180, 0, 126, 27, 29, 184, 0, 108, 42, 180, 0, 12, 180, 0, 129, 27, 21, 4, 184, 0, 108]
theorem kX11_cell_3 (j : Nat) {b : UInt8} (hj : bX11_cell_3[j]? = some b) : AtB cX11_cell (96 + j) b := at_of32 (by decide +kernel) j hj
def bX11_cell_4 : List UInt8 := [42, 180, 0, 12, 180, 0, 132, 27, 21, 5, 184, 0, 108, 4, 172]
theorem kX11_cell_4 (j : Nat) {b : UInt8} (hj : bX11_cell_4[j]? = some b) : AtB cX11_cell (128 + j) b := at_of32 (by decide +kernel) j hj
theorem dX11_cell_0 : decode cX11_cell 0 = .ok (.iload 4, 2) := dq_21 (kX11_cell_0 0 rfl) (kX11_cell_0 1 rfl) rfl
theorem dX11_cell_2 : decode cX11_cell 2 = .ok (.iconst (-1), 1) := dq_2 (kX11_cell_0 2 rfl)
theorem dX11_cell_3 : decode cX11_cell 3 = .ok (.if_icmp .ne 12, 3) := dq_160 (kX11_cell_0 3 rfl) (kX11_cell_0 4 rfl) (kX11_cell_0 5 rfl) (by decide)
theorem dX11_cell_6 : decode cX11_cell 6 = .ok (.iload 5, 2) := dq_21 (kX11_cell_0 6 rfl) (kX11_cell_0 7 rfl) rfl
theorem dX11_cell_8 : decode cX11_cell 8 = .ok (.ifCond .ne 7, 3) := dq_154 (kX11_cell_0 8 rfl) (kX11_cell_0 9 rfl) (kX11_cell_0 10 rfl) (by decide)
theorem dX11_cell_11 : decode cX11_cell 11 = .ok (.iconst 1, 1) := dq_4 (kX11_cell_0 11 rfl)
theorem dX11_cell_12 : decode cX11_cell 12 = .ok (.goto 4, 3) := dq_167 (kX11_cell_0 12 rfl) (kX11_cell_0 13 rfl) (kX11_cell_0 14 rfl) (by decide)
theorem dX11_cell_15 : decode cX11_cell 15 = .ok (.iconst 0, 1) := dq_3 (kX11_cell_0 15 rfl)
theorem dX11_cell_16 : decode cX11_cell 16 = .ok (.istore 6, 2) := dq_54 (kX11_cell_0 16 rfl) (kX11_cell_0 17 rfl) rfl
theorem dX11_cell_18 : decode cX11_cell 18 = .ok (.iload 4, 2) := dq_21 (kX11_cell_0 18 rfl) (kX11_cell_0 19 rfl) rfl
theorem dX11_cell_20 : decode cX11_cell 20 = .ok (.iconst 0, 1) := dq_3 (kX11_cell_0 20 rfl)
theorem dX11_cell_21 : decode cX11_cell 21 = .ok (.bipush 7, 2) := dq_16 (kX11_cell_0 21 rfl) (kX11_cell_0 22 rfl) (by decide)
theorem dX11_cell_23 : decode cX11_cell 23 = .ok (.invokestatic 112, 3) := dq_184 (kX11_cell_0 23 rfl) (kX11_cell_0 24 rfl) (kX11_cell_0 25 rfl) rfl
theorem dX11_cell_26 : decode cX11_cell 26 = .ok (.ifCond .eq 20, 3) := dq_153 (kX11_cell_0 26 rfl) (kX11_cell_0 27 rfl) (kX11_cell_0 28 rfl) (by decide)
theorem dX11_cell_29 : decode cX11_cell 29 = .ok (.iload 5, 2) := dq_21 (kX11_cell_0 29 rfl) (kX11_cell_0 30 rfl) rfl
theorem dX11_cell_31 : decode cX11_cell 31 = .ok (.bipush 10, 2) := dq_16 (kX11_cell_0 31 rfl) (kX11_cell_1 0 rfl) (by decide)
theorem dX11_cell_33 : decode cX11_cell 33 = .ok (.sipush 3600, 3) := dq_17 (kX11_cell_1 1 rfl) (kX11_cell_1 2 rfl) (kX11_cell_1 3 rfl) (by decide)
theorem dX11_cell_36 : decode cX11_cell 36 = .ok (.invokestatic 112, 3) := dq_184 (kX11_cell_1 4 rfl) (kX11_cell_1 5 rfl) (kX11_cell_1 6 rfl) rfl
theorem dX11_cell_39 : decode cX11_cell 39 = .ok (.ifCond .eq 7, 3) := dq_153 (kX11_cell_1 7 rfl) (kX11_cell_1 8 rfl) (kX11_cell_1 9 rfl) (by decide)
theorem dX11_cell_42 : decode cX11_cell 42 = .ok (.iconst 1, 1) := dq_4 (kX11_cell_1 10 rfl)
theorem dX11_cell_43 : decode cX11_cell 43 = .ok (.goto 4, 3) := dq_167 (kX11_cell_1 11 rfl) (kX11_cell_1 12 rfl) (kX11_cell_1 13 rfl) (by decide)
theorem dX11_cell_46 : decode cX11_cell 46 = .ok (.iconst 0, 1) := dq_3 (kX11_cell_1 14 rfl)
theorem dX11_cell_47 : decode cX11_cell 47 = .ok (.istore 7, 2) := dq_54 (kX11_cell_1 15 rfl) (kX11_cell_1 16 rfl) rfl
theorem dX11_cell_49 : decode cX11_cell 49 = .ok (.aload_n 0, 1) := dq_42 (kX11_cell_1 17 rfl)
theorem dX11_cell_50 : decode cX11_cell 50 = .ok (.getfield 12, 3) := dq_180 (kX11_cell_1 18 rfl) (kX11_cell_1 19 rfl) (kX11_cell_1 20 rfl) rfl
theorem dX11_cell_53 : decode cX11_cell 53 = .ok (.iload_n 1, 1) := dq_27 (kX11_cell_1 21 rfl)
theorem dX11_cell_54 : decode cX11_cell 54 = .ok (.invokevirtual 119, 3) := dq_182 (kX11_cell_1 22 rfl) (kX11_cell_1 23 rfl) (kX11_cell_1 24 rfl) rfl
theorem dX11_cell_57 : decode cX11_cell 57 = .ok (.ifCond .eq 32, 3) := dq_153 (kX11_cell_1 25 rfl) (kX11_cell_1 26 rfl) (kX11_cell_1 27 rfl) (by decide)
theorem dX11_cell_60 : decode cX11_cell 60 = .ok (.iload_n 2, 1) := dq_28 (kX11_cell_1 28 rfl)
theorem dX11_cell_61 : decode cX11_cell 61 = .ok (.iconst 0, 1) := dq_3 (kX11_cell_1 29 rfl)
theorem dX11_cell_62 : decode cX11_cell 62 = .ok (.bipush 40, 2) := dq_16 (kX11_cell_1 30 rfl) (kX11_cell_1 31 rfl) (by decide)
theorem dX11_cell_64 : decode cX11_cell 64 = .ok (.invokestatic 112, 3) := dq_184 (kX11_cell_2 0 rfl) (kX11_cell_2 1 rfl) (kX11_cell_2 2 rfl) rfl
theorem dX11_cell_67 : decode cX11_cell 67 = .ok (.ifCond .eq 22, 3) := dq_153 (kX11_cell_2 3 rfl) (kX11_cell_2 4 rfl) (kX11_cell_2 5 rfl) (by decide)
theorem dX11_cell_70 : decode cX11_cell 70 = .ok (.iload_n 3, 1) := dq_29 (kX11_cell_2 6 rfl)
theorem dX11_cell_71 : decode cX11_cell 71 = .ok (.iconst 0, 1) := dq_3 (kX11_cell_2 7 rfl)
theorem dX11_cell_72 : decode cX11_cell 72 = .ok (.iconst 3, 1) := dq_6 (kX11_cell_2 8 rfl)
theorem dX11_cell_73 : decode cX11_cell 73 = .ok (.invokestatic 112, 3) := dq_184 (kX11_cell_2 9 rfl) (kX11_cell_2 10 rfl) (kX11_cell_2 11 rfl) rfl
theorem dX11_cell_76 : decode cX11_cell 76 = .ok (.ifCond .eq 13, 3) := dq_153 (kX11_cell_2 12 rfl) (kX11_cell_2 13 rfl) (kX11_cell_2 14 rfl) (by decide)
theorem dX11_cell_79 : decode cX11_cell 79 = .ok (.iload 6, 2) := dq_21 (kX11_cell_2 15 rfl) (kX11_cell_2 16 rfl) rfl
theorem dX11_cell_81 : decode cX11_cell 81 = .ok (.ifCond .ne 10, 3) := dq_154 (kX11_cell_2 17 rfl) (kX11_cell_2 18 rfl) (kX11_cell_2 19 rfl) (by decide)
theorem dX11_cell_84 : decode cX11_cell 84 = .ok (.iload 7, 2) := dq_21 (kX11_cell_2 20 rfl) (kX11_cell_2 21 rfl) rfl
theorem dX11_cell_86 : decode cX11_cell 86 = .ok (.ifCond .ne 5, 3) := dq_154 (kX11_cell_2 22 rfl) (kX11_cell_2 23 rfl) (kX11_cell_2 24 rfl) (by decide)
theorem dX11_cell_89 : decode cX11_cell 89 = .ok (.iconst 0, 1) := dq_3 (kX11_cell_2 25 rfl)
theorem dX11_cell_90 : decode cX11_cell 90 = .ok (.ireturn, 1) := dq_172 (kX11_cell_2 26 rfl)
theorem dX11_cell_91 : decode cX11_cell 91 = .ok (.aload_n 0, 1) := dq_42 (kX11_cell_2 27 rfl)
theorem dX11_cell_92 : decode cX11_cell 92 = .ok (.getfield 12, 3) := dq_180 (kX11_cell_2 28 rfl) (kX11_cell_2 29 rfl) (kX11_cell_2 30 rfl) rfl
theorem dX11_cell_95 : decode cX11_cell 95 = .ok (.getfield 123, 3) := dq_180 (kX11_cell_2 31 rfl) (kX11_cell_3 0 rfl) (kX11_cell_3 1 rfl) rfl
theorem dX11_cell_98 : decode cX11_cell 98 = .ok (.iload_n 1, 1) := dq_27 (kX11_cell_3 2 rfl)
theorem dX11_cell_99 : decode cX11_cell 99 = .ok (.iload_n 2, 1) := dq_28 (kX11_cell_3 3 rfl)
theorem dX11_cell_100 : decode cX11_cell 100 = .ok (.invokestatic 108, 3) := dq_184 (kX11_cell_3 4 rfl) (kX11_cell_3 5 rfl) (kX11_cell_3 6 rfl) rfl
theorem dX11_cell_103 : decode cX11_cell 103 = .ok (.aload_n 0, 1) := dq_42 (kX11_cell_3 7 rfl)
theorem dX11_cell_104 : decode cX11_cell 104 = .ok (.getfield 12, 3) := dq_180 (kX11_cell_3 8 rfl) (kX11_cell_3 9 rfl) (kX11_cell_3 10 rfl) rfl
theorem dX11_cell_107 : decode cX11_cell 107 = .ok (.getfield 126, 3) := dq_180 (kX11_cell_3 11 rfl) (kX11_cell_3 12 rfl) (kX11_cell_3 13 rfl) rfl
theorem dX11_cell_110 : decode cX11_cell 110 = .ok (.iload_n 1, 1) := dq_27 (kX11_cell_3 14 rfl)
theorem dX11_cell_111 : decode cX11_cell 111 = .ok (.iload_n 3, 1) := dq_29 (kX11_cell_3 15 rfl)
theorem dX11_cell_112 : decode cX11_cell 112 = .ok (.invokestatic 108, 3) := dq_184 (kX11_cell_3 16 rfl) (kX11_cell_3 17 rfl) (kX11_cell_3 18 rfl) rfl
theorem dX11_cell_115 : decode cX11_cell 115 = .ok (.aload_n 0, 1) := dq_42 (kX11_cell_3 19 rfl)
theorem dX11_cell_116 : decode cX11_cell 116 = .ok (.getfield 12, 3) := dq_180 (kX11_cell_3 20 rfl) (kX11_cell_3 21 rfl) (kX11_cell_3 22 rfl) rfl
theorem dX11_cell_119 : decode cX11_cell 119 = .ok (.getfield 129, 3) := dq_180 (kX11_cell_3 23 rfl) (kX11_cell_3 24 rfl) (kX11_cell_3 25 rfl) rfl
theorem dX11_cell_122 : decode cX11_cell 122 = .ok (.iload_n 1, 1) := dq_27 (kX11_cell_3 26 rfl)
theorem dX11_cell_123 : decode cX11_cell 123 = .ok (.iload 4, 2) := dq_21 (kX11_cell_3 27 rfl) (kX11_cell_3 28 rfl) rfl
theorem dX11_cell_125 : decode cX11_cell 125 = .ok (.invokestatic 108, 3) := dq_184 (kX11_cell_3 29 rfl) (kX11_cell_3 30 rfl) (kX11_cell_3 31 rfl) rfl
theorem dX11_cell_128 : decode cX11_cell 128 = .ok (.aload_n 0, 1) := dq_42 (kX11_cell_4 0 rfl)
theorem dX11_cell_129 : decode cX11_cell 129 = .ok (.getfield 12, 3) := dq_180 (kX11_cell_4 1 rfl) (kX11_cell_4 2 rfl) (kX11_cell_4 3 rfl) rfl
theorem dX11_cell_132 : decode cX11_cell 132 = .ok (.getfield 132, 3) := dq_180 (kX11_cell_4 4 rfl) (kX11_cell_4 5 rfl) (kX11_cell_4 6 rfl) rfl
theorem dX11_cell_135 : decode cX11_cell 135 = .ok (.iload_n 1, 1) := dq_27 (kX11_cell_4 7 rfl)
theorem dX11_cell_136 : decode cX11_cell 136 = .ok (.iload 5, 2) := dq_21 (kX11_cell_4 8 rfl) (kX11_cell_4 9 rfl) rfl
theorem dX11_cell_138 : decode cX11_cell 138 = .ok (.invokestatic 108, 3) := dq_184 (kX11_cell_4 10 rfl) (kX11_cell_4 11 rfl) (kX11_cell_4 12 rfl) rfl
theorem dX11_cell_141 : decode cX11_cell 141 = .ok (.iconst 1, 1) := dq_4 (kX11_cell_4 13 rfl)
theorem dX11_cell_142 : decode cX11_cell 142 = .ok (.ireturn, 1) := dq_172 (kX11_cell_4 14 rfl)

def bX11_dark_0 : List UInt8 := [27, 28, 184, 0, 135, 154, 0, 5, 3, 172, 42, 180, 0, 12, 27, 181, 0, 139, 42, 180, 0, 12, 28, 181, 0, 142, 4, 172]
theorem kX11_dark_0 (j : Nat) {b : UInt8} (hj : bX11_dark_0[j]? = some b) : AtB cX11_dark (0 + j) b := at_of32 (by decide +kernel) j hj
theorem dX11_dark_0 : decode cX11_dark 0 = .ok (.iload_n 1, 1) := dq_27 (kX11_dark_0 0 rfl)
theorem dX11_dark_1 : decode cX11_dark 1 = .ok (.iload_n 2, 1) := dq_28 (kX11_dark_0 1 rfl)
theorem dX11_dark_2 : decode cX11_dark 2 = .ok (.invokestatic 135, 3) := dq_184 (kX11_dark_0 2 rfl) (kX11_dark_0 3 rfl) (kX11_dark_0 4 rfl) rfl
theorem dX11_dark_5 : decode cX11_dark 5 = .ok (.ifCond .ne 5, 3) := dq_154 (kX11_dark_0 5 rfl) (kX11_dark_0 6 rfl) (kX11_dark_0 7 rfl) (by decide)
theorem dX11_dark_8 : decode cX11_dark 8 = .ok (.iconst 0, 1) := dq_3 (kX11_dark_0 8 rfl)
theorem dX11_dark_9 : decode cX11_dark 9 = .ok (.ireturn, 1) := dq_172 (kX11_dark_0 9 rfl)
theorem dX11_dark_10 : decode cX11_dark 10 = .ok (.aload_n 0, 1) := dq_42 (kX11_dark_0 10 rfl)
theorem dX11_dark_11 : decode cX11_dark 11 = .ok (.getfield 12, 3) := dq_180 (kX11_dark_0 11 rfl) (kX11_dark_0 12 rfl) (kX11_dark_0 13 rfl) rfl
theorem dX11_dark_14 : decode cX11_dark 14 = .ok (.iload_n 1, 1) := dq_27 (kX11_dark_0 14 rfl)
theorem dX11_dark_15 : decode cX11_dark 15 = .ok (.putfield 139, 3) := dq_181 (kX11_dark_0 15 rfl) (kX11_dark_0 16 rfl) (kX11_dark_0 17 rfl) rfl
theorem dX11_dark_18 : decode cX11_dark 18 = .ok (.aload_n 0, 1) := dq_42 (kX11_dark_0 18 rfl)
theorem dX11_dark_19 : decode cX11_dark 19 = .ok (.getfield 12, 3) := dq_180 (kX11_dark_0 19 rfl) (kX11_dark_0 20 rfl) (kX11_dark_0 21 rfl) rfl
theorem dX11_dark_22 : decode cX11_dark 22 = .ok (.iload_n 2, 1) := dq_28 (kX11_dark_0 22 rfl)
theorem dX11_dark_23 : decode cX11_dark 23 = .ok (.putfield 142, 3) := dq_181 (kX11_dark_0 23 rfl) (kX11_dark_0 24 rfl) (kX11_dark_0 25 rfl) rfl
theorem dX11_dark_26 : decode cX11_dark 26 = .ok (.iconst 1, 1) := dq_4 (kX11_dark_0 26 rfl)
theorem dX11_dark_27 : decode cX11_dark 27 = .ok (.ireturn, 1) := dq_172 (kX11_dark_0 27 rfl)

def bX11_party_0 : List UInt8 := [42, 180, 0, 36, 42, 180, 0, 32, 190, 161, 0, 5, 2, 172, 42, 180, 0, 32, 42, 180, 0, 36, 187, 0, 30, 89, 27, 153, 0, 13, 42, 180]
theorem kX11_party_0 (j : Nat) {b : UInt8} (hj : bX11_party_0[j]? = some b) : AtB cX11_party (0 + j) b := at_of32 (by decide +kernel) j hj
def bX11_party_1 : List UInt8 := [0, 12, 180, 0, 145, 167, 0, 4, 2, 183, 0, 148, 83, 42, 89, 180, 0, 36, 90, 4, 96, 181, 0, 36, 172]
theorem kX11_party_1 (j : Nat) {b : UInt8} (hj : bX11_party_1[j]? = some b) : AtB cX11_party (32 + j) b := at_of32 (by decide +kernel) j hj
theorem dX11_party_0 : decode cX11_party 0 = .ok (.aload_n 0, 1) := dq_42 (kX11_party_0 0 rfl)
theorem dX11_party_1 : decode cX11_party 1 = .ok (.getfield 36, 3) := dq_180 (kX11_party_0 1 rfl) (kX11_party_0 2 rfl) (kX11_party_0 3 rfl) rfl
theorem dX11_party_4 : decode cX11_party 4 = .ok (.aload_n 0, 1) := dq_42 (kX11_party_0 4 rfl)
theorem dX11_party_5 : decode cX11_party 5 = .ok (.getfield 32, 3) := dq_180 (kX11_party_0 5 rfl) (kX11_party_0 6 rfl) (kX11_party_0 7 rfl) rfl
theorem dX11_party_8 : decode cX11_party 8 = .ok (.arraylength, 1) := dq_190 (kX11_party_0 8 rfl)
theorem dX11_party_9 : decode cX11_party 9 = .ok (.if_icmp .lt 5, 3) := dq_161 (kX11_party_0 9 rfl) (kX11_party_0 10 rfl) (kX11_party_0 11 rfl) (by decide)
theorem dX11_party_12 : decode cX11_party 12 = .ok (.iconst (-1), 1) := dq_2 (kX11_party_0 12 rfl)
theorem dX11_party_13 : decode cX11_party 13 = .ok (.ireturn, 1) := dq_172 (kX11_party_0 13 rfl)
theorem dX11_party_14 : decode cX11_party 14 = .ok (.aload_n 0, 1) := dq_42 (kX11_party_0 14 rfl)
theorem dX11_party_15 : decode cX11_party 15 = .ok (.getfield 32, 3) := dq_180 (kX11_party_0 15 rfl) (kX11_party_0 16 rfl) (kX11_party_0 17 rfl) rfl
theorem dX11_party_18 : decode cX11_party 18 = .ok (.aload_n 0, 1) := dq_42 (kX11_party_0 18 rfl)
theorem dX11_party_19 : decode cX11_party 19 = .ok (.getfield 36, 3) := dq_180 (kX11_party_0 19 rfl) (kX11_party_0 20 rfl) (kX11_party_0 21 rfl) rfl
theorem dX11_party_22 : decode cX11_party 22 = .ok (.new 30, 3) := dq_187 (kX11_party_0 22 rfl) (kX11_party_0 23 rfl) (kX11_party_0 24 rfl) rfl
theorem dX11_party_25 : decode cX11_party 25 = .ok (.dup, 1) := dq_89 (kX11_party_0 25 rfl)
theorem dX11_party_26 : decode cX11_party 26 = .ok (.iload_n 1, 1) := dq_27 (kX11_party_0 26 rfl)
theorem dX11_party_27 : decode cX11_party 27 = .ok (.ifCond .eq 13, 3) := dq_153 (kX11_party_0 27 rfl) (kX11_party_0 28 rfl) (kX11_party_0 29 rfl) (by decide)
theorem dX11_party_30 : decode cX11_party 30 = .ok (.aload_n 0, 1) := dq_42 (kX11_party_0 30 rfl)
theorem dX11_party_31 : decode cX11_party 31 = .ok (.getfield 12, 3) := dq_180 (kX11_party_0 31 rfl) (kX11_party_1 0 rfl) (kX11_party_1 1 rfl) rfl
theorem dX11_party_34 : decode cX11_party 34 = .ok (.getfield 145, 3) := dq_180 (kX11_party_1 2 rfl) (kX11_party_1 3 rfl) (kX11_party_1 4 rfl) rfl
theorem dX11_party_37 : decode cX11_party 37 = .ok (.goto 4, 3) := dq_167 (kX11_party_1 5 rfl) (kX11_party_1 6 rfl) (kX11_party_1 7 rfl) (by decide)
theorem dX11_party_40 : decode cX11_party 40 = .ok (.iconst (-1), 1) := dq_2 (kX11_party_1 8 rfl)
theorem dX11_party_41 : decode cX11_party 41 = .ok (.invokespecial 148, 3) := dq_183 (kX11_party_1 9 rfl) (kX11_party_1 10 rfl) (kX11_party_1 11 rfl) rfl
theorem dX11_party_44 : decode cX11_party 44 = .ok (.aastore, 1) := dq_83 (kX11_party_1 12 rfl)
theorem dX11_party_45 : decode cX11_party 45 = .ok (.aload_n 0, 1) := dq_42 (kX11_party_1 13 rfl)
theorem dX11_party_46 : decode cX11_party 46 = .ok (.dup, 1) := dq_89 (kX11_party_1 14 rfl)
theorem dX11_party_47 : decode cX11_party 47 = .ok (.getfield 36, 3) := dq_180 (kX11_party_1 15 rfl) (kX11_party_1 16 rfl) (kX11_party_1 17 rfl) rfl
theorem dX11_party_50 : decode cX11_party 50 = .ok (.dup_x1, 1) := dq_90 (kX11_party_1 18 rfl)
theorem dX11_party_51 : decode cX11_party 51 = .ok (.iconst 1, 1) := dq_4 (kX11_party_1 19 rfl)
theorem dX11_party_52 : decode cX11_party 52 = .ok (.iadd, 1) := dq_96 (kX11_party_1 20 rfl)
theorem dX11_party_53 : decode cX11_party 53 = .ok (.putfield 36, 3) := dq_181 (kX11_party_1 21 rfl) (kX11_party_1 22 rfl) (kX11_party_1 23 rfl) rfl
theorem dX11_party_56 : decode cX11_party 56 = .ok (.ireturn, 1) := dq_172 (kX11_party_1 24 rfl)

def bX11_claim_0 : List UInt8 := [42, 27, 182, 0, 151, 58, 5, 25, 5, 198, 0, 37, 42, 180, 0, 12, 28, 29, 182, 0, 155, 153, 0, 25, 21, 4, 3, 17, 3, 231, 184, 0]
theorem kX11_claim_0 (j : Nat) {b : UInt8} (hj : bX11_claim_0[j]? = some b) : AtB cX11_claim (0 + j) b := at_of32 (by decide +kernel) j hj
def bX11_claim_1 : List UInt8 := [112, 153, 0, 13, 42, 27, 25, 5, 182, 0, 158, 153, 0, 5, 2, 172, 42, 187, 0, 40, 89, 3, 27, 28, 29, 21, 4, 183, 0, 162, 182, 0]
theorem kX11_claim_1 (j : Nat) {b : UInt8} (hj : bX11_claim_1[j]? = some b) : AtB cX11_claim (32 + j) b := at_of32 (by decide +kernel) j hj
def bX11_claim_2 : List UInt8 := [165, 172]
theorem kX11_claim_2 (j : Nat) {b : UInt8} (hj : bX11_claim_2[j]? = some b) : AtB cX11_claim (64 + j) b := at_of32 (by decide +kernel) j hj
theorem dX11_claim_0 : decode cX11_claim 0 = .ok (.aload_n 0, 1) := dq_42 (kX11_claim_0 0 rfl)
theorem dX11_claim_1 : decode cX11_claim 1 = .ok (.iload_n 1, 1) := dq_27 (kX11_claim_0 1 rfl)
theorem dX11_claim_2 : decode cX11_claim 2 = .ok (.invokevirtual 151, 3) := dq_182 (kX11_claim_0 2 rfl) (kX11_claim_0 3 rfl) (kX11_claim_0 4 rfl) rfl
theorem dX11_claim_5 : decode cX11_claim 5 = .ok (.astore 5, 2) := dq_58 (kX11_claim_0 5 rfl) (kX11_claim_0 6 rfl) rfl
theorem dX11_claim_7 : decode cX11_claim 7 = .ok (.aload 5, 2) := dq_25 (kX11_claim_0 7 rfl) (kX11_claim_0 8 rfl) rfl
theorem dX11_claim_9 : decode cX11_claim 9 = .ok (.ifnull 37, 3) := dq_198 (kX11_claim_0 9 rfl) (kX11_claim_0 10 rfl) (kX11_claim_0 11 rfl) (by decide)
theorem dX11_claim_12 : decode cX11_claim 12 = .ok (.aload_n 0, 1) := dq_42 (kX11_claim_0 12 rfl)
theorem dX11_claim_13 : decode cX11_claim 13 = .ok (.getfield 12, 3) := dq_180 (kX11_claim_0 13 rfl) (kX11_claim_0 14 rfl) (kX11_claim_0 15 rfl) rfl
theorem dX11_claim_16 : decode cX11_claim 16 = .ok (.iload_n 2, 1) := dq_28 (kX11_claim_0 16 rfl)
theorem dX11_claim_17 : decode cX11_claim 17 = .ok (.iload_n 3, 1) := dq_29 (kX11_claim_0 17 rfl)
theorem dX11_claim_18 : decode cX11_claim 18 = .ok (.invokevirtual 155, 3) := dq_182 (kX11_claim_0 18 rfl) (kX11_claim_0 19 rfl) (kX11_claim_0 20 rfl) rfl
theorem dX11_claim_21 : decode cX11_claim 21 = .ok (.ifCond .eq 25, 3) := dq_153 (kX11_claim_0 21 rfl) (kX11_claim_0 22 rfl) (kX11_claim_0 23 rfl) (by decide)
theorem dX11_claim_24 : decode cX11_claim 24 = .ok (.iload 4, 2) := dq_21 (kX11_claim_0 24 rfl) (kX11_claim_0 25 rfl) rfl
theorem dX11_claim_26 : decode cX11_claim 26 = .ok (.iconst 0, 1) := dq_3 (kX11_claim_0 26 rfl)
theorem dX11_claim_27 : decode cX11_claim 27 = .ok (.sipush 999, 3) := dq_17 (kX11_claim_0 27 rfl) (kX11_claim_0 28 rfl) (kX11_claim_0 29 rfl) (by decide)
theorem dX11_claim_30 : decode cX11_claim 30 = .ok (.invokestatic 112, 3) := dq_184 (kX11_claim_0 30 rfl) (kX11_claim_0 31 rfl) (kX11_claim_1 0 rfl) rfl
theorem dX11_claim_33 : decode cX11_claim 33 = .ok (.ifCond .eq 13, 3) := dq_153 (kX11_claim_1 1 rfl) (kX11_claim_1 2 rfl) (kX11_claim_1 3 rfl) (by decide)
theorem dX11_claim_36 : decode cX11_claim 36 = .ok (.aload_n 0, 1) := dq_42 (kX11_claim_1 4 rfl)
theorem dX11_claim_37 : decode cX11_claim 37 = .ok (.iload_n 1, 1) := dq_27 (kX11_claim_1 5 rfl)
theorem dX11_claim_38 : decode cX11_claim 38 = .ok (.aload 5, 2) := dq_25 (kX11_claim_1 6 rfl) (kX11_claim_1 7 rfl) rfl
theorem dX11_claim_40 : decode cX11_claim 40 = .ok (.invokevirtual 158, 3) := dq_182 (kX11_claim_1 8 rfl) (kX11_claim_1 9 rfl) (kX11_claim_1 10 rfl) rfl
theorem dX11_claim_43 : decode cX11_claim 43 = .ok (.ifCond .eq 5, 3) := dq_153 (kX11_claim_1 11 rfl) (kX11_claim_1 12 rfl) (kX11_claim_1 13 rfl) (by decide)
theorem dX11_claim_46 : decode cX11_claim 46 = .ok (.iconst (-1), 1) := dq_2 (kX11_claim_1 14 rfl)
theorem dX11_claim_47 : decode cX11_claim 47 = .ok (.ireturn, 1) := dq_172 (kX11_claim_1 15 rfl)
theorem dX11_claim_48 : decode cX11_claim 48 = .ok (.aload_n 0, 1) := dq_42 (kX11_claim_1 16 rfl)
theorem dX11_claim_49 : decode cX11_claim 49 = .ok (.new 40, 3) := dq_187 (kX11_claim_1 17 rfl) (kX11_claim_1 18 rfl) (kX11_claim_1 19 rfl) rfl
theorem dX11_claim_52 : decode cX11_claim 52 = .ok (.dup, 1) := dq_89 (kX11_claim_1 20 rfl)
theorem dX11_claim_53 : decode cX11_claim 53 = .ok (.iconst 0, 1) := dq_3 (kX11_claim_1 21 rfl)
theorem dX11_claim_54 : decode cX11_claim 54 = .ok (.iload_n 1, 1) := dq_27 (kX11_claim_1 22 rfl)
theorem dX11_claim_55 : decode cX11_claim 55 = .ok (.iload_n 2, 1) := dq_28 (kX11_claim_1 23 rfl)
theorem dX11_claim_56 : decode cX11_claim 56 = .ok (.iload_n 3, 1) := dq_29 (kX11_claim_1 24 rfl)
theorem dX11_claim_57 : decode cX11_claim 57 = .ok (.iload 4, 2) := dq_21 (kX11_claim_1 25 rfl) (kX11_claim_1 26 rfl) rfl
theorem dX11_claim_59 : decode cX11_claim 59 = .ok (.invokespecial 162, 3) := dq_183 (kX11_claim_1 27 rfl) (kX11_claim_1 28 rfl) (kX11_claim_1 29 rfl) rfl
theorem dX11_claim_62 : decode cX11_claim 62 = .ok (.invokevirtual 165, 3) := dq_182 (kX11_claim_1 30 rfl) (kX11_claim_1 31 rfl) (kX11_claim_2 0 rfl) rfl
theorem dX11_claim_65 : decode cX11_claim 65 = .ok (.ireturn, 1) := dq_172 (kX11_claim_2 1 rfl)

def bX11_title_0 : List UInt8 := [42, 27, 3, 182, 0, 169, 78, 45, 198, 0, 14, 28, 3, 17, 3, 231, 184, 0, 112, 154, 0, 5, 3, 172, 42, 45, 180, 0, 173, 182, 0, 151]
theorem kX11_title_0 (j : Nat) {b : UInt8} (hj : bX11_title_0[j]? = some b) : AtB cX11_title (0 + j) b := at_of32 (by decide +kernel) j hj
def bX11_title_1 : List UInt8 := [58, 4, 28, 45, 180, 0, 176, 164, 0, 23, 25, 4, 198, 0, 18, 42, 45, 180, 0, 173, 25, 4, 182, 0, 158, 153, 0, 5, 3, 172, 45, 28]
theorem kX11_title_1 (j : Nat) {b : UInt8} (hj : bX11_title_1[j]? = some b) : AtB cX11_title (32 + j) b := at_of32 (by decide +kernel) j hj
def bX11_title_2 : List UInt8 := [181, 0, 176, 4, 172]
theorem kX11_title_2 (j : Nat) {b : UInt8} (hj : bX11_title_2[j]? = some b) : AtB cX11_title (64 + j) b := at_of32 (by decide +kernel) j hj
theorem dX11_title_0 : decode cX11_title 0 = .ok (.aload_n 0, 1) := dq_42 (kX11_title_0 0 rfl)
theorem dX11_title_1 : decode cX11_title 1 = .ok (.iload_n 1, 1) := dq_27 (kX11_title_0 1 rfl)
theorem dX11_title_2 : decode cX11_title 2 = .ok (.iconst 0, 1) := dq_3 (kX11_title_0 2 rfl)
theorem dX11_title_3 : decode cX11_title 3 = .ok (.invokevirtual 169, 3) := dq_182 (kX11_title_0 3 rfl) (kX11_title_0 4 rfl) (kX11_title_0 5 rfl) rfl
theorem dX11_title_6 : decode cX11_title 6 = .ok (.astore_n 3, 1) := dq_78 (kX11_title_0 6 rfl)
theorem dX11_title_7 : decode cX11_title 7 = .ok (.aload_n 3, 1) := dq_45 (kX11_title_0 7 rfl)
theorem dX11_title_8 : decode cX11_title 8 = .ok (.ifnull 14, 3) := dq_198 (kX11_title_0 8 rfl) (kX11_title_0 9 rfl) (kX11_title_0 10 rfl) (by decide)
theorem dX11_title_11 : decode cX11_title 11 = .ok (.iload_n 2, 1) := dq_28 (kX11_title_0 11 rfl)
theorem dX11_title_12 : decode cX11_title 12 = .ok (.iconst 0, 1) := dq_3 (kX11_title_0 12 rfl)
theorem dX11_title_13 : decode cX11_title 13 = .ok (.sipush 999, 3) := dq_17 (kX11_title_0 13 rfl) (kX11_title_0 14 rfl) (kX11_title_0 15 rfl) (by decide)
theorem dX11_title_16 : decode cX11_title 16 = .ok (.invokestatic 112, 3) := dq_184 (kX11_title_0 16 rfl) (kX11_title_0 17 rfl) (kX11_title_0 18 rfl) rfl
theorem dX11_title_19 : decode cX11_title 19 = .ok (.ifCond .ne 5, 3) := dq_154 (kX11_title_0 19 rfl) (kX11_title_0 20 rfl) (kX11_title_0 21 rfl) (by decide)
theorem dX11_title_22 : decode cX11_title 22 = .ok (.iconst 0, 1) := dq_3 (kX11_title_0 22 rfl)
theorem dX11_title_23 : decode cX11_title 23 = .ok (.ireturn, 1) := dq_172 (kX11_title_0 23 rfl)
theorem dX11_title_24 : decode cX11_title 24 = .ok (.aload_n 0, 1) := dq_42 (kX11_title_0 24 rfl)
theorem dX11_title_25 : decode cX11_title 25 = .ok (.aload_n 3, 1) := dq_45 (kX11_title_0 25 rfl)
theorem dX11_title_26 : decode cX11_title 26 = .ok (.getfield 173, 3) := dq_180 (kX11_title_0 26 rfl) (kX11_title_0 27 rfl) (kX11_title_0 28 rfl) rfl
theorem dX11_title_29 : decode cX11_title 29 = .ok (.invokevirtual 151, 3) := dq_182 (kX11_title_0 29 rfl) (kX11_title_0 30 rfl) (kX11_title_0 31 rfl) rfl
theorem dX11_title_32 : decode cX11_title 32 = .ok (.astore 4, 2) := dq_58 (kX11_title_1 0 rfl) (kX11_title_1 1 rfl) rfl
theorem dX11_title_34 : decode cX11_title 34 = .ok (.iload_n 2, 1) := dq_28 (kX11_title_1 2 rfl)
theorem dX11_title_35 : decode cX11_title 35 = .ok (.aload_n 3, 1) := dq_45 (kX11_title_1 3 rfl)
theorem dX11_title_36 : decode cX11_title 36 = .ok (.getfield 176, 3) := dq_180 (kX11_title_1 4 rfl) (kX11_title_1 5 rfl) (kX11_title_1 6 rfl) rfl
theorem dX11_title_39 : decode cX11_title 39 = .ok (.if_icmp .le 23, 3) := dq_164 (kX11_title_1 7 rfl) (kX11_title_1 8 rfl) (kX11_title_1 9 rfl) (by decide)
theorem dX11_title_42 : decode cX11_title 42 = .ok (.aload 4, 2) := dq_25 (kX11_title_1 10 rfl) (kX11_title_1 11 rfl) rfl
theorem dX11_title_44 : decode cX11_title 44 = .ok (.ifnull 18, 3) := dq_198 (kX11_title_1 12 rfl) (kX11_title_1 13 rfl) (kX11_title_1 14 rfl) (by decide)
theorem dX11_title_47 : decode cX11_title 47 = .ok (.aload_n 0, 1) := dq_42 (kX11_title_1 15 rfl)
theorem dX11_title_48 : decode cX11_title 48 = .ok (.aload_n 3, 1) := dq_45 (kX11_title_1 16 rfl)
theorem dX11_title_49 : decode cX11_title 49 = .ok (.getfield 173, 3) := dq_180 (kX11_title_1 17 rfl) (kX11_title_1 18 rfl) (kX11_title_1 19 rfl) rfl
theorem dX11_title_52 : decode cX11_title 52 = .ok (.aload 4, 2) := dq_25 (kX11_title_1 20 rfl) (kX11_title_1 21 rfl) rfl
theorem dX11_title_54 : decode cX11_title 54 = .ok (.invokevirtual 158, 3) := dq_182 (kX11_title_1 22 rfl) (kX11_title_1 23 rfl) (kX11_title_1 24 rfl) rfl
theorem dX11_title_57 : decode cX11_title 57 = .ok (.ifCond .eq 5, 3) := dq_153 (kX11_title_1 25 rfl) (kX11_title_1 26 rfl) (kX11_title_1 27 rfl) (by decide)
theorem dX11_title_60 : decode cX11_title 60 = .ok (.iconst 0, 1) := dq_3 (kX11_title_1 28 rfl)
theorem dX11_title_61 : decode cX11_title 61 = .ok (.ireturn, 1) := dq_172 (kX11_title_1 29 rfl)
theorem dX11_title_62 : decode cX11_title 62 = .ok (.aload_n 3, 1) := dq_45 (kX11_title_1 30 rfl)
theorem dX11_title_63 : decode cX11_title 63 = .ok (.iload_n 2, 1) := dq_28 (kX11_title_1 31 rfl)
theorem dX11_title_64 : decode cX11_title 64 = .ok (.putfield 176, 3) := dq_181 (kX11_title_2 0 rfl) (kX11_title_2 1 rfl) (kX11_title_2 2 rfl) rfl
theorem dX11_title_67 : decode cX11_title 67 = .ok (.iconst 1, 1) := dq_4 (kX11_title_2 3 rfl)
theorem dX11_title_68 : decode cX11_title 68 = .ok (.ireturn, 1) := dq_172 (kX11_title_2 4 rfl)

def bX11_station_0 : List UInt8 := [42, 27, 182, 0, 151, 198, 0, 36, 42, 180, 0, 12, 28, 182, 0, 179, 153, 0, 25, 29, 3, 17, 1, 244, 184, 0, 112, 153, 0, 14, 21, 4]
theorem kX11_station_0 (j : Nat) {b : UInt8} (hj : bX11_station_0[j]? = some b) : AtB cX11_station (0 + j) b := at_of32 (by decide +kernel) j hj
def bX11_station_1 : List UInt8 := [3, 18, 182, 184, 0, 112, 154, 0, 5, 2, 172, 187, 0, 40, 89, 4, 27, 28, 2, 2, 183, 0, 162, 58, 5, 25, 5, 29, 181, 0, 183, 25]
theorem kX11_station_1 (j : Nat) {b : UInt8} (hj : bX11_station_1[j]? = some b) : AtB cX11_station (32 + j) b := at_of32 (by decide +kernel) j hj
def bX11_station_2 : List UInt8 := [5, 21, 4, 181, 0, 186, 25, 5, 42, 180, 0, 12, 180, 0, 145, 181, 0, 189, 42, 25, 5, 182, 0, 165, 54, 6, 21, 6, 2, 159, 0, 10]
theorem kX11_station_2 (j : Nat) {b : UInt8} (hj : bX11_station_2[j]? = some b) : AtB cX11_station (64 + j) b := at_of32 (by decide +kernel) j hj
def bX11_station_3 : List UInt8 := [42, 3, 21, 4, 182, 0, 192, 21, 6, 172]
theorem kX11_station_3 (j : Nat) {b : UInt8} (hj : bX11_station_3[j]? = some b) : AtB cX11_station (96 + j) b := at_of32 (by decide +kernel) j hj
theorem dX11_station_0 : decode cX11_station 0 = .ok (.aload_n 0, 1) := dq_42 (kX11_station_0 0 rfl)
theorem dX11_station_1 : decode cX11_station 1 = .ok (.iload_n 1, 1) := dq_27 (kX11_station_0 1 rfl)
theorem dX11_station_2 : decode cX11_station 2 = .ok (.invokevirtual 151, 3) := dq_182 (kX11_station_0 2 rfl) (kX11_station_0 3 rfl) (kX11_station_0 4 rfl) rfl
theorem dX11_station_5 : decode cX11_station 5 = .ok (.ifnull 36, 3) := dq_198 (kX11_station_0 5 rfl) (kX11_station_0 6 rfl) (kX11_station_0 7 rfl) (by decide)
theorem dX11_station_8 : decode cX11_station 8 = .ok (.aload_n 0, 1) := dq_42 (kX11_station_0 8 rfl)
theorem dX11_station_9 : decode cX11_station 9 = .ok (.getfield 12, 3) := dq_180 (kX11_station_0 9 rfl) (kX11_station_0 10 rfl) (kX11_station_0 11 rfl) rfl
theorem dX11_station_12 : decode cX11_station 12 = .ok (.iload_n 2, 1) := dq_28 (kX11_station_0 12 rfl)
theorem dX11_station_13 : decode cX11_station 13 = .ok (.invokevirtual 179, 3) := dq_182 (kX11_station_0 13 rfl) (kX11_station_0 14 rfl) (kX11_station_0 15 rfl) rfl
theorem dX11_station_16 : decode cX11_station 16 = .ok (.ifCond .eq 25, 3) := dq_153 (kX11_station_0 16 rfl) (kX11_station_0 17 rfl) (kX11_station_0 18 rfl) (by decide)
theorem dX11_station_19 : decode cX11_station 19 = .ok (.iload_n 3, 1) := dq_29 (kX11_station_0 19 rfl)
theorem dX11_station_20 : decode cX11_station 20 = .ok (.iconst 0, 1) := dq_3 (kX11_station_0 20 rfl)
theorem dX11_station_21 : decode cX11_station 21 = .ok (.sipush 500, 3) := dq_17 (kX11_station_0 21 rfl) (kX11_station_0 22 rfl) (kX11_station_0 23 rfl) (by decide)
theorem dX11_station_24 : decode cX11_station 24 = .ok (.invokestatic 112, 3) := dq_184 (kX11_station_0 24 rfl) (kX11_station_0 25 rfl) (kX11_station_0 26 rfl) rfl
theorem dX11_station_27 : decode cX11_station 27 = .ok (.ifCond .eq 14, 3) := dq_153 (kX11_station_0 27 rfl) (kX11_station_0 28 rfl) (kX11_station_0 29 rfl) (by decide)
theorem dX11_station_30 : decode cX11_station 30 = .ok (.iload 4, 2) := dq_21 (kX11_station_0 30 rfl) (kX11_station_0 31 rfl) rfl
theorem dX11_station_32 : decode cX11_station 32 = .ok (.iconst 0, 1) := dq_3 (kX11_station_1 0 rfl)
theorem dX11_station_33 : decode cX11_station 33 = .ok (.ldc 182, 2) := dq_18 (kX11_station_1 1 rfl) (kX11_station_1 2 rfl) rfl
theorem dX11_station_35 : decode cX11_station 35 = .ok (.invokestatic 112, 3) := dq_184 (kX11_station_1 3 rfl) (kX11_station_1 4 rfl) (kX11_station_1 5 rfl) rfl
theorem dX11_station_38 : decode cX11_station 38 = .ok (.ifCond .ne 5, 3) := dq_154 (kX11_station_1 6 rfl) (kX11_station_1 7 rfl) (kX11_station_1 8 rfl) (by decide)
theorem dX11_station_41 : decode cX11_station 41 = .ok (.iconst (-1), 1) := dq_2 (kX11_station_1 9 rfl)
theorem dX11_station_42 : decode cX11_station 42 = .ok (.ireturn, 1) := dq_172 (kX11_station_1 10 rfl)
theorem dX11_station_43 : decode cX11_station 43 = .ok (.new 40, 3) := dq_187 (kX11_station_1 11 rfl) (kX11_station_1 12 rfl) (kX11_station_1 13 rfl) rfl
theorem dX11_station_46 : decode cX11_station 46 = .ok (.dup, 1) := dq_89 (kX11_station_1 14 rfl)
theorem dX11_station_47 : decode cX11_station 47 = .ok (.iconst 1, 1) := dq_4 (kX11_station_1 15 rfl)
theorem dX11_station_48 : decode cX11_station 48 = .ok (.iload_n 1, 1) := dq_27 (kX11_station_1 16 rfl)
theorem dX11_station_49 : decode cX11_station 49 = .ok (.iload_n 2, 1) := dq_28 (kX11_station_1 17 rfl)
theorem dX11_station_50 : decode cX11_station 50 = .ok (.iconst (-1), 1) := dq_2 (kX11_station_1 18 rfl)
theorem dX11_station_51 : decode cX11_station 51 = .ok (.iconst (-1), 1) := dq_2 (kX11_station_1 19 rfl)
theorem dX11_station_52 : decode cX11_station 52 = .ok (.invokespecial 162, 3) := dq_183 (kX11_station_1 20 rfl) (kX11_station_1 21 rfl) (kX11_station_1 22 rfl) rfl
theorem dX11_station_55 : decode cX11_station 55 = .ok (.astore 5, 2) := dq_58 (kX11_station_1 23 rfl) (kX11_station_1 24 rfl) rfl
theorem dX11_station_57 : decode cX11_station 57 = .ok (.aload 5, 2) := dq_25 (kX11_station_1 25 rfl) (kX11_station_1 26 rfl) rfl
theorem dX11_station_59 : decode cX11_station 59 = .ok (.iload_n 3, 1) := dq_29 (kX11_station_1 27 rfl)
theorem dX11_station_60 : decode cX11_station 60 = .ok (.putfield 183, 3) := dq_181 (kX11_station_1 28 rfl) (kX11_station_1 29 rfl) (kX11_station_1 30 rfl) rfl
theorem dX11_station_63 : decode cX11_station 63 = .ok (.aload 5, 2) := dq_25 (kX11_station_1 31 rfl) (kX11_station_2 0 rfl) rfl
theorem dX11_station_65 : decode cX11_station 65 = .ok (.iload 4, 2) := dq_21 (kX11_station_2 1 rfl) (kX11_station_2 2 rfl) rfl
theorem dX11_station_67 : decode cX11_station 67 = .ok (.putfield 186, 3) := dq_181 (kX11_station_2 3 rfl) (kX11_station_2 4 rfl) (kX11_station_2 5 rfl) rfl
theorem dX11_station_70 : decode cX11_station 70 = .ok (.aload 5, 2) := dq_25 (kX11_station_2 6 rfl) (kX11_station_2 7 rfl) rfl
theorem dX11_station_72 : decode cX11_station 72 = .ok (.aload_n 0, 1) := dq_42 (kX11_station_2 8 rfl)
theorem dX11_station_73 : decode cX11_station 73 = .ok (.getfield 12, 3) := dq_180 (kX11_station_2 9 rfl) (kX11_station_2 10 rfl) (kX11_station_2 11 rfl) rfl
theorem dX11_station_76 : decode cX11_station 76 = .ok (.getfield 145, 3) := dq_180 (kX11_station_2 12 rfl) (kX11_station_2 13 rfl) (kX11_station_2 14 rfl) rfl
theorem dX11_station_79 : decode cX11_station 79 = .ok (.putfield 189, 3) := dq_181 (kX11_station_2 15 rfl) (kX11_station_2 16 rfl) (kX11_station_2 17 rfl) rfl
theorem dX11_station_82 : decode cX11_station 82 = .ok (.aload_n 0, 1) := dq_42 (kX11_station_2 18 rfl)
theorem dX11_station_83 : decode cX11_station 83 = .ok (.aload 5, 2) := dq_25 (kX11_station_2 19 rfl) (kX11_station_2 20 rfl) rfl
theorem dX11_station_85 : decode cX11_station 85 = .ok (.invokevirtual 165, 3) := dq_182 (kX11_station_2 21 rfl) (kX11_station_2 22 rfl) (kX11_station_2 23 rfl) rfl
theorem dX11_station_88 : decode cX11_station 88 = .ok (.istore 6, 2) := dq_54 (kX11_station_2 24 rfl) (kX11_station_2 25 rfl) rfl
theorem dX11_station_90 : decode cX11_station 90 = .ok (.iload 6, 2) := dq_21 (kX11_station_2 26 rfl) (kX11_station_2 27 rfl) rfl
theorem dX11_station_92 : decode cX11_station 92 = .ok (.iconst (-1), 1) := dq_2 (kX11_station_2 28 rfl)
theorem dX11_station_93 : decode cX11_station 93 = .ok (.if_icmp .eq 10, 3) := dq_159 (kX11_station_2 29 rfl) (kX11_station_2 30 rfl) (kX11_station_2 31 rfl) (by decide)
theorem dX11_station_96 : decode cX11_station 96 = .ok (.aload_n 0, 1) := dq_42 (kX11_station_3 0 rfl)
theorem dX11_station_97 : decode cX11_station 97 = .ok (.iconst 0, 1) := dq_3 (kX11_station_3 1 rfl)
theorem dX11_station_98 : decode cX11_station 98 = .ok (.iload 4, 2) := dq_21 (kX11_station_3 2 rfl) (kX11_station_3 3 rfl) rfl
theorem dX11_station_100 : decode cX11_station 100 = .ok (.invokevirtual 192, 3) := dq_182 (kX11_station_3 4 rfl) (kX11_station_3 5 rfl) (kX11_station_3 6 rfl) rfl
theorem dX11_station_103 : decode cX11_station 103 = .ok (.iload 6, 2) := dq_21 (kX11_station_3 7 rfl) (kX11_station_3 8 rfl) rfl
theorem dX11_station_105 : decode cX11_station 105 = .ok (.ireturn, 1) := dq_172 (kX11_station_3 9 rfl)

def bX11_field_0 : List UInt8 := [42, 27, 182, 0, 195, 78, 45, 198, 0, 14, 42, 180, 0, 12, 28, 182, 0, 179, 154, 0, 5, 2, 172, 42, 187, 0, 40, 89, 5, 45, 180, 0]
theorem kX11_field_0 (j : Nat) {b : UInt8} (hj : bX11_field_0[j]? = some b) : AtB cX11_field (0 + j) b := at_of32 (by decide +kernel) j hj
def bX11_field_1 : List UInt8 := [173, 28, 2, 27, 183, 0, 162, 182, 0, 165, 172]
theorem kX11_field_1 (j : Nat) {b : UInt8} (hj : bX11_field_1[j]? = some b) : AtB cX11_field (32 + j) b := at_of32 (by decide +kernel) j hj
theorem dX11_field_0 : decode cX11_field 0 = .ok (.aload_n 0, 1) := dq_42 (kX11_field_0 0 rfl)
theorem dX11_field_1 : decode cX11_field 1 = .ok (.iload_n 1, 1) := dq_27 (kX11_field_0 1 rfl)
theorem dX11_field_2 : decode cX11_field 2 = .ok (.invokevirtual 195, 3) := dq_182 (kX11_field_0 2 rfl) (kX11_field_0 3 rfl) (kX11_field_0 4 rfl) rfl
theorem dX11_field_5 : decode cX11_field 5 = .ok (.astore_n 3, 1) := dq_78 (kX11_field_0 5 rfl)
theorem dX11_field_6 : decode cX11_field 6 = .ok (.aload_n 3, 1) := dq_45 (kX11_field_0 6 rfl)
theorem dX11_field_7 : decode cX11_field 7 = .ok (.ifnull 14, 3) := dq_198 (kX11_field_0 7 rfl) (kX11_field_0 8 rfl) (kX11_field_0 9 rfl) (by decide)
theorem dX11_field_10 : decode cX11_field 10 = .ok (.aload_n 0, 1) := dq_42 (kX11_field_0 10 rfl)
theorem dX11_field_11 : decode cX11_field 11 = .ok (.getfield 12, 3) := dq_180 (kX11_field_0 11 rfl) (kX11_field_0 12 rfl) (kX11_field_0 13 rfl) rfl
theorem dX11_field_14 : decode cX11_field 14 = .ok (.iload_n 2, 1) := dq_28 (kX11_field_0 14 rfl)
theorem dX11_field_15 : decode cX11_field 15 = .ok (.invokevirtual 179, 3) := dq_182 (kX11_field_0 15 rfl) (kX11_field_0 16 rfl) (kX11_field_0 17 rfl) rfl
theorem dX11_field_18 : decode cX11_field 18 = .ok (.ifCond .ne 5, 3) := dq_154 (kX11_field_0 18 rfl) (kX11_field_0 19 rfl) (kX11_field_0 20 rfl) (by decide)
theorem dX11_field_21 : decode cX11_field 21 = .ok (.iconst (-1), 1) := dq_2 (kX11_field_0 21 rfl)
theorem dX11_field_22 : decode cX11_field 22 = .ok (.ireturn, 1) := dq_172 (kX11_field_0 22 rfl)
theorem dX11_field_23 : decode cX11_field 23 = .ok (.aload_n 0, 1) := dq_42 (kX11_field_0 23 rfl)
theorem dX11_field_24 : decode cX11_field 24 = .ok (.new 40, 3) := dq_187 (kX11_field_0 24 rfl) (kX11_field_0 25 rfl) (kX11_field_0 26 rfl) rfl
theorem dX11_field_27 : decode cX11_field 27 = .ok (.dup, 1) := dq_89 (kX11_field_0 27 rfl)
theorem dX11_field_28 : decode cX11_field 28 = .ok (.iconst 2, 1) := dq_5 (kX11_field_0 28 rfl)
theorem dX11_field_29 : decode cX11_field 29 = .ok (.aload_n 3, 1) := dq_45 (kX11_field_0 29 rfl)
theorem dX11_field_30 : decode cX11_field 30 = .ok (.getfield 173, 3) := dq_180 (kX11_field_0 30 rfl) (kX11_field_0 31 rfl) (kX11_field_1 0 rfl) rfl
theorem dX11_field_33 : decode cX11_field 33 = .ok (.iload_n 2, 1) := dq_28 (kX11_field_1 1 rfl)
theorem dX11_field_34 : decode cX11_field 34 = .ok (.iconst (-1), 1) := dq_2 (kX11_field_1 2 rfl)
theorem dX11_field_35 : decode cX11_field 35 = .ok (.iload_n 1, 1) := dq_27 (kX11_field_1 3 rfl)
theorem dX11_field_36 : decode cX11_field 36 = .ok (.invokespecial 162, 3) := dq_183 (kX11_field_1 4 rfl) (kX11_field_1 5 rfl) (kX11_field_1 6 rfl) rfl
theorem dX11_field_39 : decode cX11_field 39 = .ok (.invokevirtual 165, 3) := dq_182 (kX11_field_1 7 rfl) (kX11_field_1 8 rfl) (kX11_field_1 9 rfl) rfl
theorem dX11_field_42 : decode cX11_field 42 = .ok (.ireturn, 1) := dq_172 (kX11_field_1 10 rfl)

def bX11_reserve_0 : List UInt8 := [42, 180, 0, 12, 27, 28, 182, 0, 155, 153, 0, 13, 29, 4, 16, 9, 184, 0, 112, 154, 0, 5, 2, 172, 42, 187, 0, 40, 89, 6, 2, 27]
theorem kX11_reserve_0 (j : Nat) {b : UInt8} (hj : bX11_reserve_0[j]? = some b) : AtB cX11_reserve (0 + j) b := at_of32 (by decide +kernel) j hj
def bX11_reserve_1 : List UInt8 := [28, 29, 183, 0, 162, 182, 0, 165, 172]
theorem kX11_reserve_1 (j : Nat) {b : UInt8} (hj : bX11_reserve_1[j]? = some b) : AtB cX11_reserve (32 + j) b := at_of32 (by decide +kernel) j hj
theorem dX11_reserve_0 : decode cX11_reserve 0 = .ok (.aload_n 0, 1) := dq_42 (kX11_reserve_0 0 rfl)
theorem dX11_reserve_1 : decode cX11_reserve 1 = .ok (.getfield 12, 3) := dq_180 (kX11_reserve_0 1 rfl) (kX11_reserve_0 2 rfl) (kX11_reserve_0 3 rfl) rfl
theorem dX11_reserve_4 : decode cX11_reserve 4 = .ok (.iload_n 1, 1) := dq_27 (kX11_reserve_0 4 rfl)
theorem dX11_reserve_5 : decode cX11_reserve 5 = .ok (.iload_n 2, 1) := dq_28 (kX11_reserve_0 5 rfl)
theorem dX11_reserve_6 : decode cX11_reserve 6 = .ok (.invokevirtual 155, 3) := dq_182 (kX11_reserve_0 6 rfl) (kX11_reserve_0 7 rfl) (kX11_reserve_0 8 rfl) rfl
theorem dX11_reserve_9 : decode cX11_reserve 9 = .ok (.ifCond .eq 13, 3) := dq_153 (kX11_reserve_0 9 rfl) (kX11_reserve_0 10 rfl) (kX11_reserve_0 11 rfl) (by decide)
theorem dX11_reserve_12 : decode cX11_reserve 12 = .ok (.iload_n 3, 1) := dq_29 (kX11_reserve_0 12 rfl)
theorem dX11_reserve_13 : decode cX11_reserve 13 = .ok (.iconst 1, 1) := dq_4 (kX11_reserve_0 13 rfl)
theorem dX11_reserve_14 : decode cX11_reserve 14 = .ok (.bipush 9, 2) := dq_16 (kX11_reserve_0 14 rfl) (kX11_reserve_0 15 rfl) (by decide)
theorem dX11_reserve_16 : decode cX11_reserve 16 = .ok (.invokestatic 112, 3) := dq_184 (kX11_reserve_0 16 rfl) (kX11_reserve_0 17 rfl) (kX11_reserve_0 18 rfl) rfl
theorem dX11_reserve_19 : decode cX11_reserve 19 = .ok (.ifCond .ne 5, 3) := dq_154 (kX11_reserve_0 19 rfl) (kX11_reserve_0 20 rfl) (kX11_reserve_0 21 rfl) (by decide)
theorem dX11_reserve_22 : decode cX11_reserve 22 = .ok (.iconst (-1), 1) := dq_2 (kX11_reserve_0 22 rfl)
theorem dX11_reserve_23 : decode cX11_reserve 23 = .ok (.ireturn, 1) := dq_172 (kX11_reserve_0 23 rfl)
theorem dX11_reserve_24 : decode cX11_reserve 24 = .ok (.aload_n 0, 1) := dq_42 (kX11_reserve_0 24 rfl)
theorem dX11_reserve_25 : decode cX11_reserve 25 = .ok (.new 40, 3) := dq_187 (kX11_reserve_0 25 rfl) (kX11_reserve_0 26 rfl) (kX11_reserve_0 27 rfl) rfl
theorem dX11_reserve_28 : decode cX11_reserve 28 = .ok (.dup, 1) := dq_89 (kX11_reserve_0 28 rfl)
theorem dX11_reserve_29 : decode cX11_reserve 29 = .ok (.iconst 3, 1) := dq_6 (kX11_reserve_0 29 rfl)
theorem dX11_reserve_30 : decode cX11_reserve 30 = .ok (.iconst (-1), 1) := dq_2 (kX11_reserve_0 30 rfl)
theorem dX11_reserve_31 : decode cX11_reserve 31 = .ok (.iload_n 1, 1) := dq_27 (kX11_reserve_0 31 rfl)
theorem dX11_reserve_32 : decode cX11_reserve 32 = .ok (.iload_n 2, 1) := dq_28 (kX11_reserve_1 0 rfl)
theorem dX11_reserve_33 : decode cX11_reserve 33 = .ok (.iload_n 3, 1) := dq_29 (kX11_reserve_1 1 rfl)
theorem dX11_reserve_34 : decode cX11_reserve 34 = .ok (.invokespecial 162, 3) := dq_183 (kX11_reserve_1 2 rfl) (kX11_reserve_1 3 rfl) (kX11_reserve_1 4 rfl) rfl
theorem dX11_reserve_37 : decode cX11_reserve 37 = .ok (.invokevirtual 165, 3) := dq_182 (kX11_reserve_1 5 rfl) (kX11_reserve_1 6 rfl) (kX11_reserve_1 7 rfl) rfl
theorem dX11_reserve_40 : decode cX11_reserve 40 = .ok (.ireturn, 1) := dq_172 (kX11_reserve_1 8 rfl)

def bX11_site_0 : List UInt8 := [42, 180, 0, 12, 27, 182, 0, 119, 154, 0, 5, 2, 172, 42, 187, 0, 40, 89, 28, 153, 0, 7, 8, 167, 0, 4, 7, 2, 27, 2, 2, 183]
theorem kX11_site_0 (j : Nat) {b : UInt8} (hj : bX11_site_0[j]? = some b) : AtB cX11_site (0 + j) b := at_of32 (by decide +kernel) j hj
def bX11_site_1 : List UInt8 := [0, 162, 182, 0, 165, 172]
theorem kX11_site_1 (j : Nat) {b : UInt8} (hj : bX11_site_1[j]? = some b) : AtB cX11_site (32 + j) b := at_of32 (by decide +kernel) j hj
theorem dX11_site_0 : decode cX11_site 0 = .ok (.aload_n 0, 1) := dq_42 (kX11_site_0 0 rfl)
theorem dX11_site_1 : decode cX11_site 1 = .ok (.getfield 12, 3) := dq_180 (kX11_site_0 1 rfl) (kX11_site_0 2 rfl) (kX11_site_0 3 rfl) rfl
theorem dX11_site_4 : decode cX11_site 4 = .ok (.iload_n 1, 1) := dq_27 (kX11_site_0 4 rfl)
theorem dX11_site_5 : decode cX11_site 5 = .ok (.invokevirtual 119, 3) := dq_182 (kX11_site_0 5 rfl) (kX11_site_0 6 rfl) (kX11_site_0 7 rfl) rfl
theorem dX11_site_8 : decode cX11_site 8 = .ok (.ifCond .ne 5, 3) := dq_154 (kX11_site_0 8 rfl) (kX11_site_0 9 rfl) (kX11_site_0 10 rfl) (by decide)
theorem dX11_site_11 : decode cX11_site 11 = .ok (.iconst (-1), 1) := dq_2 (kX11_site_0 11 rfl)
theorem dX11_site_12 : decode cX11_site 12 = .ok (.ireturn, 1) := dq_172 (kX11_site_0 12 rfl)
theorem dX11_site_13 : decode cX11_site 13 = .ok (.aload_n 0, 1) := dq_42 (kX11_site_0 13 rfl)
theorem dX11_site_14 : decode cX11_site 14 = .ok (.new 40, 3) := dq_187 (kX11_site_0 14 rfl) (kX11_site_0 15 rfl) (kX11_site_0 16 rfl) rfl
theorem dX11_site_17 : decode cX11_site 17 = .ok (.dup, 1) := dq_89 (kX11_site_0 17 rfl)
theorem dX11_site_18 : decode cX11_site 18 = .ok (.iload_n 2, 1) := dq_28 (kX11_site_0 18 rfl)
theorem dX11_site_19 : decode cX11_site 19 = .ok (.ifCond .eq 7, 3) := dq_153 (kX11_site_0 19 rfl) (kX11_site_0 20 rfl) (kX11_site_0 21 rfl) (by decide)
theorem dX11_site_22 : decode cX11_site 22 = .ok (.iconst 5, 1) := dq_8 (kX11_site_0 22 rfl)
theorem dX11_site_23 : decode cX11_site 23 = .ok (.goto 4, 3) := dq_167 (kX11_site_0 23 rfl) (kX11_site_0 24 rfl) (kX11_site_0 25 rfl) (by decide)
theorem dX11_site_26 : decode cX11_site 26 = .ok (.iconst 4, 1) := dq_7 (kX11_site_0 26 rfl)
theorem dX11_site_27 : decode cX11_site 27 = .ok (.iconst (-1), 1) := dq_2 (kX11_site_0 27 rfl)
theorem dX11_site_28 : decode cX11_site 28 = .ok (.iload_n 1, 1) := dq_27 (kX11_site_0 28 rfl)
theorem dX11_site_29 : decode cX11_site 29 = .ok (.iconst (-1), 1) := dq_2 (kX11_site_0 29 rfl)
theorem dX11_site_30 : decode cX11_site 30 = .ok (.iconst (-1), 1) := dq_2 (kX11_site_0 30 rfl)
theorem dX11_site_31 : decode cX11_site 31 = .ok (.invokespecial 162, 3) := dq_183 (kX11_site_0 31 rfl) (kX11_site_1 0 rfl) (kX11_site_1 1 rfl) rfl
theorem dX11_site_34 : decode cX11_site 34 = .ok (.invokevirtual 165, 3) := dq_182 (kX11_site_1 2 rfl) (kX11_site_1 3 rfl) (kX11_site_1 4 rfl) rfl
theorem dX11_site_37 : decode cX11_site 37 = .ok (.ireturn, 1) := dq_172 (kX11_site_1 5 rfl)

def bX11_settle_0 : List UInt8 := [42, 180, 0, 46, 42, 180, 0, 42, 190, 161, 0, 5, 2, 172, 42, 180, 0, 42, 42, 180, 0, 46, 43, 83, 42, 89, 180, 0, 46, 90, 4, 96]
theorem kX11_settle_0 (j : Nat) {b : UInt8} (hj : bX11_settle_0[j]? = some b) : AtB cX11_settle (0 + j) b := at_of32 (by decide +kernel) j hj
def bX11_settle_1 : List UInt8 := [181, 0, 46, 172]
theorem kX11_settle_1 (j : Nat) {b : UInt8} (hj : bX11_settle_1[j]? = some b) : AtB cX11_settle (32 + j) b := at_of32 (by decide +kernel) j hj
theorem dX11_settle_0 : decode cX11_settle 0 = .ok (.aload_n 0, 1) := dq_42 (kX11_settle_0 0 rfl)
theorem dX11_settle_1 : decode cX11_settle 1 = .ok (.getfield 46, 3) := dq_180 (kX11_settle_0 1 rfl) (kX11_settle_0 2 rfl) (kX11_settle_0 3 rfl) rfl
theorem dX11_settle_4 : decode cX11_settle 4 = .ok (.aload_n 0, 1) := dq_42 (kX11_settle_0 4 rfl)
theorem dX11_settle_5 : decode cX11_settle 5 = .ok (.getfield 42, 3) := dq_180 (kX11_settle_0 5 rfl) (kX11_settle_0 6 rfl) (kX11_settle_0 7 rfl) rfl
theorem dX11_settle_8 : decode cX11_settle 8 = .ok (.arraylength, 1) := dq_190 (kX11_settle_0 8 rfl)
theorem dX11_settle_9 : decode cX11_settle 9 = .ok (.if_icmp .lt 5, 3) := dq_161 (kX11_settle_0 9 rfl) (kX11_settle_0 10 rfl) (kX11_settle_0 11 rfl) (by decide)
theorem dX11_settle_12 : decode cX11_settle 12 = .ok (.iconst (-1), 1) := dq_2 (kX11_settle_0 12 rfl)
theorem dX11_settle_13 : decode cX11_settle 13 = .ok (.ireturn, 1) := dq_172 (kX11_settle_0 13 rfl)
theorem dX11_settle_14 : decode cX11_settle 14 = .ok (.aload_n 0, 1) := dq_42 (kX11_settle_0 14 rfl)
theorem dX11_settle_15 : decode cX11_settle 15 = .ok (.getfield 42, 3) := dq_180 (kX11_settle_0 15 rfl) (kX11_settle_0 16 rfl) (kX11_settle_0 17 rfl) rfl
theorem dX11_settle_18 : decode cX11_settle 18 = .ok (.aload_n 0, 1) := dq_42 (kX11_settle_0 18 rfl)
theorem dX11_settle_19 : decode cX11_settle 19 = .ok (.getfield 46, 3) := dq_180 (kX11_settle_0 19 rfl) (kX11_settle_0 20 rfl) (kX11_settle_0 21 rfl) rfl
theorem dX11_settle_22 : decode cX11_settle 22 = .ok (.aload_n 1, 1) := dq_43 (kX11_settle_0 22 rfl)
theorem dX11_settle_23 : decode cX11_settle 23 = .ok (.aastore, 1) := dq_83 (kX11_settle_0 23 rfl)
theorem dX11_settle_24 : decode cX11_settle 24 = .ok (.aload_n 0, 1) := dq_42 (kX11_settle_0 24 rfl)
theorem dX11_settle_25 : decode cX11_settle 25 = .ok (.dup, 1) := dq_89 (kX11_settle_0 25 rfl)
theorem dX11_settle_26 : decode cX11_settle 26 = .ok (.getfield 46, 3) := dq_180 (kX11_settle_0 26 rfl) (kX11_settle_0 27 rfl) (kX11_settle_0 28 rfl) rfl
theorem dX11_settle_29 : decode cX11_settle 29 = .ok (.dup_x1, 1) := dq_90 (kX11_settle_0 29 rfl)
theorem dX11_settle_30 : decode cX11_settle 30 = .ok (.iconst 1, 1) := dq_4 (kX11_settle_0 30 rfl)
theorem dX11_settle_31 : decode cX11_settle 31 = .ok (.iadd, 1) := dq_96 (kX11_settle_0 31 rfl)
theorem dX11_settle_32 : decode cX11_settle 32 = .ok (.putfield 46, 3) := dq_181 (kX11_settle_1 0 rfl) (kX11_settle_1 1 rfl) (kX11_settle_1 2 rfl) rfl
theorem dX11_settle_35 : decode cX11_settle 35 = .ok (.ireturn, 1) := dq_172 (kX11_settle_1 3 rfl)

def bX11_feed_0 : List UInt8 := [42, 180, 0, 91, 180, 0, 199, 16, 20, 96, 17, 1, 144, 164, 0, 5, 2, 172, 42, 27, 182, 0, 202, 42, 28, 182, 0, 202, 42, 29, 182, 0]
theorem kX11_feed_0 (j : Nat) {b : UInt8} (hj : bX11_feed_0[j]? = some b) : AtB cX11_feed (0 + j) b := at_of32 (by decide +kernel) j hj
def bX11_feed_1 : List UInt8 := [202, 42, 21, 4, 182, 0, 202, 42, 21, 5, 182, 0, 202, 42, 180, 0, 91, 180, 0, 199, 172]
theorem kX11_feed_1 (j : Nat) {b : UInt8} (hj : bX11_feed_1[j]? = some b) : AtB cX11_feed (32 + j) b := at_of32 (by decide +kernel) j hj
theorem dX11_feed_0 : decode cX11_feed 0 = .ok (.aload_n 0, 1) := dq_42 (kX11_feed_0 0 rfl)
theorem dX11_feed_1 : decode cX11_feed 1 = .ok (.getfield 91, 3) := dq_180 (kX11_feed_0 1 rfl) (kX11_feed_0 2 rfl) (kX11_feed_0 3 rfl) rfl
theorem dX11_feed_4 : decode cX11_feed 4 = .ok (.getfield 199, 3) := dq_180 (kX11_feed_0 4 rfl) (kX11_feed_0 5 rfl) (kX11_feed_0 6 rfl) rfl
theorem dX11_feed_7 : decode cX11_feed 7 = .ok (.bipush 20, 2) := dq_16 (kX11_feed_0 7 rfl) (kX11_feed_0 8 rfl) (by decide)
theorem dX11_feed_9 : decode cX11_feed 9 = .ok (.iadd, 1) := dq_96 (kX11_feed_0 9 rfl)
theorem dX11_feed_10 : decode cX11_feed 10 = .ok (.sipush 400, 3) := dq_17 (kX11_feed_0 10 rfl) (kX11_feed_0 11 rfl) (kX11_feed_0 12 rfl) (by decide)
theorem dX11_feed_13 : decode cX11_feed 13 = .ok (.if_icmp .le 5, 3) := dq_164 (kX11_feed_0 13 rfl) (kX11_feed_0 14 rfl) (kX11_feed_0 15 rfl) (by decide)
theorem dX11_feed_16 : decode cX11_feed 16 = .ok (.iconst (-1), 1) := dq_2 (kX11_feed_0 16 rfl)
theorem dX11_feed_17 : decode cX11_feed 17 = .ok (.ireturn, 1) := dq_172 (kX11_feed_0 17 rfl)
theorem dX11_feed_18 : decode cX11_feed 18 = .ok (.aload_n 0, 1) := dq_42 (kX11_feed_0 18 rfl)
theorem dX11_feed_19 : decode cX11_feed 19 = .ok (.iload_n 1, 1) := dq_27 (kX11_feed_0 19 rfl)
theorem dX11_feed_20 : decode cX11_feed 20 = .ok (.invokevirtual 202, 3) := dq_182 (kX11_feed_0 20 rfl) (kX11_feed_0 21 rfl) (kX11_feed_0 22 rfl) rfl
theorem dX11_feed_23 : decode cX11_feed 23 = .ok (.aload_n 0, 1) := dq_42 (kX11_feed_0 23 rfl)
theorem dX11_feed_24 : decode cX11_feed 24 = .ok (.iload_n 2, 1) := dq_28 (kX11_feed_0 24 rfl)
theorem dX11_feed_25 : decode cX11_feed 25 = .ok (.invokevirtual 202, 3) := dq_182 (kX11_feed_0 25 rfl) (kX11_feed_0 26 rfl) (kX11_feed_0 27 rfl) rfl
theorem dX11_feed_28 : decode cX11_feed 28 = .ok (.aload_n 0, 1) := dq_42 (kX11_feed_0 28 rfl)
theorem dX11_feed_29 : decode cX11_feed 29 = .ok (.iload_n 3, 1) := dq_29 (kX11_feed_0 29 rfl)
theorem dX11_feed_30 : decode cX11_feed 30 = .ok (.invokevirtual 202, 3) := dq_182 (kX11_feed_0 30 rfl) (kX11_feed_0 31 rfl) (kX11_feed_1 0 rfl) rfl
theorem dX11_feed_33 : decode cX11_feed 33 = .ok (.aload_n 0, 1) := dq_42 (kX11_feed_1 1 rfl)
theorem dX11_feed_34 : decode cX11_feed 34 = .ok (.iload 4, 2) := dq_21 (kX11_feed_1 2 rfl) (kX11_feed_1 3 rfl) rfl
theorem dX11_feed_36 : decode cX11_feed 36 = .ok (.invokevirtual 202, 3) := dq_182 (kX11_feed_1 4 rfl) (kX11_feed_1 5 rfl) (kX11_feed_1 6 rfl) rfl
theorem dX11_feed_39 : decode cX11_feed 39 = .ok (.aload_n 0, 1) := dq_42 (kX11_feed_1 7 rfl)
theorem dX11_feed_40 : decode cX11_feed 40 = .ok (.iload 5, 2) := dq_21 (kX11_feed_1 8 rfl) (kX11_feed_1 9 rfl) rfl
theorem dX11_feed_42 : decode cX11_feed 42 = .ok (.invokevirtual 202, 3) := dq_182 (kX11_feed_1 10 rfl) (kX11_feed_1 11 rfl) (kX11_feed_1 12 rfl) rfl
theorem dX11_feed_45 : decode cX11_feed 45 = .ok (.aload_n 0, 1) := dq_42 (kX11_feed_1 13 rfl)
theorem dX11_feed_46 : decode cX11_feed 46 = .ok (.getfield 91, 3) := dq_180 (kX11_feed_1 14 rfl) (kX11_feed_1 15 rfl) (kX11_feed_1 16 rfl) rfl
theorem dX11_feed_49 : decode cX11_feed 49 = .ok (.getfield 199, 3) := dq_180 (kX11_feed_1 17 rfl) (kX11_feed_1 18 rfl) (kX11_feed_1 19 rfl) rfl
theorem dX11_feed_52 : decode cX11_feed 52 = .ok (.ireturn, 1) := dq_172 (kX11_feed_1 20 rfl)

def bX11_feedNumber_0 : List UInt8 := [16, 24, 61, 28, 155, 0, 28, 42, 180, 0, 91, 27, 28, 122, 17, 0, 255, 126, 3, 3, 3, 3, 182, 0, 205, 87, 132, 2, 248, 167, 255, 230]
theorem kX11_feedNumber_0 (j : Nat) {b : UInt8} (hj : bX11_feedNumber_0[j]? = some b) : AtB cX11_feedNumber (0 + j) b := at_of32 (by decide +kernel) j hj
def bX11_feedNumber_1 : List UInt8 := [177]
theorem kX11_feedNumber_1 (j : Nat) {b : UInt8} (hj : bX11_feedNumber_1[j]? = some b) : AtB cX11_feedNumber (32 + j) b := at_of32 (by decide +kernel) j hj
theorem dX11_feedNumber_0 : decode cX11_feedNumber 0 = .ok (.bipush 24, 2) := dq_16 (kX11_feedNumber_0 0 rfl) (kX11_feedNumber_0 1 rfl) (by decide)
theorem dX11_feedNumber_2 : decode cX11_feedNumber 2 = .ok (.istore_n 2, 1) := dq_61 (kX11_feedNumber_0 2 rfl)
theorem dX11_feedNumber_3 : decode cX11_feedNumber 3 = .ok (.iload_n 2, 1) := dq_28 (kX11_feedNumber_0 3 rfl)
theorem dX11_feedNumber_4 : decode cX11_feedNumber 4 = .ok (.ifCond .lt 28, 3) := dq_155 (kX11_feedNumber_0 4 rfl) (kX11_feedNumber_0 5 rfl) (kX11_feedNumber_0 6 rfl) (by decide)
theorem dX11_feedNumber_7 : decode cX11_feedNumber 7 = .ok (.aload_n 0, 1) := dq_42 (kX11_feedNumber_0 7 rfl)
theorem dX11_feedNumber_8 : decode cX11_feedNumber 8 = .ok (.getfield 91, 3) := dq_180 (kX11_feedNumber_0 8 rfl) (kX11_feedNumber_0 9 rfl) (kX11_feedNumber_0 10 rfl) rfl
theorem dX11_feedNumber_11 : decode cX11_feedNumber 11 = .ok (.iload_n 1, 1) := dq_27 (kX11_feedNumber_0 11 rfl)
theorem dX11_feedNumber_12 : decode cX11_feedNumber 12 = .ok (.iload_n 2, 1) := dq_28 (kX11_feedNumber_0 12 rfl)
theorem dX11_feedNumber_13 : decode cX11_feedNumber 13 = .ok (.ishr, 1) := dq_122 (kX11_feedNumber_0 13 rfl)
theorem dX11_feedNumber_14 : decode cX11_feedNumber 14 = .ok (.sipush 255, 3) := dq_17 (kX11_feedNumber_0 14 rfl) (kX11_feedNumber_0 15 rfl) (kX11_feedNumber_0 16 rfl) (by decide)
theorem dX11_feedNumber_17 : decode cX11_feedNumber 17 = .ok (.iand, 1) := dq_126 (kX11_feedNumber_0 17 rfl)
theorem dX11_feedNumber_18 : decode cX11_feedNumber 18 = .ok (.iconst 0, 1) := dq_3 (kX11_feedNumber_0 18 rfl)
theorem dX11_feedNumber_19 : decode cX11_feedNumber 19 = .ok (.iconst 0, 1) := dq_3 (kX11_feedNumber_0 19 rfl)
theorem dX11_feedNumber_20 : decode cX11_feedNumber 20 = .ok (.iconst 0, 1) := dq_3 (kX11_feedNumber_0 20 rfl)
theorem dX11_feedNumber_21 : decode cX11_feedNumber 21 = .ok (.iconst 0, 1) := dq_3 (kX11_feedNumber_0 21 rfl)
theorem dX11_feedNumber_22 : decode cX11_feedNumber 22 = .ok (.invokevirtual 205, 3) := dq_182 (kX11_feedNumber_0 22 rfl) (kX11_feedNumber_0 23 rfl) (kX11_feedNumber_0 24 rfl) rfl
theorem dX11_feedNumber_25 : decode cX11_feedNumber 25 = .ok (.pop, 1) := dq_87 (kX11_feedNumber_0 25 rfl)
theorem dX11_feedNumber_26 : decode cX11_feedNumber 26 = .ok (.iinc 2 (-8), 3) := dq_132 (kX11_feedNumber_0 26 rfl) (kX11_feedNumber_0 27 rfl) (kX11_feedNumber_0 28 rfl) rfl (by decide)
theorem dX11_feedNumber_29 : decode cX11_feedNumber 29 = .ok (.goto (-26), 3) := dq_167 (kX11_feedNumber_0 29 rfl) (kX11_feedNumber_0 30 rfl) (kX11_feedNumber_0 31 rfl) (by decide)
theorem dX11_feedNumber_32 : decode cX11_feedNumber 32 = .ok (.return_, 1) := dq_177 (kX11_feedNumber_1 0 rfl)

def bX11_fedNumber_0 : List UInt8 := [3, 61, 3, 62, 29, 7, 162, 0, 28, 28, 16, 8, 120, 42, 180, 0, 91, 7, 27, 104, 29, 96, 3, 182, 0, 209, 128, 61, 132, 3, 1, 167]
theorem kX11_fedNumber_0 (j : Nat) {b : UInt8} (hj : bX11_fedNumber_0[j]? = some b) : AtB cX11_fedNumber (0 + j) b := at_of32 (by decide +kernel) j hj
def bX11_fedNumber_1 : List UInt8 := [255, 229, 28, 172]
theorem kX11_fedNumber_1 (j : Nat) {b : UInt8} (hj : bX11_fedNumber_1[j]? = some b) : AtB cX11_fedNumber (32 + j) b := at_of32 (by decide +kernel) j hj
theorem dX11_fedNumber_0 : decode cX11_fedNumber 0 = .ok (.iconst 0, 1) := dq_3 (kX11_fedNumber_0 0 rfl)
theorem dX11_fedNumber_1 : decode cX11_fedNumber 1 = .ok (.istore_n 2, 1) := dq_61 (kX11_fedNumber_0 1 rfl)
theorem dX11_fedNumber_2 : decode cX11_fedNumber 2 = .ok (.iconst 0, 1) := dq_3 (kX11_fedNumber_0 2 rfl)
theorem dX11_fedNumber_3 : decode cX11_fedNumber 3 = .ok (.istore_n 3, 1) := dq_62 (kX11_fedNumber_0 3 rfl)
theorem dX11_fedNumber_4 : decode cX11_fedNumber 4 = .ok (.iload_n 3, 1) := dq_29 (kX11_fedNumber_0 4 rfl)
theorem dX11_fedNumber_5 : decode cX11_fedNumber 5 = .ok (.iconst 4, 1) := dq_7 (kX11_fedNumber_0 5 rfl)
theorem dX11_fedNumber_6 : decode cX11_fedNumber 6 = .ok (.if_icmp .ge 28, 3) := dq_162 (kX11_fedNumber_0 6 rfl) (kX11_fedNumber_0 7 rfl) (kX11_fedNumber_0 8 rfl) (by decide)
theorem dX11_fedNumber_9 : decode cX11_fedNumber 9 = .ok (.iload_n 2, 1) := dq_28 (kX11_fedNumber_0 9 rfl)
theorem dX11_fedNumber_10 : decode cX11_fedNumber 10 = .ok (.bipush 8, 2) := dq_16 (kX11_fedNumber_0 10 rfl) (kX11_fedNumber_0 11 rfl) (by decide)
theorem dX11_fedNumber_12 : decode cX11_fedNumber 12 = .ok (.ishl, 1) := dq_120 (kX11_fedNumber_0 12 rfl)
theorem dX11_fedNumber_13 : decode cX11_fedNumber 13 = .ok (.aload_n 0, 1) := dq_42 (kX11_fedNumber_0 13 rfl)
theorem dX11_fedNumber_14 : decode cX11_fedNumber 14 = .ok (.getfield 91, 3) := dq_180 (kX11_fedNumber_0 14 rfl) (kX11_fedNumber_0 15 rfl) (kX11_fedNumber_0 16 rfl) rfl
theorem dX11_fedNumber_17 : decode cX11_fedNumber 17 = .ok (.iconst 4, 1) := dq_7 (kX11_fedNumber_0 17 rfl)
theorem dX11_fedNumber_18 : decode cX11_fedNumber 18 = .ok (.iload_n 1, 1) := dq_27 (kX11_fedNumber_0 18 rfl)
theorem dX11_fedNumber_19 : decode cX11_fedNumber 19 = .ok (.imul, 1) := dq_104 (kX11_fedNumber_0 19 rfl)
theorem dX11_fedNumber_20 : decode cX11_fedNumber 20 = .ok (.iload_n 3, 1) := dq_29 (kX11_fedNumber_0 20 rfl)
theorem dX11_fedNumber_21 : decode cX11_fedNumber 21 = .ok (.iadd, 1) := dq_96 (kX11_fedNumber_0 21 rfl)
theorem dX11_fedNumber_22 : decode cX11_fedNumber 22 = .ok (.iconst 0, 1) := dq_3 (kX11_fedNumber_0 22 rfl)
theorem dX11_fedNumber_23 : decode cX11_fedNumber 23 = .ok (.invokevirtual 209, 3) := dq_182 (kX11_fedNumber_0 23 rfl) (kX11_fedNumber_0 24 rfl) (kX11_fedNumber_0 25 rfl) rfl
theorem dX11_fedNumber_26 : decode cX11_fedNumber 26 = .ok (.ior, 1) := dq_128 (kX11_fedNumber_0 26 rfl)
theorem dX11_fedNumber_27 : decode cX11_fedNumber 27 = .ok (.istore_n 2, 1) := dq_61 (kX11_fedNumber_0 27 rfl)
theorem dX11_fedNumber_28 : decode cX11_fedNumber 28 = .ok (.iinc 3 1, 3) := dq_132 (kX11_fedNumber_0 28 rfl) (kX11_fedNumber_0 29 rfl) (kX11_fedNumber_0 30 rfl) rfl (by decide)
theorem dX11_fedNumber_31 : decode cX11_fedNumber 31 = .ok (.goto (-27), 3) := dq_167 (kX11_fedNumber_0 31 rfl) (kX11_fedNumber_1 0 rfl) (kX11_fedNumber_1 1 rfl) (by decide)
theorem dX11_fedNumber_34 : decode cX11_fedNumber 34 = .ok (.iload_n 2, 1) := dq_28 (kX11_fedNumber_1 2 rfl)
theorem dX11_fedNumber_35 : decode cX11_fedNumber 35 = .ok (.ireturn, 1) := dq_172 (kX11_fedNumber_1 3 rfl)

def bX11_text_0 : List UInt8 := [27, 28, 184, 0, 213, 153, 0, 37, 29, 4, 17, 0, 200, 184, 0, 112, 153, 0, 26, 42, 180, 0, 19, 180, 0, 216, 16, 20, 162, 0, 14, 29]
theorem kX11_text_0 (j : Nat) {b : UInt8} (hj : bX11_text_0[j]? = some b) : AtB cX11_text (0 + j) b := at_of32 (by decide +kernel) j hj
def bX11_text_1 : List UInt8 := [42, 180, 0, 91, 180, 0, 199, 164, 0, 5, 2, 172, 187, 0, 219, 89, 27, 28, 29, 16, 12, 183, 0, 221, 58, 4, 187, 0, 224, 89, 42, 180]
theorem kX11_text_1 (j : Nat) {b : UInt8} (hj : bX11_text_1[j]? = some b) : AtB cX11_text (32 + j) b := at_of32 (by decide +kernel) j hj
def bX11_text_2 : List UInt8 := [0, 91, 180, 0, 226, 29, 25, 4, 183, 0, 229, 58, 5, 25, 5, 182, 0, 232, 42, 180, 0, 91, 3, 181, 0, 199, 25, 5, 180, 0, 235, 153]
theorem kX11_text_2 (j : Nat) {b : UInt8} (hj : bX11_text_2[j]? = some b) : AtB cX11_text (64 + j) b := at_of32 (by decide +kernel) j hj
def bX11_text_3 : List UInt8 := [0, 11, 25, 5, 182, 0, 238, 167, 0, 12, 42, 180, 0, 19, 25, 4, 182, 0, 242, 172]
theorem kX11_text_3 (j : Nat) {b : UInt8} (hj : bX11_text_3[j]? = some b) : AtB cX11_text (96 + j) b := at_of32 (by decide +kernel) j hj
theorem dX11_text_0 : decode cX11_text 0 = .ok (.iload_n 1, 1) := dq_27 (kX11_text_0 0 rfl)
theorem dX11_text_1 : decode cX11_text 1 = .ok (.iload_n 2, 1) := dq_28 (kX11_text_0 1 rfl)
theorem dX11_text_2 : decode cX11_text 2 = .ok (.invokestatic 213, 3) := dq_184 (kX11_text_0 2 rfl) (kX11_text_0 3 rfl) (kX11_text_0 4 rfl) rfl
theorem dX11_text_5 : decode cX11_text 5 = .ok (.ifCond .eq 37, 3) := dq_153 (kX11_text_0 5 rfl) (kX11_text_0 6 rfl) (kX11_text_0 7 rfl) (by decide)
theorem dX11_text_8 : decode cX11_text 8 = .ok (.iload_n 3, 1) := dq_29 (kX11_text_0 8 rfl)
theorem dX11_text_9 : decode cX11_text 9 = .ok (.iconst 1, 1) := dq_4 (kX11_text_0 9 rfl)
theorem dX11_text_10 : decode cX11_text 10 = .ok (.sipush 200, 3) := dq_17 (kX11_text_0 10 rfl) (kX11_text_0 11 rfl) (kX11_text_0 12 rfl) (by decide)
theorem dX11_text_13 : decode cX11_text 13 = .ok (.invokestatic 112, 3) := dq_184 (kX11_text_0 13 rfl) (kX11_text_0 14 rfl) (kX11_text_0 15 rfl) rfl
theorem dX11_text_16 : decode cX11_text 16 = .ok (.ifCond .eq 26, 3) := dq_153 (kX11_text_0 16 rfl) (kX11_text_0 17 rfl) (kX11_text_0 18 rfl) (by decide)
theorem dX11_text_19 : decode cX11_text 19 = .ok (.aload_n 0, 1) := dq_42 (kX11_text_0 19 rfl)
theorem dX11_text_20 : decode cX11_text 20 = .ok (.getfield 19, 3) := dq_180 (kX11_text_0 20 rfl) (kX11_text_0 21 rfl) (kX11_text_0 22 rfl) rfl
theorem dX11_text_23 : decode cX11_text 23 = .ok (.getfield 216, 3) := dq_180 (kX11_text_0 23 rfl) (kX11_text_0 24 rfl) (kX11_text_0 25 rfl) rfl
theorem dX11_text_26 : decode cX11_text 26 = .ok (.bipush 20, 2) := dq_16 (kX11_text_0 26 rfl) (kX11_text_0 27 rfl) (by decide)
theorem dX11_text_28 : decode cX11_text 28 = .ok (.if_icmp .ge 14, 3) := dq_162 (kX11_text_0 28 rfl) (kX11_text_0 29 rfl) (kX11_text_0 30 rfl) (by decide)
theorem dX11_text_31 : decode cX11_text 31 = .ok (.iload_n 3, 1) := dq_29 (kX11_text_0 31 rfl)
theorem dX11_text_32 : decode cX11_text 32 = .ok (.aload_n 0, 1) := dq_42 (kX11_text_1 0 rfl)
theorem dX11_text_33 : decode cX11_text 33 = .ok (.getfield 91, 3) := dq_180 (kX11_text_1 1 rfl) (kX11_text_1 2 rfl) (kX11_text_1 3 rfl) rfl
theorem dX11_text_36 : decode cX11_text 36 = .ok (.getfield 199, 3) := dq_180 (kX11_text_1 4 rfl) (kX11_text_1 5 rfl) (kX11_text_1 6 rfl) rfl
theorem dX11_text_39 : decode cX11_text 39 = .ok (.if_icmp .le 5, 3) := dq_164 (kX11_text_1 7 rfl) (kX11_text_1 8 rfl) (kX11_text_1 9 rfl) (by decide)
theorem dX11_text_42 : decode cX11_text 42 = .ok (.iconst (-1), 1) := dq_2 (kX11_text_1 10 rfl)
theorem dX11_text_43 : decode cX11_text 43 = .ok (.ireturn, 1) := dq_172 (kX11_text_1 11 rfl)
theorem dX11_text_44 : decode cX11_text 44 = .ok (.new 219, 3) := dq_187 (kX11_text_1 12 rfl) (kX11_text_1 13 rfl) (kX11_text_1 14 rfl) rfl
theorem dX11_text_47 : decode cX11_text 47 = .ok (.dup, 1) := dq_89 (kX11_text_1 15 rfl)
theorem dX11_text_48 : decode cX11_text 48 = .ok (.iload_n 1, 1) := dq_27 (kX11_text_1 16 rfl)
theorem dX11_text_49 : decode cX11_text 49 = .ok (.iload_n 2, 1) := dq_28 (kX11_text_1 17 rfl)
theorem dX11_text_50 : decode cX11_text 50 = .ok (.iload_n 3, 1) := dq_29 (kX11_text_1 18 rfl)
theorem dX11_text_51 : decode cX11_text 51 = .ok (.bipush 12, 2) := dq_16 (kX11_text_1 19 rfl) (kX11_text_1 20 rfl) (by decide)
theorem dX11_text_53 : decode cX11_text 53 = .ok (.invokespecial 221, 3) := dq_183 (kX11_text_1 21 rfl) (kX11_text_1 22 rfl) (kX11_text_1 23 rfl) rfl
theorem dX11_text_56 : decode cX11_text 56 = .ok (.astore 4, 2) := dq_58 (kX11_text_1 24 rfl) (kX11_text_1 25 rfl) rfl
theorem dX11_text_58 : decode cX11_text 58 = .ok (.new 224, 3) := dq_187 (kX11_text_1 26 rfl) (kX11_text_1 27 rfl) (kX11_text_1 28 rfl) rfl
theorem dX11_text_61 : decode cX11_text 61 = .ok (.dup, 1) := dq_89 (kX11_text_1 29 rfl)
theorem dX11_text_62 : decode cX11_text 62 = .ok (.aload_n 0, 1) := dq_42 (kX11_text_1 30 rfl)
theorem dX11_text_63 : decode cX11_text 63 = .ok (.getfield 91, 3) := dq_180 (kX11_text_1 31 rfl) (kX11_text_2 0 rfl) (kX11_text_2 1 rfl) rfl
theorem dX11_text_66 : decode cX11_text 66 = .ok (.getfield 226, 3) := dq_180 (kX11_text_2 2 rfl) (kX11_text_2 3 rfl) (kX11_text_2 4 rfl) rfl
theorem dX11_text_69 : decode cX11_text 69 = .ok (.iload_n 3, 1) := dq_29 (kX11_text_2 5 rfl)
theorem dX11_text_70 : decode cX11_text 70 = .ok (.aload 4, 2) := dq_25 (kX11_text_2 6 rfl) (kX11_text_2 7 rfl) rfl
theorem dX11_text_72 : decode cX11_text 72 = .ok (.invokespecial 229, 3) := dq_183 (kX11_text_2 8 rfl) (kX11_text_2 9 rfl) (kX11_text_2 10 rfl) rfl
theorem dX11_text_75 : decode cX11_text 75 = .ok (.astore 5, 2) := dq_58 (kX11_text_2 11 rfl) (kX11_text_2 12 rfl) rfl
theorem dX11_text_77 : decode cX11_text 77 = .ok (.aload 5, 2) := dq_25 (kX11_text_2 13 rfl) (kX11_text_2 14 rfl) rfl
theorem dX11_text_79 : decode cX11_text 79 = .ok (.invokevirtual 232, 3) := dq_182 (kX11_text_2 15 rfl) (kX11_text_2 16 rfl) (kX11_text_2 17 rfl) rfl
theorem dX11_text_82 : decode cX11_text 82 = .ok (.aload_n 0, 1) := dq_42 (kX11_text_2 18 rfl)
theorem dX11_text_83 : decode cX11_text 83 = .ok (.getfield 91, 3) := dq_180 (kX11_text_2 19 rfl) (kX11_text_2 20 rfl) (kX11_text_2 21 rfl) rfl
theorem dX11_text_86 : decode cX11_text 86 = .ok (.iconst 0, 1) := dq_3 (kX11_text_2 22 rfl)
theorem dX11_text_87 : decode cX11_text 87 = .ok (.putfield 199, 3) := dq_181 (kX11_text_2 23 rfl) (kX11_text_2 24 rfl) (kX11_text_2 25 rfl) rfl
theorem dX11_text_90 : decode cX11_text 90 = .ok (.aload 5, 2) := dq_25 (kX11_text_2 26 rfl) (kX11_text_2 27 rfl) rfl
theorem dX11_text_92 : decode cX11_text 92 = .ok (.getfield 235, 3) := dq_180 (kX11_text_2 28 rfl) (kX11_text_2 29 rfl) (kX11_text_2 30 rfl) rfl
theorem dX11_text_95 : decode cX11_text 95 = .ok (.ifCond .eq 11, 3) := dq_153 (kX11_text_2 31 rfl) (kX11_text_3 0 rfl) (kX11_text_3 1 rfl) (by decide)
theorem dX11_text_98 : decode cX11_text 98 = .ok (.aload 5, 2) := dq_25 (kX11_text_3 2 rfl) (kX11_text_3 3 rfl) rfl
theorem dX11_text_100 : decode cX11_text 100 = .ok (.invokevirtual 238, 3) := dq_182 (kX11_text_3 4 rfl) (kX11_text_3 5 rfl) (kX11_text_3 6 rfl) rfl
theorem dX11_text_103 : decode cX11_text 103 = .ok (.goto 12, 3) := dq_167 (kX11_text_3 7 rfl) (kX11_text_3 8 rfl) (kX11_text_3 9 rfl) (by decide)
theorem dX11_text_106 : decode cX11_text 106 = .ok (.aload_n 0, 1) := dq_42 (kX11_text_3 10 rfl)
theorem dX11_text_107 : decode cX11_text 107 = .ok (.getfield 19, 3) := dq_180 (kX11_text_3 11 rfl) (kX11_text_3 12 rfl) (kX11_text_3 13 rfl) rfl
theorem dX11_text_110 : decode cX11_text 110 = .ok (.aload 4, 2) := dq_25 (kX11_text_3 14 rfl) (kX11_text_3 15 rfl) rfl
theorem dX11_text_112 : decode cX11_text 112 = .ok (.invokevirtual 242, 3) := dq_182 (kX11_text_3 16 rfl) (kX11_text_3 17 rfl) (kX11_text_3 18 rfl) rfl
theorem dX11_text_115 : decode cX11_text 115 = .ok (.ireturn, 1) := dq_172 (kX11_text_3 19 rfl)

def bX11_yes_0 : List UInt8 := [42, 27, 182, 0, 151, 78, 45, 198, 0, 30, 28, 153, 0, 26, 42, 180, 0, 19, 28, 182, 0, 246, 198, 0, 15, 45, 180, 0, 250, 28, 184, 0]
theorem kX11_yes_0 (j : Nat) {b : UInt8} (hj : bX11_yes_0[j]? = some b) : AtB cX11_yes (0 + j) b := at_of32 (by decide +kernel) j hj
def bX11_yes_1 : List UInt8 := [253, 2, 159, 0, 5, 3, 172, 45, 180, 0, 250, 28, 42, 180, 0, 12, 180, 0, 145, 184, 0, 108, 42, 180, 0, 19, 182, 1, 0, 4, 172]
theorem kX11_yes_1 (j : Nat) {b : UInt8} (hj : bX11_yes_1[j]? = some b) : AtB cX11_yes (32 + j) b := at_of32 (by decide +kernel) j hj
theorem dX11_yes_0 : decode cX11_yes 0 = .ok (.aload_n 0, 1) := dq_42 (kX11_yes_0 0 rfl)
theorem dX11_yes_1 : decode cX11_yes 1 = .ok (.iload_n 1, 1) := dq_27 (kX11_yes_0 1 rfl)
theorem dX11_yes_2 : decode cX11_yes 2 = .ok (.invokevirtual 151, 3) := dq_182 (kX11_yes_0 2 rfl) (kX11_yes_0 3 rfl) (kX11_yes_0 4 rfl) rfl
theorem dX11_yes_5 : decode cX11_yes 5 = .ok (.astore_n 3, 1) := dq_78 (kX11_yes_0 5 rfl)
theorem dX11_yes_6 : decode cX11_yes 6 = .ok (.aload_n 3, 1) := dq_45 (kX11_yes_0 6 rfl)
theorem dX11_yes_7 : decode cX11_yes 7 = .ok (.ifnull 30, 3) := dq_198 (kX11_yes_0 7 rfl) (kX11_yes_0 8 rfl) (kX11_yes_0 9 rfl) (by decide)
theorem dX11_yes_10 : decode cX11_yes 10 = .ok (.iload_n 2, 1) := dq_28 (kX11_yes_0 10 rfl)
theorem dX11_yes_11 : decode cX11_yes 11 = .ok (.ifCond .eq 26, 3) := dq_153 (kX11_yes_0 11 rfl) (kX11_yes_0 12 rfl) (kX11_yes_0 13 rfl) (by decide)
theorem dX11_yes_14 : decode cX11_yes 14 = .ok (.aload_n 0, 1) := dq_42 (kX11_yes_0 14 rfl)
theorem dX11_yes_15 : decode cX11_yes 15 = .ok (.getfield 19, 3) := dq_180 (kX11_yes_0 15 rfl) (kX11_yes_0 16 rfl) (kX11_yes_0 17 rfl) rfl
theorem dX11_yes_18 : decode cX11_yes 18 = .ok (.iload_n 2, 1) := dq_28 (kX11_yes_0 18 rfl)
theorem dX11_yes_19 : decode cX11_yes 19 = .ok (.invokevirtual 246, 3) := dq_182 (kX11_yes_0 19 rfl) (kX11_yes_0 20 rfl) (kX11_yes_0 21 rfl) rfl
theorem dX11_yes_22 : decode cX11_yes 22 = .ok (.ifnull 15, 3) := dq_198 (kX11_yes_0 22 rfl) (kX11_yes_0 23 rfl) (kX11_yes_0 24 rfl) (by decide)
theorem dX11_yes_25 : decode cX11_yes 25 = .ok (.aload_n 3, 1) := dq_45 (kX11_yes_0 25 rfl)
theorem dX11_yes_26 : decode cX11_yes 26 = .ok (.getfield 250, 3) := dq_180 (kX11_yes_0 26 rfl) (kX11_yes_0 27 rfl) (kX11_yes_0 28 rfl) rfl
theorem dX11_yes_29 : decode cX11_yes 29 = .ok (.iload_n 2, 1) := dq_28 (kX11_yes_0 29 rfl)
theorem dX11_yes_30 : decode cX11_yes 30 = .ok (.invokestatic 253, 3) := dq_184 (kX11_yes_0 30 rfl) (kX11_yes_0 31 rfl) (kX11_yes_1 0 rfl) rfl
theorem dX11_yes_33 : decode cX11_yes 33 = .ok (.iconst (-1), 1) := dq_2 (kX11_yes_1 1 rfl)
theorem dX11_yes_34 : decode cX11_yes 34 = .ok (.if_icmp .eq 5, 3) := dq_159 (kX11_yes_1 2 rfl) (kX11_yes_1 3 rfl) (kX11_yes_1 4 rfl) (by decide)
theorem dX11_yes_37 : decode cX11_yes 37 = .ok (.iconst 0, 1) := dq_3 (kX11_yes_1 5 rfl)
theorem dX11_yes_38 : decode cX11_yes 38 = .ok (.ireturn, 1) := dq_172 (kX11_yes_1 6 rfl)
theorem dX11_yes_39 : decode cX11_yes 39 = .ok (.aload_n 3, 1) := dq_45 (kX11_yes_1 7 rfl)
theorem dX11_yes_40 : decode cX11_yes 40 = .ok (.getfield 250, 3) := dq_180 (kX11_yes_1 8 rfl) (kX11_yes_1 9 rfl) (kX11_yes_1 10 rfl) rfl
theorem dX11_yes_43 : decode cX11_yes 43 = .ok (.iload_n 2, 1) := dq_28 (kX11_yes_1 11 rfl)
theorem dX11_yes_44 : decode cX11_yes 44 = .ok (.aload_n 0, 1) := dq_42 (kX11_yes_1 12 rfl)
theorem dX11_yes_45 : decode cX11_yes 45 = .ok (.getfield 12, 3) := dq_180 (kX11_yes_1 13 rfl) (kX11_yes_1 14 rfl) (kX11_yes_1 15 rfl) rfl
theorem dX11_yes_48 : decode cX11_yes 48 = .ok (.getfield 145, 3) := dq_180 (kX11_yes_1 16 rfl) (kX11_yes_1 17 rfl) (kX11_yes_1 18 rfl) rfl
theorem dX11_yes_51 : decode cX11_yes 51 = .ok (.invokestatic 108, 3) := dq_184 (kX11_yes_1 19 rfl) (kX11_yes_1 20 rfl) (kX11_yes_1 21 rfl) rfl
theorem dX11_yes_54 : decode cX11_yes 54 = .ok (.aload_n 0, 1) := dq_42 (kX11_yes_1 22 rfl)
theorem dX11_yes_55 : decode cX11_yes 55 = .ok (.getfield 19, 3) := dq_180 (kX11_yes_1 23 rfl) (kX11_yes_1 24 rfl) (kX11_yes_1 25 rfl) rfl
theorem dX11_yes_58 : decode cX11_yes 58 = .ok (.invokevirtual 256, 3) := dq_182 (kX11_yes_1 26 rfl) (kX11_yes_1 27 rfl) (kX11_yes_1 28 rfl) rfl
theorem dX11_yes_61 : decode cX11_yes 61 = .ok (.iconst 1, 1) := dq_4 (kX11_yes_1 29 rfl)
theorem dX11_yes_62 : decode cX11_yes 62 = .ok (.ireturn, 1) := dq_172 (kX11_yes_1 30 rfl)

def bX11_reading_0 : List UInt8 := [42, 180, 0, 19, 28, 182, 0, 246, 58, 5, 42, 27, 182, 0, 151, 198, 0, 17, 25, 5, 198, 0, 12, 25, 5, 29, 182, 1, 3, 154, 0, 5]
theorem kX11_reading_0 (j : Nat) {b : UInt8} (hj : bX11_reading_0[j]? = some b) : AtB cX11_reading (0 + j) b := at_of32 (by decide +kernel) j hj
def bX11_reading_1 : List UInt8 := [2, 172, 21, 4, 4, 16, 100, 184, 0, 112, 153, 0, 28, 42, 180, 0, 19, 180, 1, 6, 182, 1, 9, 154, 0, 15, 21, 4, 42, 180, 0, 91]
theorem kX11_reading_1 (j : Nat) {b : UInt8} (hj : bX11_reading_1[j]? = some b) : AtB cX11_reading (32 + j) b := at_of32 (by decide +kernel) j hj
def bX11_reading_2 : List UInt8 := [180, 0, 199, 164, 0, 5, 2, 172, 187, 0, 219, 89, 3, 3, 21, 4, 4, 183, 0, 221, 58, 6, 187, 0, 224, 89, 42, 180, 0, 91, 180, 0]
theorem kX11_reading_2 (j : Nat) {b : UInt8} (hj : bX11_reading_2[j]? = some b) : AtB cX11_reading (64 + j) b := at_of32 (by decide +kernel) j hj
def bX11_reading_3 : List UInt8 := [226, 21, 4, 25, 6, 183, 0, 229, 58, 7, 25, 7, 182, 1, 13, 42, 180, 0, 91, 3, 181, 0, 199, 25, 7, 180, 0, 235, 153, 0, 9, 25]
theorem kX11_reading_3 (j : Nat) {b : UInt8} (hj : bX11_reading_3[j]? = some b) : AtB cX11_reading (96 + j) b := at_of32 (by decide +kernel) j hj
def bX11_reading_4 : List UInt8 := [7, 182, 0, 238, 172, 42, 180, 0, 19, 27, 28, 29, 25, 6, 182, 1, 16, 3, 172]
theorem kX11_reading_4 (j : Nat) {b : UInt8} (hj : bX11_reading_4[j]? = some b) : AtB cX11_reading (128 + j) b := at_of32 (by decide +kernel) j hj
theorem dX11_reading_0 : decode cX11_reading 0 = .ok (.aload_n 0, 1) := dq_42 (kX11_reading_0 0 rfl)
theorem dX11_reading_1 : decode cX11_reading 1 = .ok (.getfield 19, 3) := dq_180 (kX11_reading_0 1 rfl) (kX11_reading_0 2 rfl) (kX11_reading_0 3 rfl) rfl
theorem dX11_reading_4 : decode cX11_reading 4 = .ok (.iload_n 2, 1) := dq_28 (kX11_reading_0 4 rfl)
theorem dX11_reading_5 : decode cX11_reading 5 = .ok (.invokevirtual 246, 3) := dq_182 (kX11_reading_0 5 rfl) (kX11_reading_0 6 rfl) (kX11_reading_0 7 rfl) rfl
theorem dX11_reading_8 : decode cX11_reading 8 = .ok (.astore 5, 2) := dq_58 (kX11_reading_0 8 rfl) (kX11_reading_0 9 rfl) rfl
theorem dX11_reading_10 : decode cX11_reading 10 = .ok (.aload_n 0, 1) := dq_42 (kX11_reading_0 10 rfl)
theorem dX11_reading_11 : decode cX11_reading 11 = .ok (.iload_n 1, 1) := dq_27 (kX11_reading_0 11 rfl)
theorem dX11_reading_12 : decode cX11_reading 12 = .ok (.invokevirtual 151, 3) := dq_182 (kX11_reading_0 12 rfl) (kX11_reading_0 13 rfl) (kX11_reading_0 14 rfl) rfl
theorem dX11_reading_15 : decode cX11_reading 15 = .ok (.ifnull 17, 3) := dq_198 (kX11_reading_0 15 rfl) (kX11_reading_0 16 rfl) (kX11_reading_0 17 rfl) (by decide)
theorem dX11_reading_18 : decode cX11_reading 18 = .ok (.aload 5, 2) := dq_25 (kX11_reading_0 18 rfl) (kX11_reading_0 19 rfl) rfl
theorem dX11_reading_20 : decode cX11_reading 20 = .ok (.ifnull 12, 3) := dq_198 (kX11_reading_0 20 rfl) (kX11_reading_0 21 rfl) (kX11_reading_0 22 rfl) (by decide)
theorem dX11_reading_23 : decode cX11_reading 23 = .ok (.aload 5, 2) := dq_25 (kX11_reading_0 23 rfl) (kX11_reading_0 24 rfl) rfl
theorem dX11_reading_25 : decode cX11_reading 25 = .ok (.iload_n 3, 1) := dq_29 (kX11_reading_0 25 rfl)
theorem dX11_reading_26 : decode cX11_reading 26 = .ok (.invokevirtual 259, 3) := dq_182 (kX11_reading_0 26 rfl) (kX11_reading_0 27 rfl) (kX11_reading_0 28 rfl) rfl
theorem dX11_reading_29 : decode cX11_reading 29 = .ok (.ifCond .ne 5, 3) := dq_154 (kX11_reading_0 29 rfl) (kX11_reading_0 30 rfl) (kX11_reading_0 31 rfl) (by decide)
theorem dX11_reading_32 : decode cX11_reading 32 = .ok (.iconst (-1), 1) := dq_2 (kX11_reading_1 0 rfl)
theorem dX11_reading_33 : decode cX11_reading 33 = .ok (.ireturn, 1) := dq_172 (kX11_reading_1 1 rfl)
theorem dX11_reading_34 : decode cX11_reading 34 = .ok (.iload 4, 2) := dq_21 (kX11_reading_1 2 rfl) (kX11_reading_1 3 rfl) rfl
theorem dX11_reading_36 : decode cX11_reading 36 = .ok (.iconst 1, 1) := dq_4 (kX11_reading_1 4 rfl)
theorem dX11_reading_37 : decode cX11_reading 37 = .ok (.bipush 100, 2) := dq_16 (kX11_reading_1 5 rfl) (kX11_reading_1 6 rfl) (by decide)
theorem dX11_reading_39 : decode cX11_reading 39 = .ok (.invokestatic 112, 3) := dq_184 (kX11_reading_1 7 rfl) (kX11_reading_1 8 rfl) (kX11_reading_1 9 rfl) rfl
theorem dX11_reading_42 : decode cX11_reading 42 = .ok (.ifCond .eq 28, 3) := dq_153 (kX11_reading_1 10 rfl) (kX11_reading_1 11 rfl) (kX11_reading_1 12 rfl) (by decide)
theorem dX11_reading_45 : decode cX11_reading 45 = .ok (.aload_n 0, 1) := dq_42 (kX11_reading_1 13 rfl)
theorem dX11_reading_46 : decode cX11_reading 46 = .ok (.getfield 19, 3) := dq_180 (kX11_reading_1 14 rfl) (kX11_reading_1 15 rfl) (kX11_reading_1 16 rfl) rfl
theorem dX11_reading_49 : decode cX11_reading 49 = .ok (.getfield 262, 3) := dq_180 (kX11_reading_1 17 rfl) (kX11_reading_1 18 rfl) (kX11_reading_1 19 rfl) rfl
theorem dX11_reading_52 : decode cX11_reading 52 = .ok (.invokevirtual 265, 3) := dq_182 (kX11_reading_1 20 rfl) (kX11_reading_1 21 rfl) (kX11_reading_1 22 rfl) rfl
theorem dX11_reading_55 : decode cX11_reading 55 = .ok (.ifCond .ne 15, 3) := dq_154 (kX11_reading_1 23 rfl) (kX11_reading_1 24 rfl) (kX11_reading_1 25 rfl) (by decide)
theorem dX11_reading_58 : decode cX11_reading 58 = .ok (.iload 4, 2) := dq_21 (kX11_reading_1 26 rfl) (kX11_reading_1 27 rfl) rfl
theorem dX11_reading_60 : decode cX11_reading 60 = .ok (.aload_n 0, 1) := dq_42 (kX11_reading_1 28 rfl)
theorem dX11_reading_61 : decode cX11_reading 61 = .ok (.getfield 91, 3) := dq_180 (kX11_reading_1 29 rfl) (kX11_reading_1 30 rfl) (kX11_reading_1 31 rfl) rfl
theorem dX11_reading_64 : decode cX11_reading 64 = .ok (.getfield 199, 3) := dq_180 (kX11_reading_2 0 rfl) (kX11_reading_2 1 rfl) (kX11_reading_2 2 rfl) rfl
theorem dX11_reading_67 : decode cX11_reading 67 = .ok (.if_icmp .le 5, 3) := dq_164 (kX11_reading_2 3 rfl) (kX11_reading_2 4 rfl) (kX11_reading_2 5 rfl) (by decide)
theorem dX11_reading_70 : decode cX11_reading 70 = .ok (.iconst (-1), 1) := dq_2 (kX11_reading_2 6 rfl)
theorem dX11_reading_71 : decode cX11_reading 71 = .ok (.ireturn, 1) := dq_172 (kX11_reading_2 7 rfl)
theorem dX11_reading_72 : decode cX11_reading 72 = .ok (.new 219, 3) := dq_187 (kX11_reading_2 8 rfl) (kX11_reading_2 9 rfl) (kX11_reading_2 10 rfl) rfl
theorem dX11_reading_75 : decode cX11_reading 75 = .ok (.dup, 1) := dq_89 (kX11_reading_2 11 rfl)
theorem dX11_reading_76 : decode cX11_reading 76 = .ok (.iconst 0, 1) := dq_3 (kX11_reading_2 12 rfl)
theorem dX11_reading_77 : decode cX11_reading 77 = .ok (.iconst 0, 1) := dq_3 (kX11_reading_2 13 rfl)
theorem dX11_reading_78 : decode cX11_reading 78 = .ok (.iload 4, 2) := dq_21 (kX11_reading_2 14 rfl) (kX11_reading_2 15 rfl) rfl
theorem dX11_reading_80 : decode cX11_reading 80 = .ok (.iconst 1, 1) := dq_4 (kX11_reading_2 16 rfl)
theorem dX11_reading_81 : decode cX11_reading 81 = .ok (.invokespecial 221, 3) := dq_183 (kX11_reading_2 17 rfl) (kX11_reading_2 18 rfl) (kX11_reading_2 19 rfl) rfl
theorem dX11_reading_84 : decode cX11_reading 84 = .ok (.astore 6, 2) := dq_58 (kX11_reading_2 20 rfl) (kX11_reading_2 21 rfl) rfl
theorem dX11_reading_86 : decode cX11_reading 86 = .ok (.new 224, 3) := dq_187 (kX11_reading_2 22 rfl) (kX11_reading_2 23 rfl) (kX11_reading_2 24 rfl) rfl
theorem dX11_reading_89 : decode cX11_reading 89 = .ok (.dup, 1) := dq_89 (kX11_reading_2 25 rfl)
theorem dX11_reading_90 : decode cX11_reading 90 = .ok (.aload_n 0, 1) := dq_42 (kX11_reading_2 26 rfl)
theorem dX11_reading_91 : decode cX11_reading 91 = .ok (.getfield 91, 3) := dq_180 (kX11_reading_2 27 rfl) (kX11_reading_2 28 rfl) (kX11_reading_2 29 rfl) rfl
theorem dX11_reading_94 : decode cX11_reading 94 = .ok (.getfield 226, 3) := dq_180 (kX11_reading_2 30 rfl) (kX11_reading_2 31 rfl) (kX11_reading_3 0 rfl) rfl
theorem dX11_reading_97 : decode cX11_reading 97 = .ok (.iload 4, 2) := dq_21 (kX11_reading_3 1 rfl) (kX11_reading_3 2 rfl) rfl
theorem dX11_reading_99 : decode cX11_reading 99 = .ok (.aload 6, 2) := dq_25 (kX11_reading_3 3 rfl) (kX11_reading_3 4 rfl) rfl
theorem dX11_reading_101 : decode cX11_reading 101 = .ok (.invokespecial 229, 3) := dq_183 (kX11_reading_3 5 rfl) (kX11_reading_3 6 rfl) (kX11_reading_3 7 rfl) rfl
theorem dX11_reading_104 : decode cX11_reading 104 = .ok (.astore 7, 2) := dq_58 (kX11_reading_3 8 rfl) (kX11_reading_3 9 rfl) rfl
theorem dX11_reading_106 : decode cX11_reading 106 = .ok (.aload 7, 2) := dq_25 (kX11_reading_3 10 rfl) (kX11_reading_3 11 rfl) rfl
theorem dX11_reading_108 : decode cX11_reading 108 = .ok (.invokevirtual 269, 3) := dq_182 (kX11_reading_3 12 rfl) (kX11_reading_3 13 rfl) (kX11_reading_3 14 rfl) rfl
theorem dX11_reading_111 : decode cX11_reading 111 = .ok (.aload_n 0, 1) := dq_42 (kX11_reading_3 15 rfl)
theorem dX11_reading_112 : decode cX11_reading 112 = .ok (.getfield 91, 3) := dq_180 (kX11_reading_3 16 rfl) (kX11_reading_3 17 rfl) (kX11_reading_3 18 rfl) rfl
theorem dX11_reading_115 : decode cX11_reading 115 = .ok (.iconst 0, 1) := dq_3 (kX11_reading_3 19 rfl)
theorem dX11_reading_116 : decode cX11_reading 116 = .ok (.putfield 199, 3) := dq_181 (kX11_reading_3 20 rfl) (kX11_reading_3 21 rfl) (kX11_reading_3 22 rfl) rfl
theorem dX11_reading_119 : decode cX11_reading 119 = .ok (.aload 7, 2) := dq_25 (kX11_reading_3 23 rfl) (kX11_reading_3 24 rfl) rfl
theorem dX11_reading_121 : decode cX11_reading 121 = .ok (.getfield 235, 3) := dq_180 (kX11_reading_3 25 rfl) (kX11_reading_3 26 rfl) (kX11_reading_3 27 rfl) rfl
theorem dX11_reading_124 : decode cX11_reading 124 = .ok (.ifCond .eq 9, 3) := dq_153 (kX11_reading_3 28 rfl) (kX11_reading_3 29 rfl) (kX11_reading_3 30 rfl) (by decide)
theorem dX11_reading_127 : decode cX11_reading 127 = .ok (.aload 7, 2) := dq_25 (kX11_reading_3 31 rfl) (kX11_reading_4 0 rfl) rfl
theorem dX11_reading_129 : decode cX11_reading 129 = .ok (.invokevirtual 238, 3) := dq_182 (kX11_reading_4 1 rfl) (kX11_reading_4 2 rfl) (kX11_reading_4 3 rfl) rfl
theorem dX11_reading_132 : decode cX11_reading 132 = .ok (.ireturn, 1) := dq_172 (kX11_reading_4 4 rfl)
theorem dX11_reading_133 : decode cX11_reading 133 = .ok (.aload_n 0, 1) := dq_42 (kX11_reading_4 5 rfl)
theorem dX11_reading_134 : decode cX11_reading 134 = .ok (.getfield 19, 3) := dq_180 (kX11_reading_4 6 rfl) (kX11_reading_4 7 rfl) (kX11_reading_4 8 rfl) rfl
theorem dX11_reading_137 : decode cX11_reading 137 = .ok (.iload_n 1, 1) := dq_27 (kX11_reading_4 9 rfl)
theorem dX11_reading_138 : decode cX11_reading 138 = .ok (.iload_n 2, 1) := dq_28 (kX11_reading_4 10 rfl)
theorem dX11_reading_139 : decode cX11_reading 139 = .ok (.iload_n 3, 1) := dq_29 (kX11_reading_4 11 rfl)
theorem dX11_reading_140 : decode cX11_reading 140 = .ok (.aload 6, 2) := dq_25 (kX11_reading_4 12 rfl) (kX11_reading_4 13 rfl) rfl
theorem dX11_reading_142 : decode cX11_reading 142 = .ok (.invokevirtual 272, 3) := dq_182 (kX11_reading_4 14 rfl) (kX11_reading_4 15 rfl) (kX11_reading_4 16 rfl) rfl
theorem dX11_reading_145 : decode cX11_reading 145 = .ok (.iconst 0, 1) := dq_3 (kX11_reading_4 17 rfl)
theorem dX11_reading_146 : decode cX11_reading 146 = .ok (.ireturn, 1) := dq_172 (kX11_reading_4 18 rfl)

def bX11_counts_0 : List UInt8 := [42, 28, 182, 0, 151, 58, 4, 25, 4, 198, 0, 21, 42, 180, 0, 19, 27, 182, 0, 246, 198, 0, 10, 29, 184, 1, 20, 154, 0, 5, 2, 172]
theorem kX11_counts_0 (j : Nat) {b : UInt8} (hj : bX11_counts_0[j]? = some b) : AtB cX11_counts (0 + j) b := at_of32 (by decide +kernel) j hj
def bX11_counts_1 : List UInt8 := [42, 180, 0, 19, 28, 25, 4, 29, 182, 1, 23, 42, 180, 0, 19, 180, 1, 27, 27, 184, 0, 253, 184, 1, 30, 172]
theorem kX11_counts_1 (j : Nat) {b : UInt8} (hj : bX11_counts_1[j]? = some b) : AtB cX11_counts (32 + j) b := at_of32 (by decide +kernel) j hj
theorem dX11_counts_0 : decode cX11_counts 0 = .ok (.aload_n 0, 1) := dq_42 (kX11_counts_0 0 rfl)
theorem dX11_counts_1 : decode cX11_counts 1 = .ok (.iload_n 2, 1) := dq_28 (kX11_counts_0 1 rfl)
theorem dX11_counts_2 : decode cX11_counts 2 = .ok (.invokevirtual 151, 3) := dq_182 (kX11_counts_0 2 rfl) (kX11_counts_0 3 rfl) (kX11_counts_0 4 rfl) rfl
theorem dX11_counts_5 : decode cX11_counts 5 = .ok (.astore 4, 2) := dq_58 (kX11_counts_0 5 rfl) (kX11_counts_0 6 rfl) rfl
theorem dX11_counts_7 : decode cX11_counts 7 = .ok (.aload 4, 2) := dq_25 (kX11_counts_0 7 rfl) (kX11_counts_0 8 rfl) rfl
theorem dX11_counts_9 : decode cX11_counts 9 = .ok (.ifnull 21, 3) := dq_198 (kX11_counts_0 9 rfl) (kX11_counts_0 10 rfl) (kX11_counts_0 11 rfl) (by decide)
theorem dX11_counts_12 : decode cX11_counts 12 = .ok (.aload_n 0, 1) := dq_42 (kX11_counts_0 12 rfl)
theorem dX11_counts_13 : decode cX11_counts 13 = .ok (.getfield 19, 3) := dq_180 (kX11_counts_0 13 rfl) (kX11_counts_0 14 rfl) (kX11_counts_0 15 rfl) rfl
theorem dX11_counts_16 : decode cX11_counts 16 = .ok (.iload_n 1, 1) := dq_27 (kX11_counts_0 16 rfl)
theorem dX11_counts_17 : decode cX11_counts 17 = .ok (.invokevirtual 246, 3) := dq_182 (kX11_counts_0 17 rfl) (kX11_counts_0 18 rfl) (kX11_counts_0 19 rfl) rfl
theorem dX11_counts_20 : decode cX11_counts 20 = .ok (.ifnull 10, 3) := dq_198 (kX11_counts_0 20 rfl) (kX11_counts_0 21 rfl) (kX11_counts_0 22 rfl) (by decide)
theorem dX11_counts_23 : decode cX11_counts 23 = .ok (.iload_n 3, 1) := dq_29 (kX11_counts_0 23 rfl)
theorem dX11_counts_24 : decode cX11_counts 24 = .ok (.invokestatic 276, 3) := dq_184 (kX11_counts_0 24 rfl) (kX11_counts_0 25 rfl) (kX11_counts_0 26 rfl) rfl
theorem dX11_counts_27 : decode cX11_counts 27 = .ok (.ifCond .ne 5, 3) := dq_154 (kX11_counts_0 27 rfl) (kX11_counts_0 28 rfl) (kX11_counts_0 29 rfl) (by decide)
theorem dX11_counts_30 : decode cX11_counts 30 = .ok (.iconst (-1), 1) := dq_2 (kX11_counts_0 30 rfl)
theorem dX11_counts_31 : decode cX11_counts 31 = .ok (.ireturn, 1) := dq_172 (kX11_counts_0 31 rfl)
theorem dX11_counts_32 : decode cX11_counts 32 = .ok (.aload_n 0, 1) := dq_42 (kX11_counts_1 0 rfl)
theorem dX11_counts_33 : decode cX11_counts 33 = .ok (.getfield 19, 3) := dq_180 (kX11_counts_1 1 rfl) (kX11_counts_1 2 rfl) (kX11_counts_1 3 rfl) rfl
theorem dX11_counts_36 : decode cX11_counts 36 = .ok (.iload_n 2, 1) := dq_28 (kX11_counts_1 4 rfl)
theorem dX11_counts_37 : decode cX11_counts 37 = .ok (.aload 4, 2) := dq_25 (kX11_counts_1 5 rfl) (kX11_counts_1 6 rfl) rfl
theorem dX11_counts_39 : decode cX11_counts 39 = .ok (.iload_n 3, 1) := dq_29 (kX11_counts_1 7 rfl)
theorem dX11_counts_40 : decode cX11_counts 40 = .ok (.invokevirtual 279, 3) := dq_182 (kX11_counts_1 8 rfl) (kX11_counts_1 9 rfl) (kX11_counts_1 10 rfl) rfl
theorem dX11_counts_43 : decode cX11_counts 43 = .ok (.aload_n 0, 1) := dq_42 (kX11_counts_1 11 rfl)
theorem dX11_counts_44 : decode cX11_counts 44 = .ok (.getfield 19, 3) := dq_180 (kX11_counts_1 12 rfl) (kX11_counts_1 13 rfl) (kX11_counts_1 14 rfl) rfl
theorem dX11_counts_47 : decode cX11_counts 47 = .ok (.getfield 283, 3) := dq_180 (kX11_counts_1 15 rfl) (kX11_counts_1 16 rfl) (kX11_counts_1 17 rfl) rfl
theorem dX11_counts_50 : decode cX11_counts 50 = .ok (.iload_n 1, 1) := dq_27 (kX11_counts_1 18 rfl)
theorem dX11_counts_51 : decode cX11_counts 51 = .ok (.invokestatic 253, 3) := dq_184 (kX11_counts_1 19 rfl) (kX11_counts_1 20 rfl) (kX11_counts_1 21 rfl) rfl
theorem dX11_counts_54 : decode cX11_counts 54 = .ok (.invokestatic 286, 3) := dq_184 (kX11_counts_1 22 rfl) (kX11_counts_1 23 rfl) (kX11_counts_1 24 rfl) rfl
theorem dX11_counts_57 : decode cX11_counts 57 = .ok (.ireturn, 1) := dq_172 (kX11_counts_1 25 rfl)

def bX11_number_0 : List UInt8 := [42, 28, 182, 0, 151, 58, 4, 27, 16, 10, 16, 25, 184, 0, 112, 54, 5, 25, 4, 198, 0, 24, 29, 184, 1, 20, 153, 0, 17, 27, 3, 6]
theorem kX11_number_0 (j : Nat) {b : UInt8} (hj : bX11_number_0[j]? = some b) : AtB cX11_number (0 + j) b := at_of32 (by decide +kernel) j hj
def bX11_number_1 : List UInt8 := [184, 0, 112, 154, 0, 10, 21, 5, 154, 0, 5, 2, 172, 42, 180, 0, 19, 28, 25, 4, 29, 182, 1, 23, 21, 5, 153, 0, 25, 42, 180, 0]
theorem kX11_number_1 (j : Nat) {b : UInt8} (hj : bX11_number_1[j]? = some b) : AtB cX11_number (32 + j) b := at_of32 (by decide +kernel) j hj
def bX11_number_2 : List UInt8 := [19, 16, 107, 27, 16, 10, 100, 7, 108, 27, 16, 10, 100, 7, 112, 182, 1, 36, 172, 27, 170, 0, 0, 0, 0, 0, 0, 72, 0, 0, 0, 0]
theorem kX11_number_2 (j : Nat) {b : UInt8} (hj : bX11_number_2[j]? = some b) : AtB cX11_number (64 + j) b := at_of32 (by decide +kernel) j hj
def bX11_number_3 : List UInt8 := [0, 0, 0, 2, 0, 0, 0, 28, 0, 0, 0, 44, 0, 0, 0, 56, 3, 42, 180, 0, 19, 16, 97, 3, 3, 182, 1, 36, 184, 1, 40, 172]
theorem kX11_number_3 (j : Nat) {b : UInt8} (hj : bX11_number_3[j]? = some b) : AtB cX11_number (96 + j) b := at_of32 (by decide +kernel) j hj
def bX11_number_4 : List UInt8 := [42, 180, 0, 19, 16, 113, 3, 3, 182, 1, 36, 172, 3, 42, 180, 0, 19, 16, 103, 3, 3, 182, 1, 36, 184, 1, 40, 172, 42, 180, 0, 19]
theorem kX11_number_4 (j : Nat) {b : UInt8} (hj : bX11_number_4[j]? = some b) : AtB cX11_number (128 + j) b := at_of32 (by decide +kernel) j hj
def bX11_number_5 : List UInt8 := [16, 122, 3, 3, 182, 1, 36, 2, 160, 0, 7, 3, 167, 0, 4, 4, 172]
theorem kX11_number_5 (j : Nat) {b : UInt8} (hj : bX11_number_5[j]? = some b) : AtB cX11_number (160 + j) b := at_of32 (by decide +kernel) j hj
theorem dX11_number_0 : decode cX11_number 0 = .ok (.aload_n 0, 1) := dq_42 (kX11_number_0 0 rfl)
theorem dX11_number_1 : decode cX11_number 1 = .ok (.iload_n 2, 1) := dq_28 (kX11_number_0 1 rfl)
theorem dX11_number_2 : decode cX11_number 2 = .ok (.invokevirtual 151, 3) := dq_182 (kX11_number_0 2 rfl) (kX11_number_0 3 rfl) (kX11_number_0 4 rfl) rfl
theorem dX11_number_5 : decode cX11_number 5 = .ok (.astore 4, 2) := dq_58 (kX11_number_0 5 rfl) (kX11_number_0 6 rfl) rfl
theorem dX11_number_7 : decode cX11_number 7 = .ok (.iload_n 1, 1) := dq_27 (kX11_number_0 7 rfl)
theorem dX11_number_8 : decode cX11_number 8 = .ok (.bipush 10, 2) := dq_16 (kX11_number_0 8 rfl) (kX11_number_0 9 rfl) (by decide)
theorem dX11_number_10 : decode cX11_number 10 = .ok (.bipush 25, 2) := dq_16 (kX11_number_0 10 rfl) (kX11_number_0 11 rfl) (by decide)
theorem dX11_number_12 : decode cX11_number 12 = .ok (.invokestatic 112, 3) := dq_184 (kX11_number_0 12 rfl) (kX11_number_0 13 rfl) (kX11_number_0 14 rfl) rfl
theorem dX11_number_15 : decode cX11_number 15 = .ok (.istore 5, 2) := dq_54 (kX11_number_0 15 rfl) (kX11_number_0 16 rfl) rfl
theorem dX11_number_17 : decode cX11_number 17 = .ok (.aload 4, 2) := dq_25 (kX11_number_0 17 rfl) (kX11_number_0 18 rfl) rfl
theorem dX11_number_19 : decode cX11_number 19 = .ok (.ifnull 24, 3) := dq_198 (kX11_number_0 19 rfl) (kX11_number_0 20 rfl) (kX11_number_0 21 rfl) (by decide)
theorem dX11_number_22 : decode cX11_number 22 = .ok (.iload_n 3, 1) := dq_29 (kX11_number_0 22 rfl)
theorem dX11_number_23 : decode cX11_number 23 = .ok (.invokestatic 276, 3) := dq_184 (kX11_number_0 23 rfl) (kX11_number_0 24 rfl) (kX11_number_0 25 rfl) rfl
theorem dX11_number_26 : decode cX11_number 26 = .ok (.ifCond .eq 17, 3) := dq_153 (kX11_number_0 26 rfl) (kX11_number_0 27 rfl) (kX11_number_0 28 rfl) (by decide)
theorem dX11_number_29 : decode cX11_number 29 = .ok (.iload_n 1, 1) := dq_27 (kX11_number_0 29 rfl)
theorem dX11_number_30 : decode cX11_number 30 = .ok (.iconst 0, 1) := dq_3 (kX11_number_0 30 rfl)
theorem dX11_number_31 : decode cX11_number 31 = .ok (.iconst 3, 1) := dq_6 (kX11_number_0 31 rfl)
theorem dX11_number_32 : decode cX11_number 32 = .ok (.invokestatic 112, 3) := dq_184 (kX11_number_1 0 rfl) (kX11_number_1 1 rfl) (kX11_number_1 2 rfl) rfl
theorem dX11_number_35 : decode cX11_number 35 = .ok (.ifCond .ne 10, 3) := dq_154 (kX11_number_1 3 rfl) (kX11_number_1 4 rfl) (kX11_number_1 5 rfl) (by decide)
theorem dX11_number_38 : decode cX11_number 38 = .ok (.iload 5, 2) := dq_21 (kX11_number_1 6 rfl) (kX11_number_1 7 rfl) rfl
theorem dX11_number_40 : decode cX11_number 40 = .ok (.ifCond .ne 5, 3) := dq_154 (kX11_number_1 8 rfl) (kX11_number_1 9 rfl) (kX11_number_1 10 rfl) (by decide)
theorem dX11_number_43 : decode cX11_number 43 = .ok (.iconst (-1), 1) := dq_2 (kX11_number_1 11 rfl)
theorem dX11_number_44 : decode cX11_number 44 = .ok (.ireturn, 1) := dq_172 (kX11_number_1 12 rfl)
theorem dX11_number_45 : decode cX11_number 45 = .ok (.aload_n 0, 1) := dq_42 (kX11_number_1 13 rfl)
theorem dX11_number_46 : decode cX11_number 46 = .ok (.getfield 19, 3) := dq_180 (kX11_number_1 14 rfl) (kX11_number_1 15 rfl) (kX11_number_1 16 rfl) rfl
theorem dX11_number_49 : decode cX11_number 49 = .ok (.iload_n 2, 1) := dq_28 (kX11_number_1 17 rfl)
theorem dX11_number_50 : decode cX11_number 50 = .ok (.aload 4, 2) := dq_25 (kX11_number_1 18 rfl) (kX11_number_1 19 rfl) rfl
theorem dX11_number_52 : decode cX11_number 52 = .ok (.iload_n 3, 1) := dq_29 (kX11_number_1 20 rfl)
theorem dX11_number_53 : decode cX11_number 53 = .ok (.invokevirtual 279, 3) := dq_182 (kX11_number_1 21 rfl) (kX11_number_1 22 rfl) (kX11_number_1 23 rfl) rfl
theorem dX11_number_56 : decode cX11_number 56 = .ok (.iload 5, 2) := dq_21 (kX11_number_1 24 rfl) (kX11_number_1 25 rfl) rfl
theorem dX11_number_58 : decode cX11_number 58 = .ok (.ifCond .eq 25, 3) := dq_153 (kX11_number_1 26 rfl) (kX11_number_1 27 rfl) (kX11_number_1 28 rfl) (by decide)
theorem dX11_number_61 : decode cX11_number 61 = .ok (.aload_n 0, 1) := dq_42 (kX11_number_1 29 rfl)
theorem dX11_number_62 : decode cX11_number 62 = .ok (.getfield 19, 3) := dq_180 (kX11_number_1 30 rfl) (kX11_number_1 31 rfl) (kX11_number_2 0 rfl) rfl
theorem dX11_number_65 : decode cX11_number 65 = .ok (.bipush 107, 2) := dq_16 (kX11_number_2 1 rfl) (kX11_number_2 2 rfl) (by decide)
theorem dX11_number_67 : decode cX11_number 67 = .ok (.iload_n 1, 1) := dq_27 (kX11_number_2 3 rfl)
theorem dX11_number_68 : decode cX11_number 68 = .ok (.bipush 10, 2) := dq_16 (kX11_number_2 4 rfl) (kX11_number_2 5 rfl) (by decide)
theorem dX11_number_70 : decode cX11_number 70 = .ok (.isub, 1) := dq_100 (kX11_number_2 6 rfl)
theorem dX11_number_71 : decode cX11_number 71 = .ok (.iconst 4, 1) := dq_7 (kX11_number_2 7 rfl)
theorem dX11_number_72 : decode cX11_number 72 = .ok (.idiv, 1) := dq_108 (kX11_number_2 8 rfl)
theorem dX11_number_73 : decode cX11_number 73 = .ok (.iload_n 1, 1) := dq_27 (kX11_number_2 9 rfl)
theorem dX11_number_74 : decode cX11_number 74 = .ok (.bipush 10, 2) := dq_16 (kX11_number_2 10 rfl) (kX11_number_2 11 rfl) (by decide)
theorem dX11_number_76 : decode cX11_number 76 = .ok (.isub, 1) := dq_100 (kX11_number_2 12 rfl)
theorem dX11_number_77 : decode cX11_number 77 = .ok (.iconst 4, 1) := dq_7 (kX11_number_2 13 rfl)
theorem dX11_number_78 : decode cX11_number 78 = .ok (.irem, 1) := dq_112 (kX11_number_2 14 rfl)
theorem dX11_number_79 : decode cX11_number 79 = .ok (.invokevirtual 292, 3) := dq_182 (kX11_number_2 15 rfl) (kX11_number_2 16 rfl) (kX11_number_2 17 rfl) rfl
theorem dX11_number_82 : decode cX11_number 82 = .ok (.ireturn, 1) := dq_172 (kX11_number_2 18 rfl)
theorem dX11_number_83 : decode cX11_number 83 = .ok (.iload_n 1, 1) := dq_27 (kX11_number_2 19 rfl)
theorem dX11_number_112 : decode cX11_number 112 = .ok (.iconst 0, 1) := dq_3 (kX11_number_3 16 rfl)
theorem dX11_number_113 : decode cX11_number 113 = .ok (.aload_n 0, 1) := dq_42 (kX11_number_3 17 rfl)
theorem dX11_number_114 : decode cX11_number 114 = .ok (.getfield 19, 3) := dq_180 (kX11_number_3 18 rfl) (kX11_number_3 19 rfl) (kX11_number_3 20 rfl) rfl
theorem dX11_number_117 : decode cX11_number 117 = .ok (.bipush 97, 2) := dq_16 (kX11_number_3 21 rfl) (kX11_number_3 22 rfl) (by decide)
theorem dX11_number_119 : decode cX11_number 119 = .ok (.iconst 0, 1) := dq_3 (kX11_number_3 23 rfl)
theorem dX11_number_120 : decode cX11_number 120 = .ok (.iconst 0, 1) := dq_3 (kX11_number_3 24 rfl)
theorem dX11_number_121 : decode cX11_number 121 = .ok (.invokevirtual 292, 3) := dq_182 (kX11_number_3 25 rfl) (kX11_number_3 26 rfl) (kX11_number_3 27 rfl) rfl
theorem dX11_number_124 : decode cX11_number 124 = .ok (.invokestatic 296, 3) := dq_184 (kX11_number_3 28 rfl) (kX11_number_3 29 rfl) (kX11_number_3 30 rfl) rfl
theorem dX11_number_127 : decode cX11_number 127 = .ok (.ireturn, 1) := dq_172 (kX11_number_3 31 rfl)
theorem dX11_number_128 : decode cX11_number 128 = .ok (.aload_n 0, 1) := dq_42 (kX11_number_4 0 rfl)
theorem dX11_number_129 : decode cX11_number 129 = .ok (.getfield 19, 3) := dq_180 (kX11_number_4 1 rfl) (kX11_number_4 2 rfl) (kX11_number_4 3 rfl) rfl
theorem dX11_number_132 : decode cX11_number 132 = .ok (.bipush 113, 2) := dq_16 (kX11_number_4 4 rfl) (kX11_number_4 5 rfl) (by decide)
theorem dX11_number_134 : decode cX11_number 134 = .ok (.iconst 0, 1) := dq_3 (kX11_number_4 6 rfl)
theorem dX11_number_135 : decode cX11_number 135 = .ok (.iconst 0, 1) := dq_3 (kX11_number_4 7 rfl)
theorem dX11_number_136 : decode cX11_number 136 = .ok (.invokevirtual 292, 3) := dq_182 (kX11_number_4 8 rfl) (kX11_number_4 9 rfl) (kX11_number_4 10 rfl) rfl
theorem dX11_number_139 : decode cX11_number 139 = .ok (.ireturn, 1) := dq_172 (kX11_number_4 11 rfl)
theorem dX11_number_140 : decode cX11_number 140 = .ok (.iconst 0, 1) := dq_3 (kX11_number_4 12 rfl)
theorem dX11_number_141 : decode cX11_number 141 = .ok (.aload_n 0, 1) := dq_42 (kX11_number_4 13 rfl)
theorem dX11_number_142 : decode cX11_number 142 = .ok (.getfield 19, 3) := dq_180 (kX11_number_4 14 rfl) (kX11_number_4 15 rfl) (kX11_number_4 16 rfl) rfl
theorem dX11_number_145 : decode cX11_number 145 = .ok (.bipush 103, 2) := dq_16 (kX11_number_4 17 rfl) (kX11_number_4 18 rfl) (by decide)
theorem dX11_number_147 : decode cX11_number 147 = .ok (.iconst 0, 1) := dq_3 (kX11_number_4 19 rfl)
theorem dX11_number_148 : decode cX11_number 148 = .ok (.iconst 0, 1) := dq_3 (kX11_number_4 20 rfl)
theorem dX11_number_149 : decode cX11_number 149 = .ok (.invokevirtual 292, 3) := dq_182 (kX11_number_4 21 rfl) (kX11_number_4 22 rfl) (kX11_number_4 23 rfl) rfl
theorem dX11_number_152 : decode cX11_number 152 = .ok (.invokestatic 296, 3) := dq_184 (kX11_number_4 24 rfl) (kX11_number_4 25 rfl) (kX11_number_4 26 rfl) rfl
theorem dX11_number_155 : decode cX11_number 155 = .ok (.ireturn, 1) := dq_172 (kX11_number_4 27 rfl)
theorem dX11_number_156 : decode cX11_number 156 = .ok (.aload_n 0, 1) := dq_42 (kX11_number_4 28 rfl)
theorem dX11_number_157 : decode cX11_number 157 = .ok (.getfield 19, 3) := dq_180 (kX11_number_4 29 rfl) (kX11_number_4 30 rfl) (kX11_number_4 31 rfl) rfl
theorem dX11_number_160 : decode cX11_number 160 = .ok (.bipush 122, 2) := dq_16 (kX11_number_5 0 rfl) (kX11_number_5 1 rfl) (by decide)
theorem dX11_number_162 : decode cX11_number 162 = .ok (.iconst 0, 1) := dq_3 (kX11_number_5 2 rfl)
theorem dX11_number_163 : decode cX11_number 163 = .ok (.iconst 0, 1) := dq_3 (kX11_number_5 3 rfl)
theorem dX11_number_164 : decode cX11_number 164 = .ok (.invokevirtual 292, 3) := dq_182 (kX11_number_5 4 rfl) (kX11_number_5 5 rfl) (kX11_number_5 6 rfl) rfl
theorem dX11_number_167 : decode cX11_number 167 = .ok (.iconst (-1), 1) := dq_2 (kX11_number_5 7 rfl)
theorem dX11_number_168 : decode cX11_number 168 = .ok (.if_icmp .ne 7, 3) := dq_160 (kX11_number_5 8 rfl) (kX11_number_5 9 rfl) (kX11_number_5 10 rfl) (by decide)
theorem dX11_number_171 : decode cX11_number 171 = .ok (.iconst 0, 1) := dq_3 (kX11_number_5 11 rfl)
theorem dX11_number_172 : decode cX11_number 172 = .ok (.goto 4, 3) := dq_167 (kX11_number_5 12 rfl) (kX11_number_5 13 rfl) (kX11_number_5 14 rfl) (by decide)
theorem dX11_number_175 : decode cX11_number 175 = .ok (.iconst 1, 1) := dq_4 (kX11_number_5 15 rfl)
theorem dX11_number_176 : decode cX11_number 176 = .ok (.ireturn, 1) := dq_172 (kX11_number_5 16 rfl)
def LX11_number : List (Nat × Instr × Nat) := [(84, .tableswitch 72 0 2 #[28, 44, 56], 28)]
theorem kkX11_number : chkB cX11_number LX11_number = true := by decide +kernel
theorem dX11_number_84 : decode cX11_number 84 = .ok (.tableswitch 72 0 2 #[28, 44, 56], 28) := getB' kkX11_number 0 rfl

def bX11_decides_0 : List UInt8 := [42, 27, 182, 0, 151, 78, 45, 198, 0, 10, 28, 184, 1, 20, 154, 0, 5, 2, 172, 45, 28, 182, 1, 45, 153, 0, 7, 4, 167, 0, 4, 3]
theorem kX11_decides_0 (j : Nat) {b : UInt8} (hj : bX11_decides_0[j]? = some b) : AtB cX11_decides (0 + j) b := at_of32 (by decide +kernel) j hj
def bX11_decides_1 : List UInt8 := [172]
theorem kX11_decides_1 (j : Nat) {b : UInt8} (hj : bX11_decides_1[j]? = some b) : AtB cX11_decides (32 + j) b := at_of32 (by decide +kernel) j hj
theorem dX11_decides_0 : decode cX11_decides 0 = .ok (.aload_n 0, 1) := dq_42 (kX11_decides_0 0 rfl)
theorem dX11_decides_1 : decode cX11_decides 1 = .ok (.iload_n 1, 1) := dq_27 (kX11_decides_0 1 rfl)
theorem dX11_decides_2 : decode cX11_decides 2 = .ok (.invokevirtual 151, 3) := dq_182 (kX11_decides_0 2 rfl) (kX11_decides_0 3 rfl) (kX11_decides_0 4 rfl) rfl
theorem dX11_decides_5 : decode cX11_decides 5 = .ok (.astore_n 3, 1) := dq_78 (kX11_decides_0 5 rfl)
theorem dX11_decides_6 : decode cX11_decides 6 = .ok (.aload_n 3, 1) := dq_45 (kX11_decides_0 6 rfl)
theorem dX11_decides_7 : decode cX11_decides 7 = .ok (.ifnull 10, 3) := dq_198 (kX11_decides_0 7 rfl) (kX11_decides_0 8 rfl) (kX11_decides_0 9 rfl) (by decide)
theorem dX11_decides_10 : decode cX11_decides 10 = .ok (.iload_n 2, 1) := dq_28 (kX11_decides_0 10 rfl)
theorem dX11_decides_11 : decode cX11_decides 11 = .ok (.invokestatic 276, 3) := dq_184 (kX11_decides_0 11 rfl) (kX11_decides_0 12 rfl) (kX11_decides_0 13 rfl) rfl
theorem dX11_decides_14 : decode cX11_decides 14 = .ok (.ifCond .ne 5, 3) := dq_154 (kX11_decides_0 14 rfl) (kX11_decides_0 15 rfl) (kX11_decides_0 16 rfl) (by decide)
theorem dX11_decides_17 : decode cX11_decides 17 = .ok (.iconst (-1), 1) := dq_2 (kX11_decides_0 17 rfl)
theorem dX11_decides_18 : decode cX11_decides 18 = .ok (.ireturn, 1) := dq_172 (kX11_decides_0 18 rfl)
theorem dX11_decides_19 : decode cX11_decides 19 = .ok (.aload_n 3, 1) := dq_45 (kX11_decides_0 19 rfl)
theorem dX11_decides_20 : decode cX11_decides 20 = .ok (.iload_n 2, 1) := dq_28 (kX11_decides_0 20 rfl)
theorem dX11_decides_21 : decode cX11_decides 21 = .ok (.invokevirtual 301, 3) := dq_182 (kX11_decides_0 21 rfl) (kX11_decides_0 22 rfl) (kX11_decides_0 23 rfl) rfl
theorem dX11_decides_24 : decode cX11_decides 24 = .ok (.ifCond .eq 7, 3) := dq_153 (kX11_decides_0 24 rfl) (kX11_decides_0 25 rfl) (kX11_decides_0 26 rfl) (by decide)
theorem dX11_decides_27 : decode cX11_decides 27 = .ok (.iconst 1, 1) := dq_4 (kX11_decides_0 27 rfl)
theorem dX11_decides_28 : decode cX11_decides 28 = .ok (.goto 4, 3) := dq_167 (kX11_decides_0 28 rfl) (kX11_decides_0 29 rfl) (kX11_decides_0 30 rfl) (by decide)
theorem dX11_decides_31 : decode cX11_decides 31 = .ok (.iconst 0, 1) := dq_3 (kX11_decides_0 31 rfl)
theorem dX11_decides_32 : decode cX11_decides 32 = .ok (.ireturn, 1) := dq_172 (kX11_decides_1 0 rfl)

def bX11_claimsAreAsleep_0 : List UInt8 := [42, 180, 0, 19, 27, 44, 42, 180, 0, 12, 180, 0, 145, 182, 1, 23, 42, 180, 0, 19, 16, 122, 3, 3, 182, 1, 36, 2, 159, 0, 7, 4]
theorem kX11_claimsAreAsleep_0 (j : Nat) {b : UInt8} (hj : bX11_claimsAreAsleep_0[j]? = some b) : AtB cX11_claimsAreAsleep (0 + j) b := at_of32 (by decide +kernel) j hj
def bX11_claimsAreAsleep_1 : List UInt8 := [167, 0, 4, 3, 172]
theorem kX11_claimsAreAsleep_1 (j : Nat) {b : UInt8} (hj : bX11_claimsAreAsleep_1[j]? = some b) : AtB cX11_claimsAreAsleep (32 + j) b := at_of32 (by decide +kernel) j hj
theorem dX11_claimsAreAsleep_0 : decode cX11_claimsAreAsleep 0 = .ok (.aload_n 0, 1) := dq_42 (kX11_claimsAreAsleep_0 0 rfl)
theorem dX11_claimsAreAsleep_1 : decode cX11_claimsAreAsleep 1 = .ok (.getfield 19, 3) := dq_180 (kX11_claimsAreAsleep_0 1 rfl) (kX11_claimsAreAsleep_0 2 rfl) (kX11_claimsAreAsleep_0 3 rfl) rfl
theorem dX11_claimsAreAsleep_4 : decode cX11_claimsAreAsleep 4 = .ok (.iload_n 1, 1) := dq_27 (kX11_claimsAreAsleep_0 4 rfl)
theorem dX11_claimsAreAsleep_5 : decode cX11_claimsAreAsleep 5 = .ok (.aload_n 2, 1) := dq_44 (kX11_claimsAreAsleep_0 5 rfl)
theorem dX11_claimsAreAsleep_6 : decode cX11_claimsAreAsleep 6 = .ok (.aload_n 0, 1) := dq_42 (kX11_claimsAreAsleep_0 6 rfl)
theorem dX11_claimsAreAsleep_7 : decode cX11_claimsAreAsleep 7 = .ok (.getfield 12, 3) := dq_180 (kX11_claimsAreAsleep_0 7 rfl) (kX11_claimsAreAsleep_0 8 rfl) (kX11_claimsAreAsleep_0 9 rfl) rfl
theorem dX11_claimsAreAsleep_10 : decode cX11_claimsAreAsleep 10 = .ok (.getfield 145, 3) := dq_180 (kX11_claimsAreAsleep_0 10 rfl) (kX11_claimsAreAsleep_0 11 rfl) (kX11_claimsAreAsleep_0 12 rfl) rfl
theorem dX11_claimsAreAsleep_13 : decode cX11_claimsAreAsleep 13 = .ok (.invokevirtual 279, 3) := dq_182 (kX11_claimsAreAsleep_0 13 rfl) (kX11_claimsAreAsleep_0 14 rfl) (kX11_claimsAreAsleep_0 15 rfl) rfl
theorem dX11_claimsAreAsleep_16 : decode cX11_claimsAreAsleep 16 = .ok (.aload_n 0, 1) := dq_42 (kX11_claimsAreAsleep_0 16 rfl)
theorem dX11_claimsAreAsleep_17 : decode cX11_claimsAreAsleep 17 = .ok (.getfield 19, 3) := dq_180 (kX11_claimsAreAsleep_0 17 rfl) (kX11_claimsAreAsleep_0 18 rfl) (kX11_claimsAreAsleep_0 19 rfl) rfl
theorem dX11_claimsAreAsleep_20 : decode cX11_claimsAreAsleep 20 = .ok (.bipush 122, 2) := dq_16 (kX11_claimsAreAsleep_0 20 rfl) (kX11_claimsAreAsleep_0 21 rfl) (by decide)
theorem dX11_claimsAreAsleep_22 : decode cX11_claimsAreAsleep 22 = .ok (.iconst 0, 1) := dq_3 (kX11_claimsAreAsleep_0 22 rfl)
theorem dX11_claimsAreAsleep_23 : decode cX11_claimsAreAsleep 23 = .ok (.iconst 0, 1) := dq_3 (kX11_claimsAreAsleep_0 23 rfl)
theorem dX11_claimsAreAsleep_24 : decode cX11_claimsAreAsleep 24 = .ok (.invokevirtual 292, 3) := dq_182 (kX11_claimsAreAsleep_0 24 rfl) (kX11_claimsAreAsleep_0 25 rfl) (kX11_claimsAreAsleep_0 26 rfl) rfl
theorem dX11_claimsAreAsleep_27 : decode cX11_claimsAreAsleep 27 = .ok (.iconst (-1), 1) := dq_2 (kX11_claimsAreAsleep_0 27 rfl)
theorem dX11_claimsAreAsleep_28 : decode cX11_claimsAreAsleep 28 = .ok (.if_icmp .eq 7, 3) := dq_159 (kX11_claimsAreAsleep_0 28 rfl) (kX11_claimsAreAsleep_0 29 rfl) (kX11_claimsAreAsleep_0 30 rfl) (by decide)
theorem dX11_claimsAreAsleep_31 : decode cX11_claimsAreAsleep 31 = .ok (.iconst 1, 1) := dq_4 (kX11_claimsAreAsleep_0 31 rfl)
theorem dX11_claimsAreAsleep_32 : decode cX11_claimsAreAsleep 32 = .ok (.goto 4, 3) := dq_167 (kX11_claimsAreAsleep_1 0 rfl) (kX11_claimsAreAsleep_1 1 rfl) (kX11_claimsAreAsleep_1 2 rfl) (by decide)
theorem dX11_claimsAreAsleep_35 : decode cX11_claimsAreAsleep 35 = .ok (.iconst 0, 1) := dq_3 (kX11_claimsAreAsleep_1 3 rfl)
theorem dX11_claimsAreAsleep_36 : decode cX11_claimsAreAsleep 36 = .ok (.ireturn, 1) := dq_172 (kX11_claimsAreAsleep_1 4 rfl)

def bX11_work_0 : List UInt8 := [27, 3, 16, 9, 184, 0, 112, 153, 0, 34, 42, 28, 182, 0, 151, 198, 0, 26, 42, 180, 0, 12, 29, 182, 0, 119, 153, 0, 15, 42, 180, 0]
theorem kX11_work_0 (j : Nat) {b : UInt8} (hj : bX11_work_0[j]? = some b) : AtB cX11_work (0 + j) b := at_of32 (by decide +kernel) j hj
def bX11_work_1 : List UInt8 := [55, 42, 180, 0, 51, 190, 161, 0, 5, 2, 172, 21, 4, 21, 5, 184, 0, 213, 153, 0, 38, 21, 4, 42, 180, 0, 12, 180, 0, 145, 161, 0]
theorem kX11_work_1 (j : Nat) {b : UInt8} (hj : bX11_work_1[j]? = some b) : AtB cX11_work (32 + j) b := at_of32 (by decide +kernel) j hj
def bX11_work_2 : List UInt8 := [26, 21, 6, 3, 17, 1, 244, 184, 0, 112, 153, 0, 14, 21, 7, 3, 16, 99, 184, 0, 112, 154, 0, 5, 2, 172, 187, 0, 49, 89, 27, 28]
theorem kX11_work_2 (j : Nat) {b : UInt8} (hj : bX11_work_2[j]? = some b) : AtB cX11_work (64 + j) b := at_of32 (by decide +kernel) j hj
def bX11_work_3 : List UInt8 := [29, 21, 4, 21, 5, 183, 1, 48, 58, 8, 25, 8, 21, 6, 181, 1, 49, 25, 8, 21, 7, 181, 1, 50, 42, 180, 0, 51, 42, 180, 0, 55]
theorem kX11_work_3 (j : Nat) {b : UInt8} (hj : bX11_work_3[j]? = some b) : AtB cX11_work (96 + j) b := at_of32 (by decide +kernel) j hj
def bX11_work_4 : List UInt8 := [25, 8, 83, 42, 89, 180, 0, 55, 90, 4, 96, 181, 0, 55, 172]
theorem kX11_work_4 (j : Nat) {b : UInt8} (hj : bX11_work_4[j]? = some b) : AtB cX11_work (128 + j) b := at_of32 (by decide +kernel) j hj
theorem dX11_work_0 : decode cX11_work 0 = .ok (.iload_n 1, 1) := dq_27 (kX11_work_0 0 rfl)
theorem dX11_work_1 : decode cX11_work 1 = .ok (.iconst 0, 1) := dq_3 (kX11_work_0 1 rfl)
theorem dX11_work_2 : decode cX11_work 2 = .ok (.bipush 9, 2) := dq_16 (kX11_work_0 2 rfl) (kX11_work_0 3 rfl) (by decide)
theorem dX11_work_4 : decode cX11_work 4 = .ok (.invokestatic 112, 3) := dq_184 (kX11_work_0 4 rfl) (kX11_work_0 5 rfl) (kX11_work_0 6 rfl) rfl
theorem dX11_work_7 : decode cX11_work 7 = .ok (.ifCond .eq 34, 3) := dq_153 (kX11_work_0 7 rfl) (kX11_work_0 8 rfl) (kX11_work_0 9 rfl) (by decide)
theorem dX11_work_10 : decode cX11_work 10 = .ok (.aload_n 0, 1) := dq_42 (kX11_work_0 10 rfl)
theorem dX11_work_11 : decode cX11_work 11 = .ok (.iload_n 2, 1) := dq_28 (kX11_work_0 11 rfl)
theorem dX11_work_12 : decode cX11_work 12 = .ok (.invokevirtual 151, 3) := dq_182 (kX11_work_0 12 rfl) (kX11_work_0 13 rfl) (kX11_work_0 14 rfl) rfl
theorem dX11_work_15 : decode cX11_work 15 = .ok (.ifnull 26, 3) := dq_198 (kX11_work_0 15 rfl) (kX11_work_0 16 rfl) (kX11_work_0 17 rfl) (by decide)
theorem dX11_work_18 : decode cX11_work 18 = .ok (.aload_n 0, 1) := dq_42 (kX11_work_0 18 rfl)
theorem dX11_work_19 : decode cX11_work 19 = .ok (.getfield 12, 3) := dq_180 (kX11_work_0 19 rfl) (kX11_work_0 20 rfl) (kX11_work_0 21 rfl) rfl
theorem dX11_work_22 : decode cX11_work 22 = .ok (.iload_n 3, 1) := dq_29 (kX11_work_0 22 rfl)
theorem dX11_work_23 : decode cX11_work 23 = .ok (.invokevirtual 119, 3) := dq_182 (kX11_work_0 23 rfl) (kX11_work_0 24 rfl) (kX11_work_0 25 rfl) rfl
theorem dX11_work_26 : decode cX11_work 26 = .ok (.ifCond .eq 15, 3) := dq_153 (kX11_work_0 26 rfl) (kX11_work_0 27 rfl) (kX11_work_0 28 rfl) (by decide)
theorem dX11_work_29 : decode cX11_work 29 = .ok (.aload_n 0, 1) := dq_42 (kX11_work_0 29 rfl)
theorem dX11_work_30 : decode cX11_work 30 = .ok (.getfield 55, 3) := dq_180 (kX11_work_0 30 rfl) (kX11_work_0 31 rfl) (kX11_work_1 0 rfl) rfl
theorem dX11_work_33 : decode cX11_work 33 = .ok (.aload_n 0, 1) := dq_42 (kX11_work_1 1 rfl)
theorem dX11_work_34 : decode cX11_work 34 = .ok (.getfield 51, 3) := dq_180 (kX11_work_1 2 rfl) (kX11_work_1 3 rfl) (kX11_work_1 4 rfl) rfl
theorem dX11_work_37 : decode cX11_work 37 = .ok (.arraylength, 1) := dq_190 (kX11_work_1 5 rfl)
theorem dX11_work_38 : decode cX11_work 38 = .ok (.if_icmp .lt 5, 3) := dq_161 (kX11_work_1 6 rfl) (kX11_work_1 7 rfl) (kX11_work_1 8 rfl) (by decide)
theorem dX11_work_41 : decode cX11_work 41 = .ok (.iconst (-1), 1) := dq_2 (kX11_work_1 9 rfl)
theorem dX11_work_42 : decode cX11_work 42 = .ok (.ireturn, 1) := dq_172 (kX11_work_1 10 rfl)
theorem dX11_work_43 : decode cX11_work 43 = .ok (.iload 4, 2) := dq_21 (kX11_work_1 11 rfl) (kX11_work_1 12 rfl) rfl
theorem dX11_work_45 : decode cX11_work 45 = .ok (.iload 5, 2) := dq_21 (kX11_work_1 13 rfl) (kX11_work_1 14 rfl) rfl
theorem dX11_work_47 : decode cX11_work 47 = .ok (.invokestatic 213, 3) := dq_184 (kX11_work_1 15 rfl) (kX11_work_1 16 rfl) (kX11_work_1 17 rfl) rfl
theorem dX11_work_50 : decode cX11_work 50 = .ok (.ifCond .eq 38, 3) := dq_153 (kX11_work_1 18 rfl) (kX11_work_1 19 rfl) (kX11_work_1 20 rfl) (by decide)
theorem dX11_work_53 : decode cX11_work 53 = .ok (.iload 4, 2) := dq_21 (kX11_work_1 21 rfl) (kX11_work_1 22 rfl) rfl
theorem dX11_work_55 : decode cX11_work 55 = .ok (.aload_n 0, 1) := dq_42 (kX11_work_1 23 rfl)
theorem dX11_work_56 : decode cX11_work 56 = .ok (.getfield 12, 3) := dq_180 (kX11_work_1 24 rfl) (kX11_work_1 25 rfl) (kX11_work_1 26 rfl) rfl
theorem dX11_work_59 : decode cX11_work 59 = .ok (.getfield 145, 3) := dq_180 (kX11_work_1 27 rfl) (kX11_work_1 28 rfl) (kX11_work_1 29 rfl) rfl
theorem dX11_work_62 : decode cX11_work 62 = .ok (.if_icmp .lt 26, 3) := dq_161 (kX11_work_1 30 rfl) (kX11_work_1 31 rfl) (kX11_work_2 0 rfl) (by decide)
theorem dX11_work_65 : decode cX11_work 65 = .ok (.iload 6, 2) := dq_21 (kX11_work_2 1 rfl) (kX11_work_2 2 rfl) rfl
theorem dX11_work_67 : decode cX11_work 67 = .ok (.iconst 0, 1) := dq_3 (kX11_work_2 3 rfl)
theorem dX11_work_68 : decode cX11_work 68 = .ok (.sipush 500, 3) := dq_17 (kX11_work_2 4 rfl) (kX11_work_2 5 rfl) (kX11_work_2 6 rfl) (by decide)
theorem dX11_work_71 : decode cX11_work 71 = .ok (.invokestatic 112, 3) := dq_184 (kX11_work_2 7 rfl) (kX11_work_2 8 rfl) (kX11_work_2 9 rfl) rfl
theorem dX11_work_74 : decode cX11_work 74 = .ok (.ifCond .eq 14, 3) := dq_153 (kX11_work_2 10 rfl) (kX11_work_2 11 rfl) (kX11_work_2 12 rfl) (by decide)
theorem dX11_work_77 : decode cX11_work 77 = .ok (.iload 7, 2) := dq_21 (kX11_work_2 13 rfl) (kX11_work_2 14 rfl) rfl
theorem dX11_work_79 : decode cX11_work 79 = .ok (.iconst 0, 1) := dq_3 (kX11_work_2 15 rfl)
theorem dX11_work_80 : decode cX11_work 80 = .ok (.bipush 99, 2) := dq_16 (kX11_work_2 16 rfl) (kX11_work_2 17 rfl) (by decide)
theorem dX11_work_82 : decode cX11_work 82 = .ok (.invokestatic 112, 3) := dq_184 (kX11_work_2 18 rfl) (kX11_work_2 19 rfl) (kX11_work_2 20 rfl) rfl
theorem dX11_work_85 : decode cX11_work 85 = .ok (.ifCond .ne 5, 3) := dq_154 (kX11_work_2 21 rfl) (kX11_work_2 22 rfl) (kX11_work_2 23 rfl) (by decide)
theorem dX11_work_88 : decode cX11_work 88 = .ok (.iconst (-1), 1) := dq_2 (kX11_work_2 24 rfl)
theorem dX11_work_89 : decode cX11_work 89 = .ok (.ireturn, 1) := dq_172 (kX11_work_2 25 rfl)
theorem dX11_work_90 : decode cX11_work 90 = .ok (.new 49, 3) := dq_187 (kX11_work_2 26 rfl) (kX11_work_2 27 rfl) (kX11_work_2 28 rfl) rfl
theorem dX11_work_93 : decode cX11_work 93 = .ok (.dup, 1) := dq_89 (kX11_work_2 29 rfl)
theorem dX11_work_94 : decode cX11_work 94 = .ok (.iload_n 1, 1) := dq_27 (kX11_work_2 30 rfl)
theorem dX11_work_95 : decode cX11_work 95 = .ok (.iload_n 2, 1) := dq_28 (kX11_work_2 31 rfl)
theorem dX11_work_96 : decode cX11_work 96 = .ok (.iload_n 3, 1) := dq_29 (kX11_work_3 0 rfl)
theorem dX11_work_97 : decode cX11_work 97 = .ok (.iload 4, 2) := dq_21 (kX11_work_3 1 rfl) (kX11_work_3 2 rfl) rfl
theorem dX11_work_99 : decode cX11_work 99 = .ok (.iload 5, 2) := dq_21 (kX11_work_3 3 rfl) (kX11_work_3 4 rfl) rfl
theorem dX11_work_101 : decode cX11_work 101 = .ok (.invokespecial 304, 3) := dq_183 (kX11_work_3 5 rfl) (kX11_work_3 6 rfl) (kX11_work_3 7 rfl) rfl
theorem dX11_work_104 : decode cX11_work 104 = .ok (.astore 8, 2) := dq_58 (kX11_work_3 8 rfl) (kX11_work_3 9 rfl) rfl
theorem dX11_work_106 : decode cX11_work 106 = .ok (.aload 8, 2) := dq_25 (kX11_work_3 10 rfl) (kX11_work_3 11 rfl) rfl
theorem dX11_work_108 : decode cX11_work 108 = .ok (.iload 6, 2) := dq_21 (kX11_work_3 12 rfl) (kX11_work_3 13 rfl) rfl
theorem dX11_work_110 : decode cX11_work 110 = .ok (.putfield 305, 3) := dq_181 (kX11_work_3 14 rfl) (kX11_work_3 15 rfl) (kX11_work_3 16 rfl) rfl
theorem dX11_work_113 : decode cX11_work 113 = .ok (.aload 8, 2) := dq_25 (kX11_work_3 17 rfl) (kX11_work_3 18 rfl) rfl
theorem dX11_work_115 : decode cX11_work 115 = .ok (.iload 7, 2) := dq_21 (kX11_work_3 19 rfl) (kX11_work_3 20 rfl) rfl
theorem dX11_work_117 : decode cX11_work 117 = .ok (.putfield 306, 3) := dq_181 (kX11_work_3 21 rfl) (kX11_work_3 22 rfl) (kX11_work_3 23 rfl) rfl
theorem dX11_work_120 : decode cX11_work 120 = .ok (.aload_n 0, 1) := dq_42 (kX11_work_3 24 rfl)
theorem dX11_work_121 : decode cX11_work 121 = .ok (.getfield 51, 3) := dq_180 (kX11_work_3 25 rfl) (kX11_work_3 26 rfl) (kX11_work_3 27 rfl) rfl
theorem dX11_work_124 : decode cX11_work 124 = .ok (.aload_n 0, 1) := dq_42 (kX11_work_3 28 rfl)
theorem dX11_work_125 : decode cX11_work 125 = .ok (.getfield 55, 3) := dq_180 (kX11_work_3 29 rfl) (kX11_work_3 30 rfl) (kX11_work_3 31 rfl) rfl
theorem dX11_work_128 : decode cX11_work 128 = .ok (.aload 8, 2) := dq_25 (kX11_work_4 0 rfl) (kX11_work_4 1 rfl) rfl
theorem dX11_work_130 : decode cX11_work 130 = .ok (.aastore, 1) := dq_83 (kX11_work_4 2 rfl)
theorem dX11_work_131 : decode cX11_work 131 = .ok (.aload_n 0, 1) := dq_42 (kX11_work_4 3 rfl)
theorem dX11_work_132 : decode cX11_work 132 = .ok (.dup, 1) := dq_89 (kX11_work_4 4 rfl)
theorem dX11_work_133 : decode cX11_work 133 = .ok (.getfield 55, 3) := dq_180 (kX11_work_4 5 rfl) (kX11_work_4 6 rfl) (kX11_work_4 7 rfl) rfl
theorem dX11_work_136 : decode cX11_work 136 = .ok (.dup_x1, 1) := dq_90 (kX11_work_4 8 rfl)
theorem dX11_work_137 : decode cX11_work 137 = .ok (.iconst 1, 1) := dq_4 (kX11_work_4 9 rfl)
theorem dX11_work_138 : decode cX11_work 138 = .ok (.iadd, 1) := dq_96 (kX11_work_4 10 rfl)
theorem dX11_work_139 : decode cX11_work 139 = .ok (.putfield 55, 3) := dq_181 (kX11_work_4 11 rfl) (kX11_work_4 12 rfl) (kX11_work_4 13 rfl) rfl
theorem dX11_work_142 : decode cX11_work 142 = .ok (.ireturn, 1) := dq_172 (kX11_work_4 14 rfl)

def bX11_tell_0 : List UInt8 := [42, 27, 182, 1, 53, 78, 45, 199, 0, 5, 3, 172, 28, 154, 0, 24, 45, 180, 1, 57, 2, 160, 0, 16, 45, 42, 180, 0, 12, 180, 0, 145]
theorem kX11_tell_0 (j : Nat) {b : UInt8} (hj : bX11_tell_0[j]? = some b) : AtB cX11_tell (0 + j) b := at_of32 (by decide +kernel) j hj
def bX11_tell_1 : List UInt8 := [181, 1, 57, 4, 172, 28, 4, 160, 0, 24, 45, 180, 1, 60, 2, 160, 0, 16, 45, 42, 180, 0, 12, 180, 0, 145, 181, 1, 60, 4, 172, 3]
theorem kX11_tell_1 (j : Nat) {b : UInt8} (hj : bX11_tell_1[j]? = some b) : AtB cX11_tell (32 + j) b := at_of32 (by decide +kernel) j hj
def bX11_tell_2 : List UInt8 := [172]
theorem kX11_tell_2 (j : Nat) {b : UInt8} (hj : bX11_tell_2[j]? = some b) : AtB cX11_tell (64 + j) b := at_of32 (by decide +kernel) j hj
theorem dX11_tell_0 : decode cX11_tell 0 = .ok (.aload_n 0, 1) := dq_42 (kX11_tell_0 0 rfl)
theorem dX11_tell_1 : decode cX11_tell 1 = .ok (.iload_n 1, 1) := dq_27 (kX11_tell_0 1 rfl)
theorem dX11_tell_2 : decode cX11_tell 2 = .ok (.invokevirtual 309, 3) := dq_182 (kX11_tell_0 2 rfl) (kX11_tell_0 3 rfl) (kX11_tell_0 4 rfl) rfl
theorem dX11_tell_5 : decode cX11_tell 5 = .ok (.astore_n 3, 1) := dq_78 (kX11_tell_0 5 rfl)
theorem dX11_tell_6 : decode cX11_tell 6 = .ok (.aload_n 3, 1) := dq_45 (kX11_tell_0 6 rfl)
theorem dX11_tell_7 : decode cX11_tell 7 = .ok (.ifnonnull 5, 3) := dq_199 (kX11_tell_0 7 rfl) (kX11_tell_0 8 rfl) (kX11_tell_0 9 rfl) (by decide)
theorem dX11_tell_10 : decode cX11_tell 10 = .ok (.iconst 0, 1) := dq_3 (kX11_tell_0 10 rfl)
theorem dX11_tell_11 : decode cX11_tell 11 = .ok (.ireturn, 1) := dq_172 (kX11_tell_0 11 rfl)
theorem dX11_tell_12 : decode cX11_tell 12 = .ok (.iload_n 2, 1) := dq_28 (kX11_tell_0 12 rfl)
theorem dX11_tell_13 : decode cX11_tell 13 = .ok (.ifCond .ne 24, 3) := dq_154 (kX11_tell_0 13 rfl) (kX11_tell_0 14 rfl) (kX11_tell_0 15 rfl) (by decide)
theorem dX11_tell_16 : decode cX11_tell 16 = .ok (.aload_n 3, 1) := dq_45 (kX11_tell_0 16 rfl)
theorem dX11_tell_17 : decode cX11_tell 17 = .ok (.getfield 313, 3) := dq_180 (kX11_tell_0 17 rfl) (kX11_tell_0 18 rfl) (kX11_tell_0 19 rfl) rfl
theorem dX11_tell_20 : decode cX11_tell 20 = .ok (.iconst (-1), 1) := dq_2 (kX11_tell_0 20 rfl)
theorem dX11_tell_21 : decode cX11_tell 21 = .ok (.if_icmp .ne 16, 3) := dq_160 (kX11_tell_0 21 rfl) (kX11_tell_0 22 rfl) (kX11_tell_0 23 rfl) (by decide)
theorem dX11_tell_24 : decode cX11_tell 24 = .ok (.aload_n 3, 1) := dq_45 (kX11_tell_0 24 rfl)
theorem dX11_tell_25 : decode cX11_tell 25 = .ok (.aload_n 0, 1) := dq_42 (kX11_tell_0 25 rfl)
theorem dX11_tell_26 : decode cX11_tell 26 = .ok (.getfield 12, 3) := dq_180 (kX11_tell_0 26 rfl) (kX11_tell_0 27 rfl) (kX11_tell_0 28 rfl) rfl
theorem dX11_tell_29 : decode cX11_tell 29 = .ok (.getfield 145, 3) := dq_180 (kX11_tell_0 29 rfl) (kX11_tell_0 30 rfl) (kX11_tell_0 31 rfl) rfl
theorem dX11_tell_32 : decode cX11_tell 32 = .ok (.putfield 313, 3) := dq_181 (kX11_tell_1 0 rfl) (kX11_tell_1 1 rfl) (kX11_tell_1 2 rfl) rfl
theorem dX11_tell_35 : decode cX11_tell 35 = .ok (.iconst 1, 1) := dq_4 (kX11_tell_1 3 rfl)
theorem dX11_tell_36 : decode cX11_tell 36 = .ok (.ireturn, 1) := dq_172 (kX11_tell_1 4 rfl)
theorem dX11_tell_37 : decode cX11_tell 37 = .ok (.iload_n 2, 1) := dq_28 (kX11_tell_1 5 rfl)
theorem dX11_tell_38 : decode cX11_tell 38 = .ok (.iconst 1, 1) := dq_4 (kX11_tell_1 6 rfl)
theorem dX11_tell_39 : decode cX11_tell 39 = .ok (.if_icmp .ne 24, 3) := dq_160 (kX11_tell_1 7 rfl) (kX11_tell_1 8 rfl) (kX11_tell_1 9 rfl) (by decide)
theorem dX11_tell_42 : decode cX11_tell 42 = .ok (.aload_n 3, 1) := dq_45 (kX11_tell_1 10 rfl)
theorem dX11_tell_43 : decode cX11_tell 43 = .ok (.getfield 316, 3) := dq_180 (kX11_tell_1 11 rfl) (kX11_tell_1 12 rfl) (kX11_tell_1 13 rfl) rfl
theorem dX11_tell_46 : decode cX11_tell 46 = .ok (.iconst (-1), 1) := dq_2 (kX11_tell_1 14 rfl)
theorem dX11_tell_47 : decode cX11_tell 47 = .ok (.if_icmp .ne 16, 3) := dq_160 (kX11_tell_1 15 rfl) (kX11_tell_1 16 rfl) (kX11_tell_1 17 rfl) (by decide)
theorem dX11_tell_50 : decode cX11_tell 50 = .ok (.aload_n 3, 1) := dq_45 (kX11_tell_1 18 rfl)
theorem dX11_tell_51 : decode cX11_tell 51 = .ok (.aload_n 0, 1) := dq_42 (kX11_tell_1 19 rfl)
theorem dX11_tell_52 : decode cX11_tell 52 = .ok (.getfield 12, 3) := dq_180 (kX11_tell_1 20 rfl) (kX11_tell_1 21 rfl) (kX11_tell_1 22 rfl) rfl
theorem dX11_tell_55 : decode cX11_tell 55 = .ok (.getfield 145, 3) := dq_180 (kX11_tell_1 23 rfl) (kX11_tell_1 24 rfl) (kX11_tell_1 25 rfl) rfl
theorem dX11_tell_58 : decode cX11_tell 58 = .ok (.putfield 316, 3) := dq_181 (kX11_tell_1 26 rfl) (kX11_tell_1 27 rfl) (kX11_tell_1 28 rfl) rfl
theorem dX11_tell_61 : decode cX11_tell 61 = .ok (.iconst 1, 1) := dq_4 (kX11_tell_1 29 rfl)
theorem dX11_tell_62 : decode cX11_tell 62 = .ok (.ireturn, 1) := dq_172 (kX11_tell_1 30 rfl)
theorem dX11_tell_63 : decode cX11_tell 63 = .ok (.iconst 0, 1) := dq_3 (kX11_tell_1 31 rfl)
theorem dX11_tell_64 : decode cX11_tell 64 = .ok (.ireturn, 1) := dq_172 (kX11_tell_2 0 rfl)

def bX11_study_0 : List UInt8 := [42, 27, 182, 1, 53, 78, 45, 198, 0, 22, 28, 3, 17, 3, 232, 184, 0, 112, 153, 0, 11, 45, 180, 1, 63, 2, 159, 0, 5, 3, 172, 45]
theorem kX11_study_0 (j : Nat) {b : UInt8} (hj : bX11_study_0[j]? = some b) : AtB cX11_study (0 + j) b := at_of32 (by decide +kernel) j hj
def bX11_study_1 : List UInt8 := [42, 180, 0, 12, 180, 0, 145, 181, 1, 63, 45, 28, 181, 1, 66, 4, 172]
theorem kX11_study_1 (j : Nat) {b : UInt8} (hj : bX11_study_1[j]? = some b) : AtB cX11_study (32 + j) b := at_of32 (by decide +kernel) j hj
theorem dX11_study_0 : decode cX11_study 0 = .ok (.aload_n 0, 1) := dq_42 (kX11_study_0 0 rfl)
theorem dX11_study_1 : decode cX11_study 1 = .ok (.iload_n 1, 1) := dq_27 (kX11_study_0 1 rfl)
theorem dX11_study_2 : decode cX11_study 2 = .ok (.invokevirtual 309, 3) := dq_182 (kX11_study_0 2 rfl) (kX11_study_0 3 rfl) (kX11_study_0 4 rfl) rfl
theorem dX11_study_5 : decode cX11_study 5 = .ok (.astore_n 3, 1) := dq_78 (kX11_study_0 5 rfl)
theorem dX11_study_6 : decode cX11_study 6 = .ok (.aload_n 3, 1) := dq_45 (kX11_study_0 6 rfl)
theorem dX11_study_7 : decode cX11_study 7 = .ok (.ifnull 22, 3) := dq_198 (kX11_study_0 7 rfl) (kX11_study_0 8 rfl) (kX11_study_0 9 rfl) (by decide)
theorem dX11_study_10 : decode cX11_study 10 = .ok (.iload_n 2, 1) := dq_28 (kX11_study_0 10 rfl)
theorem dX11_study_11 : decode cX11_study 11 = .ok (.iconst 0, 1) := dq_3 (kX11_study_0 11 rfl)
theorem dX11_study_12 : decode cX11_study 12 = .ok (.sipush 1000, 3) := dq_17 (kX11_study_0 12 rfl) (kX11_study_0 13 rfl) (kX11_study_0 14 rfl) (by decide)
theorem dX11_study_15 : decode cX11_study 15 = .ok (.invokestatic 112, 3) := dq_184 (kX11_study_0 15 rfl) (kX11_study_0 16 rfl) (kX11_study_0 17 rfl) rfl
theorem dX11_study_18 : decode cX11_study 18 = .ok (.ifCond .eq 11, 3) := dq_153 (kX11_study_0 18 rfl) (kX11_study_0 19 rfl) (kX11_study_0 20 rfl) (by decide)
theorem dX11_study_21 : decode cX11_study 21 = .ok (.aload_n 3, 1) := dq_45 (kX11_study_0 21 rfl)
theorem dX11_study_22 : decode cX11_study 22 = .ok (.getfield 319, 3) := dq_180 (kX11_study_0 22 rfl) (kX11_study_0 23 rfl) (kX11_study_0 24 rfl) rfl
theorem dX11_study_25 : decode cX11_study 25 = .ok (.iconst (-1), 1) := dq_2 (kX11_study_0 25 rfl)
theorem dX11_study_26 : decode cX11_study 26 = .ok (.if_icmp .eq 5, 3) := dq_159 (kX11_study_0 26 rfl) (kX11_study_0 27 rfl) (kX11_study_0 28 rfl) (by decide)
theorem dX11_study_29 : decode cX11_study 29 = .ok (.iconst 0, 1) := dq_3 (kX11_study_0 29 rfl)
theorem dX11_study_30 : decode cX11_study 30 = .ok (.ireturn, 1) := dq_172 (kX11_study_0 30 rfl)
theorem dX11_study_31 : decode cX11_study 31 = .ok (.aload_n 3, 1) := dq_45 (kX11_study_0 31 rfl)
theorem dX11_study_32 : decode cX11_study 32 = .ok (.aload_n 0, 1) := dq_42 (kX11_study_1 0 rfl)
theorem dX11_study_33 : decode cX11_study 33 = .ok (.getfield 12, 3) := dq_180 (kX11_study_1 1 rfl) (kX11_study_1 2 rfl) (kX11_study_1 3 rfl) rfl
theorem dX11_study_36 : decode cX11_study 36 = .ok (.getfield 145, 3) := dq_180 (kX11_study_1 4 rfl) (kX11_study_1 5 rfl) (kX11_study_1 6 rfl) rfl
theorem dX11_study_39 : decode cX11_study 39 = .ok (.putfield 319, 3) := dq_181 (kX11_study_1 7 rfl) (kX11_study_1 8 rfl) (kX11_study_1 9 rfl) rfl
theorem dX11_study_42 : decode cX11_study 42 = .ok (.aload_n 3, 1) := dq_45 (kX11_study_1 10 rfl)
theorem dX11_study_43 : decode cX11_study 43 = .ok (.iload_n 2, 1) := dq_28 (kX11_study_1 11 rfl)
theorem dX11_study_44 : decode cX11_study 44 = .ok (.putfield 322, 3) := dq_181 (kX11_study_1 12 rfl) (kX11_study_1 13 rfl) (kX11_study_1 14 rfl) rfl
theorem dX11_study_47 : decode cX11_study 47 = .ok (.iconst 1, 1) := dq_4 (kX11_study_1 15 rfl)
theorem dX11_study_48 : decode cX11_study 48 = .ok (.ireturn, 1) := dq_172 (kX11_study_1 16 rfl)

def bX11_say_0 : List UInt8 := [42, 28, 182, 1, 53, 58, 4, 42, 27, 182, 0, 151, 198, 0, 8, 25, 4, 199, 0, 5, 3, 172, 4, 27, 120, 54, 5, 25, 4, 29, 153, 0]
theorem kX11_say_0 (j : Nat) {b : UInt8} (hj : bX11_say_0[j]? = some b) : AtB cX11_say (0 + j) b := at_of32 (by decide +kernel) j hj
def bX11_say_1 : List UInt8 := [14, 25, 4, 180, 1, 69, 21, 5, 128, 167, 0, 13, 25, 4, 180, 1, 69, 21, 5, 2, 130, 126, 181, 1, 69, 25, 4, 29, 153, 0, 16, 25]
theorem kX11_say_1 (j : Nat) {b : UInt8} (hj : bX11_say_1[j]? = some b) : AtB cX11_say (32 + j) b := at_of32 (by decide +kernel) j hj
def bX11_say_2 : List UInt8 := [4, 180, 1, 72, 21, 5, 2, 130, 126, 167, 0, 11, 25, 4, 180, 1, 72, 21, 5, 128, 181, 1, 72, 4, 172]
theorem kX11_say_2 (j : Nat) {b : UInt8} (hj : bX11_say_2[j]? = some b) : AtB cX11_say (64 + j) b := at_of32 (by decide +kernel) j hj
theorem dX11_say_0 : decode cX11_say 0 = .ok (.aload_n 0, 1) := dq_42 (kX11_say_0 0 rfl)
theorem dX11_say_1 : decode cX11_say 1 = .ok (.iload_n 2, 1) := dq_28 (kX11_say_0 1 rfl)
theorem dX11_say_2 : decode cX11_say 2 = .ok (.invokevirtual 309, 3) := dq_182 (kX11_say_0 2 rfl) (kX11_say_0 3 rfl) (kX11_say_0 4 rfl) rfl
theorem dX11_say_5 : decode cX11_say 5 = .ok (.astore 4, 2) := dq_58 (kX11_say_0 5 rfl) (kX11_say_0 6 rfl) rfl
theorem dX11_say_7 : decode cX11_say 7 = .ok (.aload_n 0, 1) := dq_42 (kX11_say_0 7 rfl)
theorem dX11_say_8 : decode cX11_say 8 = .ok (.iload_n 1, 1) := dq_27 (kX11_say_0 8 rfl)
theorem dX11_say_9 : decode cX11_say 9 = .ok (.invokevirtual 151, 3) := dq_182 (kX11_say_0 9 rfl) (kX11_say_0 10 rfl) (kX11_say_0 11 rfl) rfl
theorem dX11_say_12 : decode cX11_say 12 = .ok (.ifnull 8, 3) := dq_198 (kX11_say_0 12 rfl) (kX11_say_0 13 rfl) (kX11_say_0 14 rfl) (by decide)
theorem dX11_say_15 : decode cX11_say 15 = .ok (.aload 4, 2) := dq_25 (kX11_say_0 15 rfl) (kX11_say_0 16 rfl) rfl
theorem dX11_say_17 : decode cX11_say 17 = .ok (.ifnonnull 5, 3) := dq_199 (kX11_say_0 17 rfl) (kX11_say_0 18 rfl) (kX11_say_0 19 rfl) (by decide)
theorem dX11_say_20 : decode cX11_say 20 = .ok (.iconst 0, 1) := dq_3 (kX11_say_0 20 rfl)
theorem dX11_say_21 : decode cX11_say 21 = .ok (.ireturn, 1) := dq_172 (kX11_say_0 21 rfl)
theorem dX11_say_22 : decode cX11_say 22 = .ok (.iconst 1, 1) := dq_4 (kX11_say_0 22 rfl)
theorem dX11_say_23 : decode cX11_say 23 = .ok (.iload_n 1, 1) := dq_27 (kX11_say_0 23 rfl)
theorem dX11_say_24 : decode cX11_say 24 = .ok (.ishl, 1) := dq_120 (kX11_say_0 24 rfl)
theorem dX11_say_25 : decode cX11_say 25 = .ok (.istore 5, 2) := dq_54 (kX11_say_0 25 rfl) (kX11_say_0 26 rfl) rfl
theorem dX11_say_27 : decode cX11_say 27 = .ok (.aload 4, 2) := dq_25 (kX11_say_0 27 rfl) (kX11_say_0 28 rfl) rfl
theorem dX11_say_29 : decode cX11_say 29 = .ok (.iload_n 3, 1) := dq_29 (kX11_say_0 29 rfl)
theorem dX11_say_30 : decode cX11_say 30 = .ok (.ifCond .eq 14, 3) := dq_153 (kX11_say_0 30 rfl) (kX11_say_0 31 rfl) (kX11_say_1 0 rfl) (by decide)
theorem dX11_say_33 : decode cX11_say 33 = .ok (.aload 4, 2) := dq_25 (kX11_say_1 1 rfl) (kX11_say_1 2 rfl) rfl
theorem dX11_say_35 : decode cX11_say 35 = .ok (.getfield 325, 3) := dq_180 (kX11_say_1 3 rfl) (kX11_say_1 4 rfl) (kX11_say_1 5 rfl) rfl
theorem dX11_say_38 : decode cX11_say 38 = .ok (.iload 5, 2) := dq_21 (kX11_say_1 6 rfl) (kX11_say_1 7 rfl) rfl
theorem dX11_say_40 : decode cX11_say 40 = .ok (.ior, 1) := dq_128 (kX11_say_1 8 rfl)
theorem dX11_say_41 : decode cX11_say 41 = .ok (.goto 13, 3) := dq_167 (kX11_say_1 9 rfl) (kX11_say_1 10 rfl) (kX11_say_1 11 rfl) (by decide)
theorem dX11_say_44 : decode cX11_say 44 = .ok (.aload 4, 2) := dq_25 (kX11_say_1 12 rfl) (kX11_say_1 13 rfl) rfl
theorem dX11_say_46 : decode cX11_say 46 = .ok (.getfield 325, 3) := dq_180 (kX11_say_1 14 rfl) (kX11_say_1 15 rfl) (kX11_say_1 16 rfl) rfl
theorem dX11_say_49 : decode cX11_say 49 = .ok (.iload 5, 2) := dq_21 (kX11_say_1 17 rfl) (kX11_say_1 18 rfl) rfl
theorem dX11_say_51 : decode cX11_say 51 = .ok (.iconst (-1), 1) := dq_2 (kX11_say_1 19 rfl)
theorem dX11_say_52 : decode cX11_say 52 = .ok (.ixor, 1) := dq_130 (kX11_say_1 20 rfl)
theorem dX11_say_53 : decode cX11_say 53 = .ok (.iand, 1) := dq_126 (kX11_say_1 21 rfl)
theorem dX11_say_54 : decode cX11_say 54 = .ok (.putfield 325, 3) := dq_181 (kX11_say_1 22 rfl) (kX11_say_1 23 rfl) (kX11_say_1 24 rfl) rfl
theorem dX11_say_57 : decode cX11_say 57 = .ok (.aload 4, 2) := dq_25 (kX11_say_1 25 rfl) (kX11_say_1 26 rfl) rfl
theorem dX11_say_59 : decode cX11_say 59 = .ok (.iload_n 3, 1) := dq_29 (kX11_say_1 27 rfl)
theorem dX11_say_60 : decode cX11_say 60 = .ok (.ifCond .eq 16, 3) := dq_153 (kX11_say_1 28 rfl) (kX11_say_1 29 rfl) (kX11_say_1 30 rfl) (by decide)
theorem dX11_say_63 : decode cX11_say 63 = .ok (.aload 4, 2) := dq_25 (kX11_say_1 31 rfl) (kX11_say_2 0 rfl) rfl
theorem dX11_say_65 : decode cX11_say 65 = .ok (.getfield 328, 3) := dq_180 (kX11_say_2 1 rfl) (kX11_say_2 2 rfl) (kX11_say_2 3 rfl) rfl
theorem dX11_say_68 : decode cX11_say 68 = .ok (.iload 5, 2) := dq_21 (kX11_say_2 4 rfl) (kX11_say_2 5 rfl) rfl
theorem dX11_say_70 : decode cX11_say 70 = .ok (.iconst (-1), 1) := dq_2 (kX11_say_2 6 rfl)
theorem dX11_say_71 : decode cX11_say 71 = .ok (.ixor, 1) := dq_130 (kX11_say_2 7 rfl)
theorem dX11_say_72 : decode cX11_say 72 = .ok (.iand, 1) := dq_126 (kX11_say_2 8 rfl)
theorem dX11_say_73 : decode cX11_say 73 = .ok (.goto 11, 3) := dq_167 (kX11_say_2 9 rfl) (kX11_say_2 10 rfl) (kX11_say_2 11 rfl) (by decide)
theorem dX11_say_76 : decode cX11_say 76 = .ok (.aload 4, 2) := dq_25 (kX11_say_2 12 rfl) (kX11_say_2 13 rfl) rfl
theorem dX11_say_78 : decode cX11_say 78 = .ok (.getfield 328, 3) := dq_180 (kX11_say_2 14 rfl) (kX11_say_2 15 rfl) (kX11_say_2 16 rfl) rfl
theorem dX11_say_81 : decode cX11_say 81 = .ok (.iload 5, 2) := dq_21 (kX11_say_2 17 rfl) (kX11_say_2 18 rfl) rfl
theorem dX11_say_83 : decode cX11_say 83 = .ok (.ior, 1) := dq_128 (kX11_say_2 19 rfl)
theorem dX11_say_84 : decode cX11_say 84 = .ok (.putfield 328, 3) := dq_181 (kX11_say_2 20 rfl) (kX11_say_2 21 rfl) (kX11_say_2 22 rfl) rfl
theorem dX11_say_87 : decode cX11_say 87 = .ok (.iconst 1, 1) := dq_4 (kX11_say_2 23 rfl)
theorem dX11_say_88 : decode cX11_say 88 = .ok (.ireturn, 1) := dq_172 (kX11_say_2 24 rfl)

def bX11_may_0 : List UInt8 := [42, 27, 182, 1, 53, 58, 4, 25, 4, 198, 0, 10, 28, 184, 1, 20, 154, 0, 5, 2, 172, 42, 25, 4, 28, 29, 182, 1, 75, 172]
theorem kX11_may_0 (j : Nat) {b : UInt8} (hj : bX11_may_0[j]? = some b) : AtB cX11_may (0 + j) b := at_of32 (by decide +kernel) j hj
theorem dX11_may_0 : decode cX11_may 0 = .ok (.aload_n 0, 1) := dq_42 (kX11_may_0 0 rfl)
theorem dX11_may_1 : decode cX11_may 1 = .ok (.iload_n 1, 1) := dq_27 (kX11_may_0 1 rfl)
theorem dX11_may_2 : decode cX11_may 2 = .ok (.invokevirtual 309, 3) := dq_182 (kX11_may_0 2 rfl) (kX11_may_0 3 rfl) (kX11_may_0 4 rfl) rfl
theorem dX11_may_5 : decode cX11_may 5 = .ok (.astore 4, 2) := dq_58 (kX11_may_0 5 rfl) (kX11_may_0 6 rfl) rfl
theorem dX11_may_7 : decode cX11_may 7 = .ok (.aload 4, 2) := dq_25 (kX11_may_0 7 rfl) (kX11_may_0 8 rfl) rfl
theorem dX11_may_9 : decode cX11_may 9 = .ok (.ifnull 10, 3) := dq_198 (kX11_may_0 9 rfl) (kX11_may_0 10 rfl) (kX11_may_0 11 rfl) (by decide)
theorem dX11_may_12 : decode cX11_may 12 = .ok (.iload_n 2, 1) := dq_28 (kX11_may_0 12 rfl)
theorem dX11_may_13 : decode cX11_may 13 = .ok (.invokestatic 276, 3) := dq_184 (kX11_may_0 13 rfl) (kX11_may_0 14 rfl) (kX11_may_0 15 rfl) rfl
theorem dX11_may_16 : decode cX11_may 16 = .ok (.ifCond .ne 5, 3) := dq_154 (kX11_may_0 16 rfl) (kX11_may_0 17 rfl) (kX11_may_0 18 rfl) (by decide)
theorem dX11_may_19 : decode cX11_may 19 = .ok (.iconst (-1), 1) := dq_2 (kX11_may_0 19 rfl)
theorem dX11_may_20 : decode cX11_may 20 = .ok (.ireturn, 1) := dq_172 (kX11_may_0 20 rfl)
theorem dX11_may_21 : decode cX11_may 21 = .ok (.aload_n 0, 1) := dq_42 (kX11_may_0 21 rfl)
theorem dX11_may_22 : decode cX11_may 22 = .ok (.aload 4, 2) := dq_25 (kX11_may_0 22 rfl) (kX11_may_0 23 rfl) rfl
theorem dX11_may_24 : decode cX11_may 24 = .ok (.iload_n 2, 1) := dq_28 (kX11_may_0 24 rfl)
theorem dX11_may_25 : decode cX11_may 25 = .ok (.iload_n 3, 1) := dq_29 (kX11_may_0 25 rfl)
theorem dX11_may_26 : decode cX11_may 26 = .ok (.invokevirtual 331, 3) := dq_182 (kX11_may_0 26 rfl) (kX11_may_0 27 rfl) (kX11_may_0 28 rfl) rfl
theorem dX11_may_29 : decode cX11_may 29 = .ok (.ireturn, 1) := dq_172 (kX11_may_0 29 rfl)

def bX11_why_0 : List UInt8 := [42, 27, 182, 1, 53, 58, 5, 25, 5, 198, 0, 20, 28, 184, 1, 20, 153, 0, 13, 21, 4, 3, 4, 184, 0, 112, 154, 0, 5, 2, 172, 42]
theorem kX11_why_0 (j : Nat) {b : UInt8} (hj : bX11_why_0[j]? = some b) : AtB cX11_why (0 + j) b := at_of32 (by decide +kernel) j hj
def bX11_why_1 : List UInt8 := [25, 5, 28, 29, 182, 1, 75, 87, 21, 4, 154, 0, 13, 42, 180, 0, 19, 180, 1, 79, 167, 0, 10, 42, 180, 0, 19, 180, 1, 82, 172]
theorem kX11_why_1 (j : Nat) {b : UInt8} (hj : bX11_why_1[j]? = some b) : AtB cX11_why (32 + j) b := at_of32 (by decide +kernel) j hj
theorem dX11_why_0 : decode cX11_why 0 = .ok (.aload_n 0, 1) := dq_42 (kX11_why_0 0 rfl)
theorem dX11_why_1 : decode cX11_why 1 = .ok (.iload_n 1, 1) := dq_27 (kX11_why_0 1 rfl)
theorem dX11_why_2 : decode cX11_why 2 = .ok (.invokevirtual 309, 3) := dq_182 (kX11_why_0 2 rfl) (kX11_why_0 3 rfl) (kX11_why_0 4 rfl) rfl
theorem dX11_why_5 : decode cX11_why 5 = .ok (.astore 5, 2) := dq_58 (kX11_why_0 5 rfl) (kX11_why_0 6 rfl) rfl
theorem dX11_why_7 : decode cX11_why 7 = .ok (.aload 5, 2) := dq_25 (kX11_why_0 7 rfl) (kX11_why_0 8 rfl) rfl
theorem dX11_why_9 : decode cX11_why 9 = .ok (.ifnull 20, 3) := dq_198 (kX11_why_0 9 rfl) (kX11_why_0 10 rfl) (kX11_why_0 11 rfl) (by decide)
theorem dX11_why_12 : decode cX11_why 12 = .ok (.iload_n 2, 1) := dq_28 (kX11_why_0 12 rfl)
theorem dX11_why_13 : decode cX11_why 13 = .ok (.invokestatic 276, 3) := dq_184 (kX11_why_0 13 rfl) (kX11_why_0 14 rfl) (kX11_why_0 15 rfl) rfl
theorem dX11_why_16 : decode cX11_why 16 = .ok (.ifCond .eq 13, 3) := dq_153 (kX11_why_0 16 rfl) (kX11_why_0 17 rfl) (kX11_why_0 18 rfl) (by decide)
theorem dX11_why_19 : decode cX11_why 19 = .ok (.iload 4, 2) := dq_21 (kX11_why_0 19 rfl) (kX11_why_0 20 rfl) rfl
theorem dX11_why_21 : decode cX11_why 21 = .ok (.iconst 0, 1) := dq_3 (kX11_why_0 21 rfl)
theorem dX11_why_22 : decode cX11_why 22 = .ok (.iconst 1, 1) := dq_4 (kX11_why_0 22 rfl)
theorem dX11_why_23 : decode cX11_why 23 = .ok (.invokestatic 112, 3) := dq_184 (kX11_why_0 23 rfl) (kX11_why_0 24 rfl) (kX11_why_0 25 rfl) rfl
theorem dX11_why_26 : decode cX11_why 26 = .ok (.ifCond .ne 5, 3) := dq_154 (kX11_why_0 26 rfl) (kX11_why_0 27 rfl) (kX11_why_0 28 rfl) (by decide)
theorem dX11_why_29 : decode cX11_why 29 = .ok (.iconst (-1), 1) := dq_2 (kX11_why_0 29 rfl)
theorem dX11_why_30 : decode cX11_why 30 = .ok (.ireturn, 1) := dq_172 (kX11_why_0 30 rfl)
theorem dX11_why_31 : decode cX11_why 31 = .ok (.aload_n 0, 1) := dq_42 (kX11_why_0 31 rfl)
theorem dX11_why_32 : decode cX11_why 32 = .ok (.aload 5, 2) := dq_25 (kX11_why_1 0 rfl) (kX11_why_1 1 rfl) rfl
theorem dX11_why_34 : decode cX11_why 34 = .ok (.iload_n 2, 1) := dq_28 (kX11_why_1 2 rfl)
theorem dX11_why_35 : decode cX11_why 35 = .ok (.iload_n 3, 1) := dq_29 (kX11_why_1 3 rfl)
theorem dX11_why_36 : decode cX11_why 36 = .ok (.invokevirtual 331, 3) := dq_182 (kX11_why_1 4 rfl) (kX11_why_1 5 rfl) (kX11_why_1 6 rfl) rfl
theorem dX11_why_39 : decode cX11_why 39 = .ok (.pop, 1) := dq_87 (kX11_why_1 7 rfl)
theorem dX11_why_40 : decode cX11_why 40 = .ok (.iload 4, 2) := dq_21 (kX11_why_1 8 rfl) (kX11_why_1 9 rfl) rfl
theorem dX11_why_42 : decode cX11_why 42 = .ok (.ifCond .ne 13, 3) := dq_154 (kX11_why_1 10 rfl) (kX11_why_1 11 rfl) (kX11_why_1 12 rfl) (by decide)
theorem dX11_why_45 : decode cX11_why 45 = .ok (.aload_n 0, 1) := dq_42 (kX11_why_1 13 rfl)
theorem dX11_why_46 : decode cX11_why 46 = .ok (.getfield 19, 3) := dq_180 (kX11_why_1 14 rfl) (kX11_why_1 15 rfl) (kX11_why_1 16 rfl) rfl
theorem dX11_why_49 : decode cX11_why 49 = .ok (.getfield 335, 3) := dq_180 (kX11_why_1 17 rfl) (kX11_why_1 18 rfl) (kX11_why_1 19 rfl) rfl
theorem dX11_why_52 : decode cX11_why 52 = .ok (.goto 10, 3) := dq_167 (kX11_why_1 20 rfl) (kX11_why_1 21 rfl) (kX11_why_1 22 rfl) (by decide)
theorem dX11_why_55 : decode cX11_why 55 = .ok (.aload_n 0, 1) := dq_42 (kX11_why_1 23 rfl)
theorem dX11_why_56 : decode cX11_why 56 = .ok (.getfield 19, 3) := dq_180 (kX11_why_1 24 rfl) (kX11_why_1 25 rfl) (kX11_why_1 26 rfl) rfl
theorem dX11_why_59 : decode cX11_why 59 = .ok (.getfield 338, 3) := dq_180 (kX11_why_1 27 rfl) (kX11_why_1 28 rfl) (kX11_why_1 29 rfl) rfl
theorem dX11_why_62 : decode cX11_why 62 = .ok (.ireturn, 1) := dq_172 (kX11_why_1 30 rfl)

def bX11_whose_0 : List UInt8 := [42, 27, 182, 0, 151, 78, 45, 198, 0, 14, 42, 180, 0, 12, 28, 182, 0, 119, 154, 0, 5, 2, 172, 42, 180, 0, 19, 27, 45, 42, 180, 0]
theorem kX11_whose_0 (j : Nat) {b : UInt8} (hj : bX11_whose_0[j]? = some b) : AtB cX11_whose (0 + j) b := at_of32 (by decide +kernel) j hj
def bX11_whose_1 : List UInt8 := [12, 180, 0, 145, 182, 1, 23, 3, 42, 180, 0, 19, 16, 97, 3, 3, 182, 1, 36, 184, 1, 40, 54, 4, 45, 42, 180, 0, 12, 180, 0, 145]
theorem kX11_whose_1 (j : Nat) {b : UInt8} (hj : bX11_whose_1[j]? = some b) : AtB cX11_whose (32 + j) b := at_of32 (by decide +kernel) j hj
def bX11_whose_2 : List UInt8 := [182, 1, 45, 153, 0, 20, 42, 180, 0, 12, 180, 0, 145, 45, 180, 1, 85, 100, 21, 4, 162, 0, 6, 16, 254, 172, 2, 54, 5, 2, 54, 6]
theorem kX11_whose_2 (j : Nat) {b : UInt8} (hj : bX11_whose_2[j]? = some b) : AtB cX11_whose (64 + j) b := at_of32 (by decide +kernel) j hj
def bX11_whose_3 : List UInt8 := [3, 54, 7, 21, 7, 42, 180, 0, 46, 162, 0, 65, 42, 21, 7, 3, 182, 0, 169, 58, 8, 25, 8, 198, 0, 45, 25, 8, 180, 0, 176, 21]
theorem kX11_whose_3 (j : Nat) {b : UInt8} (hj : bX11_whose_3[j]? = some b) : AtB cX11_whose (96 + j) b := at_of32 (by decide +kernel) j hj
def bX11_whose_4 : List UInt8 := [6, 164, 0, 35, 42, 180, 0, 12, 28, 25, 8, 180, 1, 88, 25, 8, 180, 1, 91, 182, 1, 94, 153, 0, 14, 21, 7, 54, 5, 25, 8, 180]
theorem kX11_whose_4 (j : Nat) {b : UInt8} (hj : bX11_whose_4[j]? = some b) : AtB cX11_whose (128 + j) b := at_of32 (by decide +kernel) j hj
def bX11_whose_5 : List UInt8 := [0, 176, 54, 6, 132, 7, 1, 167, 255, 188, 21, 5, 172]
theorem kX11_whose_5 (j : Nat) {b : UInt8} (hj : bX11_whose_5[j]? = some b) : AtB cX11_whose (160 + j) b := at_of32 (by decide +kernel) j hj
theorem dX11_whose_0 : decode cX11_whose 0 = .ok (.aload_n 0, 1) := dq_42 (kX11_whose_0 0 rfl)
theorem dX11_whose_1 : decode cX11_whose 1 = .ok (.iload_n 1, 1) := dq_27 (kX11_whose_0 1 rfl)
theorem dX11_whose_2 : decode cX11_whose 2 = .ok (.invokevirtual 151, 3) := dq_182 (kX11_whose_0 2 rfl) (kX11_whose_0 3 rfl) (kX11_whose_0 4 rfl) rfl
theorem dX11_whose_5 : decode cX11_whose 5 = .ok (.astore_n 3, 1) := dq_78 (kX11_whose_0 5 rfl)
theorem dX11_whose_6 : decode cX11_whose 6 = .ok (.aload_n 3, 1) := dq_45 (kX11_whose_0 6 rfl)
theorem dX11_whose_7 : decode cX11_whose 7 = .ok (.ifnull 14, 3) := dq_198 (kX11_whose_0 7 rfl) (kX11_whose_0 8 rfl) (kX11_whose_0 9 rfl) (by decide)
theorem dX11_whose_10 : decode cX11_whose 10 = .ok (.aload_n 0, 1) := dq_42 (kX11_whose_0 10 rfl)
theorem dX11_whose_11 : decode cX11_whose 11 = .ok (.getfield 12, 3) := dq_180 (kX11_whose_0 11 rfl) (kX11_whose_0 12 rfl) (kX11_whose_0 13 rfl) rfl
theorem dX11_whose_14 : decode cX11_whose 14 = .ok (.iload_n 2, 1) := dq_28 (kX11_whose_0 14 rfl)
theorem dX11_whose_15 : decode cX11_whose 15 = .ok (.invokevirtual 119, 3) := dq_182 (kX11_whose_0 15 rfl) (kX11_whose_0 16 rfl) (kX11_whose_0 17 rfl) rfl
theorem dX11_whose_18 : decode cX11_whose 18 = .ok (.ifCond .ne 5, 3) := dq_154 (kX11_whose_0 18 rfl) (kX11_whose_0 19 rfl) (kX11_whose_0 20 rfl) (by decide)
theorem dX11_whose_21 : decode cX11_whose 21 = .ok (.iconst (-1), 1) := dq_2 (kX11_whose_0 21 rfl)
theorem dX11_whose_22 : decode cX11_whose 22 = .ok (.ireturn, 1) := dq_172 (kX11_whose_0 22 rfl)
theorem dX11_whose_23 : decode cX11_whose 23 = .ok (.aload_n 0, 1) := dq_42 (kX11_whose_0 23 rfl)
theorem dX11_whose_24 : decode cX11_whose 24 = .ok (.getfield 19, 3) := dq_180 (kX11_whose_0 24 rfl) (kX11_whose_0 25 rfl) (kX11_whose_0 26 rfl) rfl
theorem dX11_whose_27 : decode cX11_whose 27 = .ok (.iload_n 1, 1) := dq_27 (kX11_whose_0 27 rfl)
theorem dX11_whose_28 : decode cX11_whose 28 = .ok (.aload_n 3, 1) := dq_45 (kX11_whose_0 28 rfl)
theorem dX11_whose_29 : decode cX11_whose 29 = .ok (.aload_n 0, 1) := dq_42 (kX11_whose_0 29 rfl)
theorem dX11_whose_30 : decode cX11_whose 30 = .ok (.getfield 12, 3) := dq_180 (kX11_whose_0 30 rfl) (kX11_whose_0 31 rfl) (kX11_whose_1 0 rfl) rfl
theorem dX11_whose_33 : decode cX11_whose 33 = .ok (.getfield 145, 3) := dq_180 (kX11_whose_1 1 rfl) (kX11_whose_1 2 rfl) (kX11_whose_1 3 rfl) rfl
theorem dX11_whose_36 : decode cX11_whose 36 = .ok (.invokevirtual 279, 3) := dq_182 (kX11_whose_1 4 rfl) (kX11_whose_1 5 rfl) (kX11_whose_1 6 rfl) rfl
theorem dX11_whose_39 : decode cX11_whose 39 = .ok (.iconst 0, 1) := dq_3 (kX11_whose_1 7 rfl)
theorem dX11_whose_40 : decode cX11_whose 40 = .ok (.aload_n 0, 1) := dq_42 (kX11_whose_1 8 rfl)
theorem dX11_whose_41 : decode cX11_whose 41 = .ok (.getfield 19, 3) := dq_180 (kX11_whose_1 9 rfl) (kX11_whose_1 10 rfl) (kX11_whose_1 11 rfl) rfl
theorem dX11_whose_44 : decode cX11_whose 44 = .ok (.bipush 97, 2) := dq_16 (kX11_whose_1 12 rfl) (kX11_whose_1 13 rfl) (by decide)
theorem dX11_whose_46 : decode cX11_whose 46 = .ok (.iconst 0, 1) := dq_3 (kX11_whose_1 14 rfl)
theorem dX11_whose_47 : decode cX11_whose 47 = .ok (.iconst 0, 1) := dq_3 (kX11_whose_1 15 rfl)
theorem dX11_whose_48 : decode cX11_whose 48 = .ok (.invokevirtual 292, 3) := dq_182 (kX11_whose_1 16 rfl) (kX11_whose_1 17 rfl) (kX11_whose_1 18 rfl) rfl
theorem dX11_whose_51 : decode cX11_whose 51 = .ok (.invokestatic 296, 3) := dq_184 (kX11_whose_1 19 rfl) (kX11_whose_1 20 rfl) (kX11_whose_1 21 rfl) rfl
theorem dX11_whose_54 : decode cX11_whose 54 = .ok (.istore 4, 2) := dq_54 (kX11_whose_1 22 rfl) (kX11_whose_1 23 rfl) rfl
theorem dX11_whose_56 : decode cX11_whose 56 = .ok (.aload_n 3, 1) := dq_45 (kX11_whose_1 24 rfl)
theorem dX11_whose_57 : decode cX11_whose 57 = .ok (.aload_n 0, 1) := dq_42 (kX11_whose_1 25 rfl)
theorem dX11_whose_58 : decode cX11_whose 58 = .ok (.getfield 12, 3) := dq_180 (kX11_whose_1 26 rfl) (kX11_whose_1 27 rfl) (kX11_whose_1 28 rfl) rfl
theorem dX11_whose_61 : decode cX11_whose 61 = .ok (.getfield 145, 3) := dq_180 (kX11_whose_1 29 rfl) (kX11_whose_1 30 rfl) (kX11_whose_1 31 rfl) rfl
theorem dX11_whose_64 : decode cX11_whose 64 = .ok (.invokevirtual 301, 3) := dq_182 (kX11_whose_2 0 rfl) (kX11_whose_2 1 rfl) (kX11_whose_2 2 rfl) rfl
theorem dX11_whose_67 : decode cX11_whose 67 = .ok (.ifCond .eq 20, 3) := dq_153 (kX11_whose_2 3 rfl) (kX11_whose_2 4 rfl) (kX11_whose_2 5 rfl) (by decide)
theorem dX11_whose_70 : decode cX11_whose 70 = .ok (.aload_n 0, 1) := dq_42 (kX11_whose_2 6 rfl)
theorem dX11_whose_71 : decode cX11_whose 71 = .ok (.getfield 12, 3) := dq_180 (kX11_whose_2 7 rfl) (kX11_whose_2 8 rfl) (kX11_whose_2 9 rfl) rfl
theorem dX11_whose_74 : decode cX11_whose 74 = .ok (.getfield 145, 3) := dq_180 (kX11_whose_2 10 rfl) (kX11_whose_2 11 rfl) (kX11_whose_2 12 rfl) rfl
theorem dX11_whose_77 : decode cX11_whose 77 = .ok (.aload_n 3, 1) := dq_45 (kX11_whose_2 13 rfl)
theorem dX11_whose_78 : decode cX11_whose 78 = .ok (.getfield 341, 3) := dq_180 (kX11_whose_2 14 rfl) (kX11_whose_2 15 rfl) (kX11_whose_2 16 rfl) rfl
theorem dX11_whose_81 : decode cX11_whose 81 = .ok (.isub, 1) := dq_100 (kX11_whose_2 17 rfl)
theorem dX11_whose_82 : decode cX11_whose 82 = .ok (.iload 4, 2) := dq_21 (kX11_whose_2 18 rfl) (kX11_whose_2 19 rfl) rfl
theorem dX11_whose_84 : decode cX11_whose 84 = .ok (.if_icmp .ge 6, 3) := dq_162 (kX11_whose_2 20 rfl) (kX11_whose_2 21 rfl) (kX11_whose_2 22 rfl) (by decide)
theorem dX11_whose_87 : decode cX11_whose 87 = .ok (.bipush (-2), 2) := dq_16 (kX11_whose_2 23 rfl) (kX11_whose_2 24 rfl) (by decide)
theorem dX11_whose_89 : decode cX11_whose 89 = .ok (.ireturn, 1) := dq_172 (kX11_whose_2 25 rfl)
theorem dX11_whose_90 : decode cX11_whose 90 = .ok (.iconst (-1), 1) := dq_2 (kX11_whose_2 26 rfl)
theorem dX11_whose_91 : decode cX11_whose 91 = .ok (.istore 5, 2) := dq_54 (kX11_whose_2 27 rfl) (kX11_whose_2 28 rfl) rfl
theorem dX11_whose_93 : decode cX11_whose 93 = .ok (.iconst (-1), 1) := dq_2 (kX11_whose_2 29 rfl)
theorem dX11_whose_94 : decode cX11_whose 94 = .ok (.istore 6, 2) := dq_54 (kX11_whose_2 30 rfl) (kX11_whose_2 31 rfl) rfl
theorem dX11_whose_96 : decode cX11_whose 96 = .ok (.iconst 0, 1) := dq_3 (kX11_whose_3 0 rfl)
theorem dX11_whose_97 : decode cX11_whose 97 = .ok (.istore 7, 2) := dq_54 (kX11_whose_3 1 rfl) (kX11_whose_3 2 rfl) rfl
theorem dX11_whose_99 : decode cX11_whose 99 = .ok (.iload 7, 2) := dq_21 (kX11_whose_3 3 rfl) (kX11_whose_3 4 rfl) rfl
theorem dX11_whose_101 : decode cX11_whose 101 = .ok (.aload_n 0, 1) := dq_42 (kX11_whose_3 5 rfl)
theorem dX11_whose_102 : decode cX11_whose 102 = .ok (.getfield 46, 3) := dq_180 (kX11_whose_3 6 rfl) (kX11_whose_3 7 rfl) (kX11_whose_3 8 rfl) rfl
theorem dX11_whose_105 : decode cX11_whose 105 = .ok (.if_icmp .ge 65, 3) := dq_162 (kX11_whose_3 9 rfl) (kX11_whose_3 10 rfl) (kX11_whose_3 11 rfl) (by decide)
theorem dX11_whose_108 : decode cX11_whose 108 = .ok (.aload_n 0, 1) := dq_42 (kX11_whose_3 12 rfl)
theorem dX11_whose_109 : decode cX11_whose 109 = .ok (.iload 7, 2) := dq_21 (kX11_whose_3 13 rfl) (kX11_whose_3 14 rfl) rfl
theorem dX11_whose_111 : decode cX11_whose 111 = .ok (.iconst 0, 1) := dq_3 (kX11_whose_3 15 rfl)
theorem dX11_whose_112 : decode cX11_whose 112 = .ok (.invokevirtual 169, 3) := dq_182 (kX11_whose_3 16 rfl) (kX11_whose_3 17 rfl) (kX11_whose_3 18 rfl) rfl
theorem dX11_whose_115 : decode cX11_whose 115 = .ok (.astore 8, 2) := dq_58 (kX11_whose_3 19 rfl) (kX11_whose_3 20 rfl) rfl
theorem dX11_whose_117 : decode cX11_whose 117 = .ok (.aload 8, 2) := dq_25 (kX11_whose_3 21 rfl) (kX11_whose_3 22 rfl) rfl
theorem dX11_whose_119 : decode cX11_whose 119 = .ok (.ifnull 45, 3) := dq_198 (kX11_whose_3 23 rfl) (kX11_whose_3 24 rfl) (kX11_whose_3 25 rfl) (by decide)
theorem dX11_whose_122 : decode cX11_whose 122 = .ok (.aload 8, 2) := dq_25 (kX11_whose_3 26 rfl) (kX11_whose_3 27 rfl) rfl
theorem dX11_whose_124 : decode cX11_whose 124 = .ok (.getfield 176, 3) := dq_180 (kX11_whose_3 28 rfl) (kX11_whose_3 29 rfl) (kX11_whose_3 30 rfl) rfl
theorem dX11_whose_127 : decode cX11_whose 127 = .ok (.iload 6, 2) := dq_21 (kX11_whose_3 31 rfl) (kX11_whose_4 0 rfl) rfl
theorem dX11_whose_129 : decode cX11_whose 129 = .ok (.if_icmp .le 35, 3) := dq_164 (kX11_whose_4 1 rfl) (kX11_whose_4 2 rfl) (kX11_whose_4 3 rfl) (by decide)
theorem dX11_whose_132 : decode cX11_whose 132 = .ok (.aload_n 0, 1) := dq_42 (kX11_whose_4 4 rfl)
theorem dX11_whose_133 : decode cX11_whose 133 = .ok (.getfield 12, 3) := dq_180 (kX11_whose_4 5 rfl) (kX11_whose_4 6 rfl) (kX11_whose_4 7 rfl) rfl
theorem dX11_whose_136 : decode cX11_whose 136 = .ok (.iload_n 2, 1) := dq_28 (kX11_whose_4 8 rfl)
theorem dX11_whose_137 : decode cX11_whose 137 = .ok (.aload 8, 2) := dq_25 (kX11_whose_4 9 rfl) (kX11_whose_4 10 rfl) rfl
theorem dX11_whose_139 : decode cX11_whose 139 = .ok (.getfield 344, 3) := dq_180 (kX11_whose_4 11 rfl) (kX11_whose_4 12 rfl) (kX11_whose_4 13 rfl) rfl
theorem dX11_whose_142 : decode cX11_whose 142 = .ok (.aload 8, 2) := dq_25 (kX11_whose_4 14 rfl) (kX11_whose_4 15 rfl) rfl
theorem dX11_whose_144 : decode cX11_whose 144 = .ok (.getfield 347, 3) := dq_180 (kX11_whose_4 16 rfl) (kX11_whose_4 17 rfl) (kX11_whose_4 18 rfl) rfl
theorem dX11_whose_147 : decode cX11_whose 147 = .ok (.invokevirtual 350, 3) := dq_182 (kX11_whose_4 19 rfl) (kX11_whose_4 20 rfl) (kX11_whose_4 21 rfl) rfl
theorem dX11_whose_150 : decode cX11_whose 150 = .ok (.ifCond .eq 14, 3) := dq_153 (kX11_whose_4 22 rfl) (kX11_whose_4 23 rfl) (kX11_whose_4 24 rfl) (by decide)
theorem dX11_whose_153 : decode cX11_whose 153 = .ok (.iload 7, 2) := dq_21 (kX11_whose_4 25 rfl) (kX11_whose_4 26 rfl) rfl
theorem dX11_whose_155 : decode cX11_whose 155 = .ok (.istore 5, 2) := dq_54 (kX11_whose_4 27 rfl) (kX11_whose_4 28 rfl) rfl
theorem dX11_whose_157 : decode cX11_whose 157 = .ok (.aload 8, 2) := dq_25 (kX11_whose_4 29 rfl) (kX11_whose_4 30 rfl) rfl
theorem dX11_whose_159 : decode cX11_whose 159 = .ok (.getfield 176, 3) := dq_180 (kX11_whose_4 31 rfl) (kX11_whose_5 0 rfl) (kX11_whose_5 1 rfl) rfl
theorem dX11_whose_162 : decode cX11_whose 162 = .ok (.istore 6, 2) := dq_54 (kX11_whose_5 2 rfl) (kX11_whose_5 3 rfl) rfl
theorem dX11_whose_164 : decode cX11_whose 164 = .ok (.iinc 7 1, 3) := dq_132 (kX11_whose_5 4 rfl) (kX11_whose_5 5 rfl) (kX11_whose_5 6 rfl) rfl (by decide)
theorem dX11_whose_167 : decode cX11_whose 167 = .ok (.goto (-68), 3) := dq_167 (kX11_whose_5 7 rfl) (kX11_whose_5 8 rfl) (kX11_whose_5 9 rfl) (by decide)
theorem dX11_whose_170 : decode cX11_whose 170 = .ok (.iload 5, 2) := dq_21 (kX11_whose_5 10 rfl) (kX11_whose_5 11 rfl) rfl
theorem dX11_whose_172 : decode cX11_whose 172 = .ok (.ireturn, 1) := dq_172 (kX11_whose_5 12 rfl)

def bX11_judge_0 : List UInt8 := [42, 43, 180, 1, 97, 182, 0, 151, 58, 4, 25, 4, 199, 0, 5, 2, 172, 42, 43, 25, 4, 28, 182, 1, 98, 42, 43, 182, 1, 102, 42, 180]
theorem kX11_judge_0 (j : Nat) {b : UInt8} (hj : bX11_judge_0[j]? = some b) : AtB cX11_judge (0 + j) b := at_of32 (by decide +kernel) j hj
def bX11_judge_1 : List UInt8 := [0, 19, 43, 180, 1, 97, 25, 4, 28, 182, 1, 23, 42, 180, 0, 19, 43, 28, 29, 42, 43, 28, 182, 1, 106, 182, 1, 110, 172]
theorem kX11_judge_1 (j : Nat) {b : UInt8} (hj : bX11_judge_1[j]? = some b) : AtB cX11_judge (32 + j) b := at_of32 (by decide +kernel) j hj
theorem dX11_judge_0 : decode cX11_judge 0 = .ok (.aload_n 0, 1) := dq_42 (kX11_judge_0 0 rfl)
theorem dX11_judge_1 : decode cX11_judge 1 = .ok (.aload_n 1, 1) := dq_43 (kX11_judge_0 1 rfl)
theorem dX11_judge_2 : decode cX11_judge 2 = .ok (.getfield 353, 3) := dq_180 (kX11_judge_0 2 rfl) (kX11_judge_0 3 rfl) (kX11_judge_0 4 rfl) rfl
theorem dX11_judge_5 : decode cX11_judge 5 = .ok (.invokevirtual 151, 3) := dq_182 (kX11_judge_0 5 rfl) (kX11_judge_0 6 rfl) (kX11_judge_0 7 rfl) rfl
theorem dX11_judge_8 : decode cX11_judge 8 = .ok (.astore 4, 2) := dq_58 (kX11_judge_0 8 rfl) (kX11_judge_0 9 rfl) rfl
theorem dX11_judge_10 : decode cX11_judge 10 = .ok (.aload 4, 2) := dq_25 (kX11_judge_0 10 rfl) (kX11_judge_0 11 rfl) rfl
theorem dX11_judge_12 : decode cX11_judge 12 = .ok (.ifnonnull 5, 3) := dq_199 (kX11_judge_0 12 rfl) (kX11_judge_0 13 rfl) (kX11_judge_0 14 rfl) (by decide)
theorem dX11_judge_15 : decode cX11_judge 15 = .ok (.iconst (-1), 1) := dq_2 (kX11_judge_0 15 rfl)
theorem dX11_judge_16 : decode cX11_judge 16 = .ok (.ireturn, 1) := dq_172 (kX11_judge_0 16 rfl)
theorem dX11_judge_17 : decode cX11_judge 17 = .ok (.aload_n 0, 1) := dq_42 (kX11_judge_0 17 rfl)
theorem dX11_judge_18 : decode cX11_judge 18 = .ok (.aload_n 1, 1) := dq_43 (kX11_judge_0 18 rfl)
theorem dX11_judge_19 : decode cX11_judge 19 = .ok (.aload 4, 2) := dq_25 (kX11_judge_0 19 rfl) (kX11_judge_0 20 rfl) rfl
theorem dX11_judge_21 : decode cX11_judge 21 = .ok (.iload_n 2, 1) := dq_28 (kX11_judge_0 21 rfl)
theorem dX11_judge_22 : decode cX11_judge 22 = .ok (.invokevirtual 354, 3) := dq_182 (kX11_judge_0 22 rfl) (kX11_judge_0 23 rfl) (kX11_judge_0 24 rfl) rfl
theorem dX11_judge_25 : decode cX11_judge 25 = .ok (.aload_n 0, 1) := dq_42 (kX11_judge_0 25 rfl)
theorem dX11_judge_26 : decode cX11_judge 26 = .ok (.aload_n 1, 1) := dq_43 (kX11_judge_0 26 rfl)
theorem dX11_judge_27 : decode cX11_judge 27 = .ok (.invokevirtual 358, 3) := dq_182 (kX11_judge_0 27 rfl) (kX11_judge_0 28 rfl) (kX11_judge_0 29 rfl) rfl
theorem dX11_judge_30 : decode cX11_judge 30 = .ok (.aload_n 0, 1) := dq_42 (kX11_judge_0 30 rfl)
theorem dX11_judge_31 : decode cX11_judge 31 = .ok (.getfield 19, 3) := dq_180 (kX11_judge_0 31 rfl) (kX11_judge_1 0 rfl) (kX11_judge_1 1 rfl) rfl
theorem dX11_judge_34 : decode cX11_judge 34 = .ok (.aload_n 1, 1) := dq_43 (kX11_judge_1 2 rfl)
theorem dX11_judge_35 : decode cX11_judge 35 = .ok (.getfield 353, 3) := dq_180 (kX11_judge_1 3 rfl) (kX11_judge_1 4 rfl) (kX11_judge_1 5 rfl) rfl
theorem dX11_judge_38 : decode cX11_judge 38 = .ok (.aload 4, 2) := dq_25 (kX11_judge_1 6 rfl) (kX11_judge_1 7 rfl) rfl
theorem dX11_judge_40 : decode cX11_judge 40 = .ok (.iload_n 2, 1) := dq_28 (kX11_judge_1 8 rfl)
theorem dX11_judge_41 : decode cX11_judge 41 = .ok (.invokevirtual 279, 3) := dq_182 (kX11_judge_1 9 rfl) (kX11_judge_1 10 rfl) (kX11_judge_1 11 rfl) rfl
theorem dX11_judge_44 : decode cX11_judge 44 = .ok (.aload_n 0, 1) := dq_42 (kX11_judge_1 12 rfl)
theorem dX11_judge_45 : decode cX11_judge 45 = .ok (.getfield 19, 3) := dq_180 (kX11_judge_1 13 rfl) (kX11_judge_1 14 rfl) (kX11_judge_1 15 rfl) rfl
theorem dX11_judge_48 : decode cX11_judge 48 = .ok (.aload_n 1, 1) := dq_43 (kX11_judge_1 16 rfl)
theorem dX11_judge_49 : decode cX11_judge 49 = .ok (.iload_n 2, 1) := dq_28 (kX11_judge_1 17 rfl)
theorem dX11_judge_50 : decode cX11_judge 50 = .ok (.iload_n 3, 1) := dq_29 (kX11_judge_1 18 rfl)
theorem dX11_judge_51 : decode cX11_judge 51 = .ok (.aload_n 0, 1) := dq_42 (kX11_judge_1 19 rfl)
theorem dX11_judge_52 : decode cX11_judge 52 = .ok (.aload_n 1, 1) := dq_43 (kX11_judge_1 20 rfl)
theorem dX11_judge_53 : decode cX11_judge 53 = .ok (.iload_n 2, 1) := dq_28 (kX11_judge_1 21 rfl)
theorem dX11_judge_54 : decode cX11_judge 54 = .ok (.invokevirtual 362, 3) := dq_182 (kX11_judge_1 22 rfl) (kX11_judge_1 23 rfl) (kX11_judge_1 24 rfl) rfl
theorem dX11_judge_57 : decode cX11_judge 57 = .ok (.invokevirtual 366, 3) := dq_182 (kX11_judge_1 25 rfl) (kX11_judge_1 26 rfl) (kX11_judge_1 27 rfl) rfl
theorem dX11_judge_60 : decode cX11_judge 60 = .ok (.ireturn, 1) := dq_172 (kX11_judge_1 28 rfl)

def bX11_hasConsent_0 : List UInt8 := [42, 28, 182, 1, 113, 62, 43, 180, 1, 72, 29, 126, 153, 0, 5, 3, 172, 5, 43, 180, 1, 69, 29, 126, 184, 1, 30, 104, 29, 184, 1, 30]
theorem kX11_hasConsent_0 (j : Nat) {b : UInt8} (hj : bX11_hasConsent_0[j]? = some b) : AtB cX11_hasConsent (0 + j) b := at_of32 (by decide +kernel) j hj
def bX11_hasConsent_1 : List UInt8 := [164, 0, 7, 4, 167, 0, 4, 3, 172]
theorem kX11_hasConsent_1 (j : Nat) {b : UInt8} (hj : bX11_hasConsent_1[j]? = some b) : AtB cX11_hasConsent (32 + j) b := at_of32 (by decide +kernel) j hj
theorem dX11_hasConsent_0 : decode cX11_hasConsent 0 = .ok (.aload_n 0, 1) := dq_42 (kX11_hasConsent_0 0 rfl)
theorem dX11_hasConsent_1 : decode cX11_hasConsent 1 = .ok (.iload_n 2, 1) := dq_28 (kX11_hasConsent_0 1 rfl)
theorem dX11_hasConsent_2 : decode cX11_hasConsent 2 = .ok (.invokevirtual 369, 3) := dq_182 (kX11_hasConsent_0 2 rfl) (kX11_hasConsent_0 3 rfl) (kX11_hasConsent_0 4 rfl) rfl
theorem dX11_hasConsent_5 : decode cX11_hasConsent 5 = .ok (.istore_n 3, 1) := dq_62 (kX11_hasConsent_0 5 rfl)
theorem dX11_hasConsent_6 : decode cX11_hasConsent 6 = .ok (.aload_n 1, 1) := dq_43 (kX11_hasConsent_0 6 rfl)
theorem dX11_hasConsent_7 : decode cX11_hasConsent 7 = .ok (.getfield 328, 3) := dq_180 (kX11_hasConsent_0 7 rfl) (kX11_hasConsent_0 8 rfl) (kX11_hasConsent_0 9 rfl) rfl
theorem dX11_hasConsent_10 : decode cX11_hasConsent 10 = .ok (.iload_n 3, 1) := dq_29 (kX11_hasConsent_0 10 rfl)
theorem dX11_hasConsent_11 : decode cX11_hasConsent 11 = .ok (.iand, 1) := dq_126 (kX11_hasConsent_0 11 rfl)
theorem dX11_hasConsent_12 : decode cX11_hasConsent 12 = .ok (.ifCond .eq 5, 3) := dq_153 (kX11_hasConsent_0 12 rfl) (kX11_hasConsent_0 13 rfl) (kX11_hasConsent_0 14 rfl) (by decide)
theorem dX11_hasConsent_15 : decode cX11_hasConsent 15 = .ok (.iconst 0, 1) := dq_3 (kX11_hasConsent_0 15 rfl)
theorem dX11_hasConsent_16 : decode cX11_hasConsent 16 = .ok (.ireturn, 1) := dq_172 (kX11_hasConsent_0 16 rfl)
theorem dX11_hasConsent_17 : decode cX11_hasConsent 17 = .ok (.iconst 2, 1) := dq_5 (kX11_hasConsent_0 17 rfl)
theorem dX11_hasConsent_18 : decode cX11_hasConsent 18 = .ok (.aload_n 1, 1) := dq_43 (kX11_hasConsent_0 18 rfl)
theorem dX11_hasConsent_19 : decode cX11_hasConsent 19 = .ok (.getfield 325, 3) := dq_180 (kX11_hasConsent_0 19 rfl) (kX11_hasConsent_0 20 rfl) (kX11_hasConsent_0 21 rfl) rfl
theorem dX11_hasConsent_22 : decode cX11_hasConsent 22 = .ok (.iload_n 3, 1) := dq_29 (kX11_hasConsent_0 22 rfl)
theorem dX11_hasConsent_23 : decode cX11_hasConsent 23 = .ok (.iand, 1) := dq_126 (kX11_hasConsent_0 23 rfl)
theorem dX11_hasConsent_24 : decode cX11_hasConsent 24 = .ok (.invokestatic 286, 3) := dq_184 (kX11_hasConsent_0 24 rfl) (kX11_hasConsent_0 25 rfl) (kX11_hasConsent_0 26 rfl) rfl
theorem dX11_hasConsent_27 : decode cX11_hasConsent 27 = .ok (.imul, 1) := dq_104 (kX11_hasConsent_0 27 rfl)
theorem dX11_hasConsent_28 : decode cX11_hasConsent 28 = .ok (.iload_n 3, 1) := dq_29 (kX11_hasConsent_0 28 rfl)
theorem dX11_hasConsent_29 : decode cX11_hasConsent 29 = .ok (.invokestatic 286, 3) := dq_184 (kX11_hasConsent_0 29 rfl) (kX11_hasConsent_0 30 rfl) (kX11_hasConsent_0 31 rfl) rfl
theorem dX11_hasConsent_32 : decode cX11_hasConsent 32 = .ok (.if_icmp .le 7, 3) := dq_164 (kX11_hasConsent_1 0 rfl) (kX11_hasConsent_1 1 rfl) (kX11_hasConsent_1 2 rfl) (by decide)
theorem dX11_hasConsent_35 : decode cX11_hasConsent 35 = .ok (.iconst 1, 1) := dq_4 (kX11_hasConsent_1 3 rfl)
theorem dX11_hasConsent_36 : decode cX11_hasConsent 36 = .ok (.goto 4, 3) := dq_167 (kX11_hasConsent_1 4 rfl) (kX11_hasConsent_1 5 rfl) (kX11_hasConsent_1 6 rfl) (by decide)
theorem dX11_hasConsent_39 : decode cX11_hasConsent 39 = .ok (.iconst 0, 1) := dq_3 (kX11_hasConsent_1 7 rfl)
theorem dX11_hasConsent_40 : decode cX11_hasConsent 40 = .ok (.ireturn, 1) := dq_172 (kX11_hasConsent_1 8 rfl)

def bX11_decidingOn_0 : List UInt8 := [3, 61, 3, 62, 29, 42, 180, 0, 36, 162, 0, 36, 42, 29, 182, 0, 151, 58, 4, 25, 4, 198, 0, 18, 25, 4, 27, 182, 1, 45, 153, 0]
theorem kX11_decidingOn_0 (j : Nat) {b : UInt8} (hj : bX11_decidingOn_0[j]? = some b) : AtB cX11_decidingOn (0 + j) b := at_of32 (by decide +kernel) j hj
def bX11_decidingOn_1 : List UInt8 := [9, 28, 4, 29, 120, 128, 61, 132, 3, 1, 167, 255, 218, 28, 172]
theorem kX11_decidingOn_1 (j : Nat) {b : UInt8} (hj : bX11_decidingOn_1[j]? = some b) : AtB cX11_decidingOn (32 + j) b := at_of32 (by decide +kernel) j hj
theorem dX11_decidingOn_0 : decode cX11_decidingOn 0 = .ok (.iconst 0, 1) := dq_3 (kX11_decidingOn_0 0 rfl)
theorem dX11_decidingOn_1 : decode cX11_decidingOn 1 = .ok (.istore_n 2, 1) := dq_61 (kX11_decidingOn_0 1 rfl)
theorem dX11_decidingOn_2 : decode cX11_decidingOn 2 = .ok (.iconst 0, 1) := dq_3 (kX11_decidingOn_0 2 rfl)
theorem dX11_decidingOn_3 : decode cX11_decidingOn 3 = .ok (.istore_n 3, 1) := dq_62 (kX11_decidingOn_0 3 rfl)
theorem dX11_decidingOn_4 : decode cX11_decidingOn 4 = .ok (.iload_n 3, 1) := dq_29 (kX11_decidingOn_0 4 rfl)
theorem dX11_decidingOn_5 : decode cX11_decidingOn 5 = .ok (.aload_n 0, 1) := dq_42 (kX11_decidingOn_0 5 rfl)
theorem dX11_decidingOn_6 : decode cX11_decidingOn 6 = .ok (.getfield 36, 3) := dq_180 (kX11_decidingOn_0 6 rfl) (kX11_decidingOn_0 7 rfl) (kX11_decidingOn_0 8 rfl) rfl
theorem dX11_decidingOn_9 : decode cX11_decidingOn 9 = .ok (.if_icmp .ge 36, 3) := dq_162 (kX11_decidingOn_0 9 rfl) (kX11_decidingOn_0 10 rfl) (kX11_decidingOn_0 11 rfl) (by decide)
theorem dX11_decidingOn_12 : decode cX11_decidingOn 12 = .ok (.aload_n 0, 1) := dq_42 (kX11_decidingOn_0 12 rfl)
theorem dX11_decidingOn_13 : decode cX11_decidingOn 13 = .ok (.iload_n 3, 1) := dq_29 (kX11_decidingOn_0 13 rfl)
theorem dX11_decidingOn_14 : decode cX11_decidingOn 14 = .ok (.invokevirtual 151, 3) := dq_182 (kX11_decidingOn_0 14 rfl) (kX11_decidingOn_0 15 rfl) (kX11_decidingOn_0 16 rfl) rfl
theorem dX11_decidingOn_17 : decode cX11_decidingOn 17 = .ok (.astore 4, 2) := dq_58 (kX11_decidingOn_0 17 rfl) (kX11_decidingOn_0 18 rfl) rfl
theorem dX11_decidingOn_19 : decode cX11_decidingOn 19 = .ok (.aload 4, 2) := dq_25 (kX11_decidingOn_0 19 rfl) (kX11_decidingOn_0 20 rfl) rfl
theorem dX11_decidingOn_21 : decode cX11_decidingOn 21 = .ok (.ifnull 18, 3) := dq_198 (kX11_decidingOn_0 21 rfl) (kX11_decidingOn_0 22 rfl) (kX11_decidingOn_0 23 rfl) (by decide)
theorem dX11_decidingOn_24 : decode cX11_decidingOn 24 = .ok (.aload 4, 2) := dq_25 (kX11_decidingOn_0 24 rfl) (kX11_decidingOn_0 25 rfl) rfl
theorem dX11_decidingOn_26 : decode cX11_decidingOn 26 = .ok (.iload_n 1, 1) := dq_27 (kX11_decidingOn_0 26 rfl)
theorem dX11_decidingOn_27 : decode cX11_decidingOn 27 = .ok (.invokevirtual 301, 3) := dq_182 (kX11_decidingOn_0 27 rfl) (kX11_decidingOn_0 28 rfl) (kX11_decidingOn_0 29 rfl) rfl
theorem dX11_decidingOn_30 : decode cX11_decidingOn 30 = .ok (.ifCond .eq 9, 3) := dq_153 (kX11_decidingOn_0 30 rfl) (kX11_decidingOn_0 31 rfl) (kX11_decidingOn_1 0 rfl) (by decide)
theorem dX11_decidingOn_33 : decode cX11_decidingOn 33 = .ok (.iload_n 2, 1) := dq_28 (kX11_decidingOn_1 1 rfl)
theorem dX11_decidingOn_34 : decode cX11_decidingOn 34 = .ok (.iconst 1, 1) := dq_4 (kX11_decidingOn_1 2 rfl)
theorem dX11_decidingOn_35 : decode cX11_decidingOn 35 = .ok (.iload_n 3, 1) := dq_29 (kX11_decidingOn_1 3 rfl)
theorem dX11_decidingOn_36 : decode cX11_decidingOn 36 = .ok (.ishl, 1) := dq_120 (kX11_decidingOn_1 4 rfl)
theorem dX11_decidingOn_37 : decode cX11_decidingOn 37 = .ok (.ior, 1) := dq_128 (kX11_decidingOn_1 5 rfl)
theorem dX11_decidingOn_38 : decode cX11_decidingOn 38 = .ok (.istore_n 2, 1) := dq_61 (kX11_decidingOn_1 6 rfl)
theorem dX11_decidingOn_39 : decode cX11_decidingOn 39 = .ok (.iinc 3 1, 3) := dq_132 (kX11_decidingOn_1 7 rfl) (kX11_decidingOn_1 8 rfl) (kX11_decidingOn_1 9 rfl) rfl (by decide)
theorem dX11_decidingOn_42 : decode cX11_decidingOn 42 = .ok (.goto (-38), 3) := dq_167 (kX11_decidingOn_1 10 rfl) (kX11_decidingOn_1 11 rfl) (kX11_decidingOn_1 12 rfl) (by decide)
theorem dX11_decidingOn_45 : decode cX11_decidingOn 45 = .ok (.iload_n 2, 1) := dq_28 (kX11_decidingOn_1 13 rfl)
theorem dX11_decidingOn_46 : decode cX11_decidingOn 46 = .ok (.ireturn, 1) := dq_172 (kX11_decidingOn_1 14 rfl)

def bX11_tellLetters_0 : List UInt8 := [42, 180, 0, 19, 180, 1, 116, 58, 4, 25, 4, 3, 43, 180, 1, 119, 184, 0, 108, 25, 4, 4, 43, 180, 1, 97, 184, 0, 108, 25, 4, 5]
theorem kX11_tellLetters_0 (j : Nat) {b : UInt8} (hj : bX11_tellLetters_0[j]? = some b) : AtB cX11_tellLetters (0 + j) b := at_of32 (by decide +kernel) j hj
def bX11_tellLetters_1 : List UInt8 := [44, 29, 182, 1, 45, 153, 0, 7, 4, 167, 0, 4, 3, 184, 0, 108, 25, 4, 6, 42, 180, 0, 12, 180, 0, 123, 43, 180, 1, 122, 184, 0]
theorem kX11_tellLetters_1 (j : Nat) {b : UInt8} (hj : bX11_tellLetters_1[j]? = some b) : AtB cX11_tellLetters (32 + j) b := at_of32 (by decide +kernel) j hj
def bX11_tellLetters_2 : List UInt8 := [253, 184, 0, 108, 25, 4, 7, 42, 180, 0, 12, 180, 0, 126, 43, 180, 1, 122, 184, 0, 253, 184, 0, 108, 25, 4, 16, 9, 43, 180, 1, 49]
theorem kX11_tellLetters_2 (j : Nat) {b : UInt8} (hj : bX11_tellLetters_2[j]? = some b) : AtB cX11_tellLetters (64 + j) b := at_of32 (by decide +kernel) j hj
def bX11_tellLetters_3 : List UInt8 := [184, 0, 108, 25, 4, 16, 10, 43, 180, 1, 50, 184, 0, 108, 25, 4, 16, 11, 29, 17, 1, 104, 112, 184, 0, 108, 25, 4, 16, 12, 29, 17]
theorem kX11_tellLetters_3 (j : Nat) {b : UInt8} (hj : bX11_tellLetters_3[j]? = some b) : AtB cX11_tellLetters (96 + j) b := at_of32 (by decide +kernel) j hj
def bX11_tellLetters_4 : List UInt8 := [1, 104, 108, 184, 0, 108, 25, 4, 16, 13, 42, 180, 0, 12, 29, 182, 1, 125, 153, 0, 7, 4, 167, 0, 4, 3, 184, 0, 108, 177]
theorem kX11_tellLetters_4 (j : Nat) {b : UInt8} (hj : bX11_tellLetters_4[j]? = some b) : AtB cX11_tellLetters (128 + j) b := at_of32 (by decide +kernel) j hj
theorem dX11_tellLetters_0 : decode cX11_tellLetters 0 = .ok (.aload_n 0, 1) := dq_42 (kX11_tellLetters_0 0 rfl)
theorem dX11_tellLetters_1 : decode cX11_tellLetters 1 = .ok (.getfield 19, 3) := dq_180 (kX11_tellLetters_0 1 rfl) (kX11_tellLetters_0 2 rfl) (kX11_tellLetters_0 3 rfl) rfl
theorem dX11_tellLetters_4 : decode cX11_tellLetters 4 = .ok (.getfield 372, 3) := dq_180 (kX11_tellLetters_0 4 rfl) (kX11_tellLetters_0 5 rfl) (kX11_tellLetters_0 6 rfl) rfl
theorem dX11_tellLetters_7 : decode cX11_tellLetters 7 = .ok (.astore 4, 2) := dq_58 (kX11_tellLetters_0 7 rfl) (kX11_tellLetters_0 8 rfl) rfl
theorem dX11_tellLetters_9 : decode cX11_tellLetters 9 = .ok (.aload 4, 2) := dq_25 (kX11_tellLetters_0 9 rfl) (kX11_tellLetters_0 10 rfl) rfl
theorem dX11_tellLetters_11 : decode cX11_tellLetters 11 = .ok (.iconst 0, 1) := dq_3 (kX11_tellLetters_0 11 rfl)
theorem dX11_tellLetters_12 : decode cX11_tellLetters 12 = .ok (.aload_n 1, 1) := dq_43 (kX11_tellLetters_0 12 rfl)
theorem dX11_tellLetters_13 : decode cX11_tellLetters 13 = .ok (.getfield 375, 3) := dq_180 (kX11_tellLetters_0 13 rfl) (kX11_tellLetters_0 14 rfl) (kX11_tellLetters_0 15 rfl) rfl
theorem dX11_tellLetters_16 : decode cX11_tellLetters 16 = .ok (.invokestatic 108, 3) := dq_184 (kX11_tellLetters_0 16 rfl) (kX11_tellLetters_0 17 rfl) (kX11_tellLetters_0 18 rfl) rfl
theorem dX11_tellLetters_19 : decode cX11_tellLetters 19 = .ok (.aload 4, 2) := dq_25 (kX11_tellLetters_0 19 rfl) (kX11_tellLetters_0 20 rfl) rfl
theorem dX11_tellLetters_21 : decode cX11_tellLetters 21 = .ok (.iconst 1, 1) := dq_4 (kX11_tellLetters_0 21 rfl)
theorem dX11_tellLetters_22 : decode cX11_tellLetters 22 = .ok (.aload_n 1, 1) := dq_43 (kX11_tellLetters_0 22 rfl)
theorem dX11_tellLetters_23 : decode cX11_tellLetters 23 = .ok (.getfield 353, 3) := dq_180 (kX11_tellLetters_0 23 rfl) (kX11_tellLetters_0 24 rfl) (kX11_tellLetters_0 25 rfl) rfl
theorem dX11_tellLetters_26 : decode cX11_tellLetters 26 = .ok (.invokestatic 108, 3) := dq_184 (kX11_tellLetters_0 26 rfl) (kX11_tellLetters_0 27 rfl) (kX11_tellLetters_0 28 rfl) rfl
theorem dX11_tellLetters_29 : decode cX11_tellLetters 29 = .ok (.aload 4, 2) := dq_25 (kX11_tellLetters_0 29 rfl) (kX11_tellLetters_0 30 rfl) rfl
theorem dX11_tellLetters_31 : decode cX11_tellLetters 31 = .ok (.iconst 2, 1) := dq_5 (kX11_tellLetters_0 31 rfl)
theorem dX11_tellLetters_32 : decode cX11_tellLetters 32 = .ok (.aload_n 2, 1) := dq_44 (kX11_tellLetters_1 0 rfl)
theorem dX11_tellLetters_33 : decode cX11_tellLetters 33 = .ok (.iload_n 3, 1) := dq_29 (kX11_tellLetters_1 1 rfl)
theorem dX11_tellLetters_34 : decode cX11_tellLetters 34 = .ok (.invokevirtual 301, 3) := dq_182 (kX11_tellLetters_1 2 rfl) (kX11_tellLetters_1 3 rfl) (kX11_tellLetters_1 4 rfl) rfl
theorem dX11_tellLetters_37 : decode cX11_tellLetters 37 = .ok (.ifCond .eq 7, 3) := dq_153 (kX11_tellLetters_1 5 rfl) (kX11_tellLetters_1 6 rfl) (kX11_tellLetters_1 7 rfl) (by decide)
theorem dX11_tellLetters_40 : decode cX11_tellLetters 40 = .ok (.iconst 1, 1) := dq_4 (kX11_tellLetters_1 8 rfl)
theorem dX11_tellLetters_41 : decode cX11_tellLetters 41 = .ok (.goto 4, 3) := dq_167 (kX11_tellLetters_1 9 rfl) (kX11_tellLetters_1 10 rfl) (kX11_tellLetters_1 11 rfl) (by decide)
theorem dX11_tellLetters_44 : decode cX11_tellLetters 44 = .ok (.iconst 0, 1) := dq_3 (kX11_tellLetters_1 12 rfl)
theorem dX11_tellLetters_45 : decode cX11_tellLetters 45 = .ok (.invokestatic 108, 3) := dq_184 (kX11_tellLetters_1 13 rfl) (kX11_tellLetters_1 14 rfl) (kX11_tellLetters_1 15 rfl) rfl
theorem dX11_tellLetters_48 : decode cX11_tellLetters 48 = .ok (.aload 4, 2) := dq_25 (kX11_tellLetters_1 16 rfl) (kX11_tellLetters_1 17 rfl) rfl
theorem dX11_tellLetters_50 : decode cX11_tellLetters 50 = .ok (.iconst 3, 1) := dq_6 (kX11_tellLetters_1 18 rfl)
theorem dX11_tellLetters_51 : decode cX11_tellLetters 51 = .ok (.aload_n 0, 1) := dq_42 (kX11_tellLetters_1 19 rfl)
theorem dX11_tellLetters_52 : decode cX11_tellLetters 52 = .ok (.getfield 12, 3) := dq_180 (kX11_tellLetters_1 20 rfl) (kX11_tellLetters_1 21 rfl) (kX11_tellLetters_1 22 rfl) rfl
theorem dX11_tellLetters_55 : decode cX11_tellLetters 55 = .ok (.getfield 123, 3) := dq_180 (kX11_tellLetters_1 23 rfl) (kX11_tellLetters_1 24 rfl) (kX11_tellLetters_1 25 rfl) rfl
theorem dX11_tellLetters_58 : decode cX11_tellLetters 58 = .ok (.aload_n 1, 1) := dq_43 (kX11_tellLetters_1 26 rfl)
theorem dX11_tellLetters_59 : decode cX11_tellLetters 59 = .ok (.getfield 378, 3) := dq_180 (kX11_tellLetters_1 27 rfl) (kX11_tellLetters_1 28 rfl) (kX11_tellLetters_1 29 rfl) rfl
theorem dX11_tellLetters_62 : decode cX11_tellLetters 62 = .ok (.invokestatic 253, 3) := dq_184 (kX11_tellLetters_1 30 rfl) (kX11_tellLetters_1 31 rfl) (kX11_tellLetters_2 0 rfl) rfl
theorem dX11_tellLetters_65 : decode cX11_tellLetters 65 = .ok (.invokestatic 108, 3) := dq_184 (kX11_tellLetters_2 1 rfl) (kX11_tellLetters_2 2 rfl) (kX11_tellLetters_2 3 rfl) rfl
theorem dX11_tellLetters_68 : decode cX11_tellLetters 68 = .ok (.aload 4, 2) := dq_25 (kX11_tellLetters_2 4 rfl) (kX11_tellLetters_2 5 rfl) rfl
theorem dX11_tellLetters_70 : decode cX11_tellLetters 70 = .ok (.iconst 4, 1) := dq_7 (kX11_tellLetters_2 6 rfl)
theorem dX11_tellLetters_71 : decode cX11_tellLetters 71 = .ok (.aload_n 0, 1) := dq_42 (kX11_tellLetters_2 7 rfl)
theorem dX11_tellLetters_72 : decode cX11_tellLetters 72 = .ok (.getfield 12, 3) := dq_180 (kX11_tellLetters_2 8 rfl) (kX11_tellLetters_2 9 rfl) (kX11_tellLetters_2 10 rfl) rfl
theorem dX11_tellLetters_75 : decode cX11_tellLetters 75 = .ok (.getfield 126, 3) := dq_180 (kX11_tellLetters_2 11 rfl) (kX11_tellLetters_2 12 rfl) (kX11_tellLetters_2 13 rfl) rfl
theorem dX11_tellLetters_78 : decode cX11_tellLetters 78 = .ok (.aload_n 1, 1) := dq_43 (kX11_tellLetters_2 14 rfl)
theorem dX11_tellLetters_79 : decode cX11_tellLetters 79 = .ok (.getfield 378, 3) := dq_180 (kX11_tellLetters_2 15 rfl) (kX11_tellLetters_2 16 rfl) (kX11_tellLetters_2 17 rfl) rfl
theorem dX11_tellLetters_82 : decode cX11_tellLetters 82 = .ok (.invokestatic 253, 3) := dq_184 (kX11_tellLetters_2 18 rfl) (kX11_tellLetters_2 19 rfl) (kX11_tellLetters_2 20 rfl) rfl
theorem dX11_tellLetters_85 : decode cX11_tellLetters 85 = .ok (.invokestatic 108, 3) := dq_184 (kX11_tellLetters_2 21 rfl) (kX11_tellLetters_2 22 rfl) (kX11_tellLetters_2 23 rfl) rfl
theorem dX11_tellLetters_88 : decode cX11_tellLetters 88 = .ok (.aload 4, 2) := dq_25 (kX11_tellLetters_2 24 rfl) (kX11_tellLetters_2 25 rfl) rfl
theorem dX11_tellLetters_90 : decode cX11_tellLetters 90 = .ok (.bipush 9, 2) := dq_16 (kX11_tellLetters_2 26 rfl) (kX11_tellLetters_2 27 rfl) (by decide)
theorem dX11_tellLetters_92 : decode cX11_tellLetters 92 = .ok (.aload_n 1, 1) := dq_43 (kX11_tellLetters_2 28 rfl)
theorem dX11_tellLetters_93 : decode cX11_tellLetters 93 = .ok (.getfield 305, 3) := dq_180 (kX11_tellLetters_2 29 rfl) (kX11_tellLetters_2 30 rfl) (kX11_tellLetters_2 31 rfl) rfl
theorem dX11_tellLetters_96 : decode cX11_tellLetters 96 = .ok (.invokestatic 108, 3) := dq_184 (kX11_tellLetters_3 0 rfl) (kX11_tellLetters_3 1 rfl) (kX11_tellLetters_3 2 rfl) rfl
theorem dX11_tellLetters_99 : decode cX11_tellLetters 99 = .ok (.aload 4, 2) := dq_25 (kX11_tellLetters_3 3 rfl) (kX11_tellLetters_3 4 rfl) rfl
theorem dX11_tellLetters_101 : decode cX11_tellLetters 101 = .ok (.bipush 10, 2) := dq_16 (kX11_tellLetters_3 5 rfl) (kX11_tellLetters_3 6 rfl) (by decide)
theorem dX11_tellLetters_103 : decode cX11_tellLetters 103 = .ok (.aload_n 1, 1) := dq_43 (kX11_tellLetters_3 7 rfl)
theorem dX11_tellLetters_104 : decode cX11_tellLetters 104 = .ok (.getfield 306, 3) := dq_180 (kX11_tellLetters_3 8 rfl) (kX11_tellLetters_3 9 rfl) (kX11_tellLetters_3 10 rfl) rfl
theorem dX11_tellLetters_107 : decode cX11_tellLetters 107 = .ok (.invokestatic 108, 3) := dq_184 (kX11_tellLetters_3 11 rfl) (kX11_tellLetters_3 12 rfl) (kX11_tellLetters_3 13 rfl) rfl
theorem dX11_tellLetters_110 : decode cX11_tellLetters 110 = .ok (.aload 4, 2) := dq_25 (kX11_tellLetters_3 14 rfl) (kX11_tellLetters_3 15 rfl) rfl
theorem dX11_tellLetters_112 : decode cX11_tellLetters 112 = .ok (.bipush 11, 2) := dq_16 (kX11_tellLetters_3 16 rfl) (kX11_tellLetters_3 17 rfl) (by decide)
theorem dX11_tellLetters_114 : decode cX11_tellLetters 114 = .ok (.iload_n 3, 1) := dq_29 (kX11_tellLetters_3 18 rfl)
theorem dX11_tellLetters_115 : decode cX11_tellLetters 115 = .ok (.sipush 360, 3) := dq_17 (kX11_tellLetters_3 19 rfl) (kX11_tellLetters_3 20 rfl) (kX11_tellLetters_3 21 rfl) (by decide)
theorem dX11_tellLetters_118 : decode cX11_tellLetters 118 = .ok (.irem, 1) := dq_112 (kX11_tellLetters_3 22 rfl)
theorem dX11_tellLetters_119 : decode cX11_tellLetters 119 = .ok (.invokestatic 108, 3) := dq_184 (kX11_tellLetters_3 23 rfl) (kX11_tellLetters_3 24 rfl) (kX11_tellLetters_3 25 rfl) rfl
theorem dX11_tellLetters_122 : decode cX11_tellLetters 122 = .ok (.aload 4, 2) := dq_25 (kX11_tellLetters_3 26 rfl) (kX11_tellLetters_3 27 rfl) rfl
theorem dX11_tellLetters_124 : decode cX11_tellLetters 124 = .ok (.bipush 12, 2) := dq_16 (kX11_tellLetters_3 28 rfl) (kX11_tellLetters_3 29 rfl) (by decide)
theorem dX11_tellLetters_126 : decode cX11_tellLetters 126 = .ok (.iload_n 3, 1) := dq_29 (kX11_tellLetters_3 30 rfl)
theorem dX11_tellLetters_127 : decode cX11_tellLetters 127 = .ok (.sipush 360, 3) := dq_17 (kX11_tellLetters_3 31 rfl) (kX11_tellLetters_4 0 rfl) (kX11_tellLetters_4 1 rfl) (by decide)
theorem dX11_tellLetters_130 : decode cX11_tellLetters 130 = .ok (.idiv, 1) := dq_108 (kX11_tellLetters_4 2 rfl)
theorem dX11_tellLetters_131 : decode cX11_tellLetters 131 = .ok (.invokestatic 108, 3) := dq_184 (kX11_tellLetters_4 3 rfl) (kX11_tellLetters_4 4 rfl) (kX11_tellLetters_4 5 rfl) rfl
theorem dX11_tellLetters_134 : decode cX11_tellLetters 134 = .ok (.aload 4, 2) := dq_25 (kX11_tellLetters_4 6 rfl) (kX11_tellLetters_4 7 rfl) rfl
theorem dX11_tellLetters_136 : decode cX11_tellLetters 136 = .ok (.bipush 13, 2) := dq_16 (kX11_tellLetters_4 8 rfl) (kX11_tellLetters_4 9 rfl) (by decide)
theorem dX11_tellLetters_138 : decode cX11_tellLetters 138 = .ok (.aload_n 0, 1) := dq_42 (kX11_tellLetters_4 10 rfl)
theorem dX11_tellLetters_139 : decode cX11_tellLetters 139 = .ok (.getfield 12, 3) := dq_180 (kX11_tellLetters_4 11 rfl) (kX11_tellLetters_4 12 rfl) (kX11_tellLetters_4 13 rfl) rfl
theorem dX11_tellLetters_142 : decode cX11_tellLetters 142 = .ok (.iload_n 3, 1) := dq_29 (kX11_tellLetters_4 14 rfl)
theorem dX11_tellLetters_143 : decode cX11_tellLetters 143 = .ok (.invokevirtual 381, 3) := dq_182 (kX11_tellLetters_4 15 rfl) (kX11_tellLetters_4 16 rfl) (kX11_tellLetters_4 17 rfl) rfl
theorem dX11_tellLetters_146 : decode cX11_tellLetters 146 = .ok (.ifCond .eq 7, 3) := dq_153 (kX11_tellLetters_4 18 rfl) (kX11_tellLetters_4 19 rfl) (kX11_tellLetters_4 20 rfl) (by decide)
theorem dX11_tellLetters_149 : decode cX11_tellLetters 149 = .ok (.iconst 1, 1) := dq_4 (kX11_tellLetters_4 21 rfl)
theorem dX11_tellLetters_150 : decode cX11_tellLetters 150 = .ok (.goto 4, 3) := dq_167 (kX11_tellLetters_4 22 rfl) (kX11_tellLetters_4 23 rfl) (kX11_tellLetters_4 24 rfl) (by decide)
theorem dX11_tellLetters_153 : decode cX11_tellLetters 153 = .ok (.iconst 0, 1) := dq_3 (kX11_tellLetters_4 25 rfl)
theorem dX11_tellLetters_154 : decode cX11_tellLetters 154 = .ok (.invokestatic 108, 3) := dq_184 (kX11_tellLetters_4 26 rfl) (kX11_tellLetters_4 27 rfl) (kX11_tellLetters_4 28 rfl) rfl
theorem dX11_tellLetters_157 : decode cX11_tellLetters 157 = .ok (.return_, 1) := dq_177 (kX11_tellLetters_4 29 rfl)

def bX11_tellNeighbours_0 : List UInt8 := [3, 61, 3, 62, 3, 54, 4, 3, 54, 5, 3, 54, 6, 21, 6, 42, 180, 0, 46, 162, 0, 185, 42, 21, 6, 182, 1, 128, 58, 7, 25, 7]
theorem kX11_tellNeighbours_0 (j : Nat) {b : UInt8} (hj : bX11_tellNeighbours_0[j]? = some b) : AtB cX11_tellNeighbours (0 + j) b := at_of32 (by decide +kernel) j hj
def bX11_tellNeighbours_1 : List UInt8 := [199, 0, 6, 167, 0, 163, 25, 7, 180, 1, 131, 6, 160, 0, 40, 42, 180, 0, 12, 43, 180, 1, 122, 25, 7, 180, 1, 88, 25, 7, 180, 1]
theorem kX11_tellNeighbours_1 (j : Nat) {b : UInt8} (hj : bX11_tellNeighbours_1[j]? = some b) : AtB cX11_tellNeighbours (32 + j) b := at_of32 (by decide +kernel) j hj
def bX11_tellNeighbours_2 : List UInt8 := [91, 182, 1, 94, 153, 0, 16, 28, 25, 7, 180, 0, 176, 184, 1, 40, 61, 167, 0, 117, 25, 7, 180, 1, 131, 7, 160, 0, 29, 42, 180, 0]
theorem kX11_tellNeighbours_2 (j : Nat) {b : UInt8} (hj : bX11_tellNeighbours_2[j]? = some b) : AtB cX11_tellNeighbours (64 + j) b := at_of32 (by decide +kernel) j hj
def bX11_tellNeighbours_3 : List UInt8 := [12, 43, 180, 1, 122, 25, 7, 180, 1, 88, 182, 1, 132, 4, 163, 0, 9, 132, 3, 1, 167, 0, 82, 25, 7, 180, 1, 131, 8, 160, 0, 29]
theorem kX11_tellNeighbours_3 (j : Nat) {b : UInt8} (hj : bX11_tellNeighbours_3[j]? = some b) : AtB cX11_tellNeighbours (96 + j) b := at_of32 (by decide +kernel) j hj
def bX11_tellNeighbours_4 : List UInt8 := [42, 180, 0, 12, 43, 180, 1, 122, 25, 7, 180, 1, 88, 182, 1, 132, 5, 163, 0, 9, 132, 4, 1, 167, 0, 47, 25, 7, 180, 1, 131, 4]
theorem kX11_tellNeighbours_4 (j : Nat) {b : UInt8} (hj : bX11_tellNeighbours_4[j]? = some b) : AtB cX11_tellNeighbours (128 + j) b := at_of32 (by decide +kernel) j hj
def bX11_tellNeighbours_5 : List UInt8 := [160, 0, 38, 25, 7, 180, 0, 173, 43, 180, 1, 97, 159, 0, 26, 42, 180, 0, 12, 43, 180, 1, 122, 25, 7, 180, 1, 88, 182, 1, 132, 6]
theorem kX11_tellNeighbours_5 (j : Nat) {b : UInt8} (hj : bX11_tellNeighbours_5[j]? = some b) : AtB cX11_tellNeighbours (160 + j) b := at_of32 (by decide +kernel) j hj
def bX11_tellNeighbours_6 : List UInt8 := [163, 0, 6, 132, 5, 1, 132, 6, 1, 167, 255, 68, 42, 180, 0, 19, 180, 1, 116, 8, 28, 184, 0, 108, 42, 180, 0, 19, 180, 1, 116, 16]
theorem kX11_tellNeighbours_6 (j : Nat) {b : UInt8} (hj : bX11_tellNeighbours_6[j]? = some b) : AtB cX11_tellNeighbours (192 + j) b := at_of32 (by decide +kernel) j hj
def bX11_tellNeighbours_7 : List UInt8 := [6, 29, 184, 0, 108, 42, 180, 0, 19, 180, 1, 116, 16, 7, 21, 4, 184, 0, 108, 42, 180, 0, 19, 180, 1, 116, 16, 8, 21, 5, 184, 0]
theorem kX11_tellNeighbours_7 (j : Nat) {b : UInt8} (hj : bX11_tellNeighbours_7[j]? = some b) : AtB cX11_tellNeighbours (224 + j) b := at_of32 (by decide +kernel) j hj
def bX11_tellNeighbours_8 : List UInt8 := [108, 177]
theorem kX11_tellNeighbours_8 (j : Nat) {b : UInt8} (hj : bX11_tellNeighbours_8[j]? = some b) : AtB cX11_tellNeighbours (256 + j) b := at_of32 (by decide +kernel) j hj
theorem dX11_tellNeighbours_0 : decode cX11_tellNeighbours 0 = .ok (.iconst 0, 1) := dq_3 (kX11_tellNeighbours_0 0 rfl)
theorem dX11_tellNeighbours_1 : decode cX11_tellNeighbours 1 = .ok (.istore_n 2, 1) := dq_61 (kX11_tellNeighbours_0 1 rfl)
theorem dX11_tellNeighbours_2 : decode cX11_tellNeighbours 2 = .ok (.iconst 0, 1) := dq_3 (kX11_tellNeighbours_0 2 rfl)
theorem dX11_tellNeighbours_3 : decode cX11_tellNeighbours 3 = .ok (.istore_n 3, 1) := dq_62 (kX11_tellNeighbours_0 3 rfl)
theorem dX11_tellNeighbours_4 : decode cX11_tellNeighbours 4 = .ok (.iconst 0, 1) := dq_3 (kX11_tellNeighbours_0 4 rfl)
theorem dX11_tellNeighbours_5 : decode cX11_tellNeighbours 5 = .ok (.istore 4, 2) := dq_54 (kX11_tellNeighbours_0 5 rfl) (kX11_tellNeighbours_0 6 rfl) rfl
theorem dX11_tellNeighbours_7 : decode cX11_tellNeighbours 7 = .ok (.iconst 0, 1) := dq_3 (kX11_tellNeighbours_0 7 rfl)
theorem dX11_tellNeighbours_8 : decode cX11_tellNeighbours 8 = .ok (.istore 5, 2) := dq_54 (kX11_tellNeighbours_0 8 rfl) (kX11_tellNeighbours_0 9 rfl) rfl
theorem dX11_tellNeighbours_10 : decode cX11_tellNeighbours 10 = .ok (.iconst 0, 1) := dq_3 (kX11_tellNeighbours_0 10 rfl)
theorem dX11_tellNeighbours_11 : decode cX11_tellNeighbours 11 = .ok (.istore 6, 2) := dq_54 (kX11_tellNeighbours_0 11 rfl) (kX11_tellNeighbours_0 12 rfl) rfl
theorem dX11_tellNeighbours_13 : decode cX11_tellNeighbours 13 = .ok (.iload 6, 2) := dq_21 (kX11_tellNeighbours_0 13 rfl) (kX11_tellNeighbours_0 14 rfl) rfl
theorem dX11_tellNeighbours_15 : decode cX11_tellNeighbours 15 = .ok (.aload_n 0, 1) := dq_42 (kX11_tellNeighbours_0 15 rfl)
theorem dX11_tellNeighbours_16 : decode cX11_tellNeighbours 16 = .ok (.getfield 46, 3) := dq_180 (kX11_tellNeighbours_0 16 rfl) (kX11_tellNeighbours_0 17 rfl) (kX11_tellNeighbours_0 18 rfl) rfl
theorem dX11_tellNeighbours_19 : decode cX11_tellNeighbours 19 = .ok (.if_icmp .ge 185, 3) := dq_162 (kX11_tellNeighbours_0 19 rfl) (kX11_tellNeighbours_0 20 rfl) (kX11_tellNeighbours_0 21 rfl) (by decide)
theorem dX11_tellNeighbours_22 : decode cX11_tellNeighbours 22 = .ok (.aload_n 0, 1) := dq_42 (kX11_tellNeighbours_0 22 rfl)
theorem dX11_tellNeighbours_23 : decode cX11_tellNeighbours 23 = .ok (.iload 6, 2) := dq_21 (kX11_tellNeighbours_0 23 rfl) (kX11_tellNeighbours_0 24 rfl) rfl
theorem dX11_tellNeighbours_25 : decode cX11_tellNeighbours 25 = .ok (.invokevirtual 384, 3) := dq_182 (kX11_tellNeighbours_0 25 rfl) (kX11_tellNeighbours_0 26 rfl) (kX11_tellNeighbours_0 27 rfl) rfl
theorem dX11_tellNeighbours_28 : decode cX11_tellNeighbours 28 = .ok (.astore 7, 2) := dq_58 (kX11_tellNeighbours_0 28 rfl) (kX11_tellNeighbours_0 29 rfl) rfl
theorem dX11_tellNeighbours_30 : decode cX11_tellNeighbours 30 = .ok (.aload 7, 2) := dq_25 (kX11_tellNeighbours_0 30 rfl) (kX11_tellNeighbours_0 31 rfl) rfl
theorem dX11_tellNeighbours_32 : decode cX11_tellNeighbours 32 = .ok (.ifnonnull 6, 3) := dq_199 (kX11_tellNeighbours_1 0 rfl) (kX11_tellNeighbours_1 1 rfl) (kX11_tellNeighbours_1 2 rfl) (by decide)
theorem dX11_tellNeighbours_35 : decode cX11_tellNeighbours 35 = .ok (.goto 163, 3) := dq_167 (kX11_tellNeighbours_1 3 rfl) (kX11_tellNeighbours_1 4 rfl) (kX11_tellNeighbours_1 5 rfl) (by decide)
theorem dX11_tellNeighbours_38 : decode cX11_tellNeighbours 38 = .ok (.aload 7, 2) := dq_25 (kX11_tellNeighbours_1 6 rfl) (kX11_tellNeighbours_1 7 rfl) rfl
theorem dX11_tellNeighbours_40 : decode cX11_tellNeighbours 40 = .ok (.getfield 387, 3) := dq_180 (kX11_tellNeighbours_1 8 rfl) (kX11_tellNeighbours_1 9 rfl) (kX11_tellNeighbours_1 10 rfl) rfl
theorem dX11_tellNeighbours_43 : decode cX11_tellNeighbours 43 = .ok (.iconst 3, 1) := dq_6 (kX11_tellNeighbours_1 11 rfl)
theorem dX11_tellNeighbours_44 : decode cX11_tellNeighbours 44 = .ok (.if_icmp .ne 40, 3) := dq_160 (kX11_tellNeighbours_1 12 rfl) (kX11_tellNeighbours_1 13 rfl) (kX11_tellNeighbours_1 14 rfl) (by decide)
theorem dX11_tellNeighbours_47 : decode cX11_tellNeighbours 47 = .ok (.aload_n 0, 1) := dq_42 (kX11_tellNeighbours_1 15 rfl)
theorem dX11_tellNeighbours_48 : decode cX11_tellNeighbours 48 = .ok (.getfield 12, 3) := dq_180 (kX11_tellNeighbours_1 16 rfl) (kX11_tellNeighbours_1 17 rfl) (kX11_tellNeighbours_1 18 rfl) rfl
theorem dX11_tellNeighbours_51 : decode cX11_tellNeighbours 51 = .ok (.aload_n 1, 1) := dq_43 (kX11_tellNeighbours_1 19 rfl)
theorem dX11_tellNeighbours_52 : decode cX11_tellNeighbours 52 = .ok (.getfield 378, 3) := dq_180 (kX11_tellNeighbours_1 20 rfl) (kX11_tellNeighbours_1 21 rfl) (kX11_tellNeighbours_1 22 rfl) rfl
theorem dX11_tellNeighbours_55 : decode cX11_tellNeighbours 55 = .ok (.aload 7, 2) := dq_25 (kX11_tellNeighbours_1 23 rfl) (kX11_tellNeighbours_1 24 rfl) rfl
theorem dX11_tellNeighbours_57 : decode cX11_tellNeighbours 57 = .ok (.getfield 344, 3) := dq_180 (kX11_tellNeighbours_1 25 rfl) (kX11_tellNeighbours_1 26 rfl) (kX11_tellNeighbours_1 27 rfl) rfl
theorem dX11_tellNeighbours_60 : decode cX11_tellNeighbours 60 = .ok (.aload 7, 2) := dq_25 (kX11_tellNeighbours_1 28 rfl) (kX11_tellNeighbours_1 29 rfl) rfl
theorem dX11_tellNeighbours_62 : decode cX11_tellNeighbours 62 = .ok (.getfield 347, 3) := dq_180 (kX11_tellNeighbours_1 30 rfl) (kX11_tellNeighbours_1 31 rfl) (kX11_tellNeighbours_2 0 rfl) rfl
theorem dX11_tellNeighbours_65 : decode cX11_tellNeighbours 65 = .ok (.invokevirtual 350, 3) := dq_182 (kX11_tellNeighbours_2 1 rfl) (kX11_tellNeighbours_2 2 rfl) (kX11_tellNeighbours_2 3 rfl) rfl
theorem dX11_tellNeighbours_68 : decode cX11_tellNeighbours 68 = .ok (.ifCond .eq 16, 3) := dq_153 (kX11_tellNeighbours_2 4 rfl) (kX11_tellNeighbours_2 5 rfl) (kX11_tellNeighbours_2 6 rfl) (by decide)
theorem dX11_tellNeighbours_71 : decode cX11_tellNeighbours 71 = .ok (.iload_n 2, 1) := dq_28 (kX11_tellNeighbours_2 7 rfl)
theorem dX11_tellNeighbours_72 : decode cX11_tellNeighbours 72 = .ok (.aload 7, 2) := dq_25 (kX11_tellNeighbours_2 8 rfl) (kX11_tellNeighbours_2 9 rfl) rfl
theorem dX11_tellNeighbours_74 : decode cX11_tellNeighbours 74 = .ok (.getfield 176, 3) := dq_180 (kX11_tellNeighbours_2 10 rfl) (kX11_tellNeighbours_2 11 rfl) (kX11_tellNeighbours_2 12 rfl) rfl
theorem dX11_tellNeighbours_77 : decode cX11_tellNeighbours 77 = .ok (.invokestatic 296, 3) := dq_184 (kX11_tellNeighbours_2 13 rfl) (kX11_tellNeighbours_2 14 rfl) (kX11_tellNeighbours_2 15 rfl) rfl
theorem dX11_tellNeighbours_80 : decode cX11_tellNeighbours 80 = .ok (.istore_n 2, 1) := dq_61 (kX11_tellNeighbours_2 16 rfl)
theorem dX11_tellNeighbours_81 : decode cX11_tellNeighbours 81 = .ok (.goto 117, 3) := dq_167 (kX11_tellNeighbours_2 17 rfl) (kX11_tellNeighbours_2 18 rfl) (kX11_tellNeighbours_2 19 rfl) (by decide)
theorem dX11_tellNeighbours_84 : decode cX11_tellNeighbours 84 = .ok (.aload 7, 2) := dq_25 (kX11_tellNeighbours_2 20 rfl) (kX11_tellNeighbours_2 21 rfl) rfl
theorem dX11_tellNeighbours_86 : decode cX11_tellNeighbours 86 = .ok (.getfield 387, 3) := dq_180 (kX11_tellNeighbours_2 22 rfl) (kX11_tellNeighbours_2 23 rfl) (kX11_tellNeighbours_2 24 rfl) rfl
theorem dX11_tellNeighbours_89 : decode cX11_tellNeighbours 89 = .ok (.iconst 4, 1) := dq_7 (kX11_tellNeighbours_2 25 rfl)
theorem dX11_tellNeighbours_90 : decode cX11_tellNeighbours 90 = .ok (.if_icmp .ne 29, 3) := dq_160 (kX11_tellNeighbours_2 26 rfl) (kX11_tellNeighbours_2 27 rfl) (kX11_tellNeighbours_2 28 rfl) (by decide)
theorem dX11_tellNeighbours_93 : decode cX11_tellNeighbours 93 = .ok (.aload_n 0, 1) := dq_42 (kX11_tellNeighbours_2 29 rfl)
theorem dX11_tellNeighbours_94 : decode cX11_tellNeighbours 94 = .ok (.getfield 12, 3) := dq_180 (kX11_tellNeighbours_2 30 rfl) (kX11_tellNeighbours_2 31 rfl) (kX11_tellNeighbours_3 0 rfl) rfl
theorem dX11_tellNeighbours_97 : decode cX11_tellNeighbours 97 = .ok (.aload_n 1, 1) := dq_43 (kX11_tellNeighbours_3 1 rfl)
theorem dX11_tellNeighbours_98 : decode cX11_tellNeighbours 98 = .ok (.getfield 378, 3) := dq_180 (kX11_tellNeighbours_3 2 rfl) (kX11_tellNeighbours_3 3 rfl) (kX11_tellNeighbours_3 4 rfl) rfl
theorem dX11_tellNeighbours_101 : decode cX11_tellNeighbours 101 = .ok (.aload 7, 2) := dq_25 (kX11_tellNeighbours_3 5 rfl) (kX11_tellNeighbours_3 6 rfl) rfl
theorem dX11_tellNeighbours_103 : decode cX11_tellNeighbours 103 = .ok (.getfield 344, 3) := dq_180 (kX11_tellNeighbours_3 7 rfl) (kX11_tellNeighbours_3 8 rfl) (kX11_tellNeighbours_3 9 rfl) rfl
theorem dX11_tellNeighbours_106 : decode cX11_tellNeighbours 106 = .ok (.invokevirtual 388, 3) := dq_182 (kX11_tellNeighbours_3 10 rfl) (kX11_tellNeighbours_3 11 rfl) (kX11_tellNeighbours_3 12 rfl) rfl
theorem dX11_tellNeighbours_109 : decode cX11_tellNeighbours 109 = .ok (.iconst 1, 1) := dq_4 (kX11_tellNeighbours_3 13 rfl)
theorem dX11_tellNeighbours_110 : decode cX11_tellNeighbours 110 = .ok (.if_icmp .gt 9, 3) := dq_163 (kX11_tellNeighbours_3 14 rfl) (kX11_tellNeighbours_3 15 rfl) (kX11_tellNeighbours_3 16 rfl) (by decide)
theorem dX11_tellNeighbours_113 : decode cX11_tellNeighbours 113 = .ok (.iinc 3 1, 3) := dq_132 (kX11_tellNeighbours_3 17 rfl) (kX11_tellNeighbours_3 18 rfl) (kX11_tellNeighbours_3 19 rfl) rfl (by decide)
theorem dX11_tellNeighbours_116 : decode cX11_tellNeighbours 116 = .ok (.goto 82, 3) := dq_167 (kX11_tellNeighbours_3 20 rfl) (kX11_tellNeighbours_3 21 rfl) (kX11_tellNeighbours_3 22 rfl) (by decide)
theorem dX11_tellNeighbours_119 : decode cX11_tellNeighbours 119 = .ok (.aload 7, 2) := dq_25 (kX11_tellNeighbours_3 23 rfl) (kX11_tellNeighbours_3 24 rfl) rfl
theorem dX11_tellNeighbours_121 : decode cX11_tellNeighbours 121 = .ok (.getfield 387, 3) := dq_180 (kX11_tellNeighbours_3 25 rfl) (kX11_tellNeighbours_3 26 rfl) (kX11_tellNeighbours_3 27 rfl) rfl
theorem dX11_tellNeighbours_124 : decode cX11_tellNeighbours 124 = .ok (.iconst 5, 1) := dq_8 (kX11_tellNeighbours_3 28 rfl)
theorem dX11_tellNeighbours_125 : decode cX11_tellNeighbours 125 = .ok (.if_icmp .ne 29, 3) := dq_160 (kX11_tellNeighbours_3 29 rfl) (kX11_tellNeighbours_3 30 rfl) (kX11_tellNeighbours_3 31 rfl) (by decide)
theorem dX11_tellNeighbours_128 : decode cX11_tellNeighbours 128 = .ok (.aload_n 0, 1) := dq_42 (kX11_tellNeighbours_4 0 rfl)
theorem dX11_tellNeighbours_129 : decode cX11_tellNeighbours 129 = .ok (.getfield 12, 3) := dq_180 (kX11_tellNeighbours_4 1 rfl) (kX11_tellNeighbours_4 2 rfl) (kX11_tellNeighbours_4 3 rfl) rfl
theorem dX11_tellNeighbours_132 : decode cX11_tellNeighbours 132 = .ok (.aload_n 1, 1) := dq_43 (kX11_tellNeighbours_4 4 rfl)
theorem dX11_tellNeighbours_133 : decode cX11_tellNeighbours 133 = .ok (.getfield 378, 3) := dq_180 (kX11_tellNeighbours_4 5 rfl) (kX11_tellNeighbours_4 6 rfl) (kX11_tellNeighbours_4 7 rfl) rfl
theorem dX11_tellNeighbours_136 : decode cX11_tellNeighbours 136 = .ok (.aload 7, 2) := dq_25 (kX11_tellNeighbours_4 8 rfl) (kX11_tellNeighbours_4 9 rfl) rfl
theorem dX11_tellNeighbours_138 : decode cX11_tellNeighbours 138 = .ok (.getfield 344, 3) := dq_180 (kX11_tellNeighbours_4 10 rfl) (kX11_tellNeighbours_4 11 rfl) (kX11_tellNeighbours_4 12 rfl) rfl
theorem dX11_tellNeighbours_141 : decode cX11_tellNeighbours 141 = .ok (.invokevirtual 388, 3) := dq_182 (kX11_tellNeighbours_4 13 rfl) (kX11_tellNeighbours_4 14 rfl) (kX11_tellNeighbours_4 15 rfl) rfl
theorem dX11_tellNeighbours_144 : decode cX11_tellNeighbours 144 = .ok (.iconst 2, 1) := dq_5 (kX11_tellNeighbours_4 16 rfl)
theorem dX11_tellNeighbours_145 : decode cX11_tellNeighbours 145 = .ok (.if_icmp .gt 9, 3) := dq_163 (kX11_tellNeighbours_4 17 rfl) (kX11_tellNeighbours_4 18 rfl) (kX11_tellNeighbours_4 19 rfl) (by decide)
theorem dX11_tellNeighbours_148 : decode cX11_tellNeighbours 148 = .ok (.iinc 4 1, 3) := dq_132 (kX11_tellNeighbours_4 20 rfl) (kX11_tellNeighbours_4 21 rfl) (kX11_tellNeighbours_4 22 rfl) rfl (by decide)
theorem dX11_tellNeighbours_151 : decode cX11_tellNeighbours 151 = .ok (.goto 47, 3) := dq_167 (kX11_tellNeighbours_4 23 rfl) (kX11_tellNeighbours_4 24 rfl) (kX11_tellNeighbours_4 25 rfl) (by decide)
theorem dX11_tellNeighbours_154 : decode cX11_tellNeighbours 154 = .ok (.aload 7, 2) := dq_25 (kX11_tellNeighbours_4 26 rfl) (kX11_tellNeighbours_4 27 rfl) rfl
theorem dX11_tellNeighbours_156 : decode cX11_tellNeighbours 156 = .ok (.getfield 387, 3) := dq_180 (kX11_tellNeighbours_4 28 rfl) (kX11_tellNeighbours_4 29 rfl) (kX11_tellNeighbours_4 30 rfl) rfl
theorem dX11_tellNeighbours_159 : decode cX11_tellNeighbours 159 = .ok (.iconst 1, 1) := dq_4 (kX11_tellNeighbours_4 31 rfl)
theorem dX11_tellNeighbours_160 : decode cX11_tellNeighbours 160 = .ok (.if_icmp .ne 38, 3) := dq_160 (kX11_tellNeighbours_5 0 rfl) (kX11_tellNeighbours_5 1 rfl) (kX11_tellNeighbours_5 2 rfl) (by decide)
theorem dX11_tellNeighbours_163 : decode cX11_tellNeighbours 163 = .ok (.aload 7, 2) := dq_25 (kX11_tellNeighbours_5 3 rfl) (kX11_tellNeighbours_5 4 rfl) rfl
theorem dX11_tellNeighbours_165 : decode cX11_tellNeighbours 165 = .ok (.getfield 173, 3) := dq_180 (kX11_tellNeighbours_5 5 rfl) (kX11_tellNeighbours_5 6 rfl) (kX11_tellNeighbours_5 7 rfl) rfl
theorem dX11_tellNeighbours_168 : decode cX11_tellNeighbours 168 = .ok (.aload_n 1, 1) := dq_43 (kX11_tellNeighbours_5 8 rfl)
theorem dX11_tellNeighbours_169 : decode cX11_tellNeighbours 169 = .ok (.getfield 353, 3) := dq_180 (kX11_tellNeighbours_5 9 rfl) (kX11_tellNeighbours_5 10 rfl) (kX11_tellNeighbours_5 11 rfl) rfl
theorem dX11_tellNeighbours_172 : decode cX11_tellNeighbours 172 = .ok (.if_icmp .eq 26, 3) := dq_159 (kX11_tellNeighbours_5 12 rfl) (kX11_tellNeighbours_5 13 rfl) (kX11_tellNeighbours_5 14 rfl) (by decide)
theorem dX11_tellNeighbours_175 : decode cX11_tellNeighbours 175 = .ok (.aload_n 0, 1) := dq_42 (kX11_tellNeighbours_5 15 rfl)
theorem dX11_tellNeighbours_176 : decode cX11_tellNeighbours 176 = .ok (.getfield 12, 3) := dq_180 (kX11_tellNeighbours_5 16 rfl) (kX11_tellNeighbours_5 17 rfl) (kX11_tellNeighbours_5 18 rfl) rfl
theorem dX11_tellNeighbours_179 : decode cX11_tellNeighbours 179 = .ok (.aload_n 1, 1) := dq_43 (kX11_tellNeighbours_5 19 rfl)
theorem dX11_tellNeighbours_180 : decode cX11_tellNeighbours 180 = .ok (.getfield 378, 3) := dq_180 (kX11_tellNeighbours_5 20 rfl) (kX11_tellNeighbours_5 21 rfl) (kX11_tellNeighbours_5 22 rfl) rfl
theorem dX11_tellNeighbours_183 : decode cX11_tellNeighbours 183 = .ok (.aload 7, 2) := dq_25 (kX11_tellNeighbours_5 23 rfl) (kX11_tellNeighbours_5 24 rfl) rfl
theorem dX11_tellNeighbours_185 : decode cX11_tellNeighbours 185 = .ok (.getfield 344, 3) := dq_180 (kX11_tellNeighbours_5 25 rfl) (kX11_tellNeighbours_5 26 rfl) (kX11_tellNeighbours_5 27 rfl) rfl
theorem dX11_tellNeighbours_188 : decode cX11_tellNeighbours 188 = .ok (.invokevirtual 388, 3) := dq_182 (kX11_tellNeighbours_5 28 rfl) (kX11_tellNeighbours_5 29 rfl) (kX11_tellNeighbours_5 30 rfl) rfl
theorem dX11_tellNeighbours_191 : decode cX11_tellNeighbours 191 = .ok (.iconst 3, 1) := dq_6 (kX11_tellNeighbours_5 31 rfl)
theorem dX11_tellNeighbours_192 : decode cX11_tellNeighbours 192 = .ok (.if_icmp .gt 6, 3) := dq_163 (kX11_tellNeighbours_6 0 rfl) (kX11_tellNeighbours_6 1 rfl) (kX11_tellNeighbours_6 2 rfl) (by decide)
theorem dX11_tellNeighbours_195 : decode cX11_tellNeighbours 195 = .ok (.iinc 5 1, 3) := dq_132 (kX11_tellNeighbours_6 3 rfl) (kX11_tellNeighbours_6 4 rfl) (kX11_tellNeighbours_6 5 rfl) rfl (by decide)
theorem dX11_tellNeighbours_198 : decode cX11_tellNeighbours 198 = .ok (.iinc 6 1, 3) := dq_132 (kX11_tellNeighbours_6 6 rfl) (kX11_tellNeighbours_6 7 rfl) (kX11_tellNeighbours_6 8 rfl) rfl (by decide)
theorem dX11_tellNeighbours_201 : decode cX11_tellNeighbours 201 = .ok (.goto (-188), 3) := dq_167 (kX11_tellNeighbours_6 9 rfl) (kX11_tellNeighbours_6 10 rfl) (kX11_tellNeighbours_6 11 rfl) (by decide)
theorem dX11_tellNeighbours_204 : decode cX11_tellNeighbours 204 = .ok (.aload_n 0, 1) := dq_42 (kX11_tellNeighbours_6 12 rfl)
theorem dX11_tellNeighbours_205 : decode cX11_tellNeighbours 205 = .ok (.getfield 19, 3) := dq_180 (kX11_tellNeighbours_6 13 rfl) (kX11_tellNeighbours_6 14 rfl) (kX11_tellNeighbours_6 15 rfl) rfl
theorem dX11_tellNeighbours_208 : decode cX11_tellNeighbours 208 = .ok (.getfield 372, 3) := dq_180 (kX11_tellNeighbours_6 16 rfl) (kX11_tellNeighbours_6 17 rfl) (kX11_tellNeighbours_6 18 rfl) rfl
theorem dX11_tellNeighbours_211 : decode cX11_tellNeighbours 211 = .ok (.iconst 5, 1) := dq_8 (kX11_tellNeighbours_6 19 rfl)
theorem dX11_tellNeighbours_212 : decode cX11_tellNeighbours 212 = .ok (.iload_n 2, 1) := dq_28 (kX11_tellNeighbours_6 20 rfl)
theorem dX11_tellNeighbours_213 : decode cX11_tellNeighbours 213 = .ok (.invokestatic 108, 3) := dq_184 (kX11_tellNeighbours_6 21 rfl) (kX11_tellNeighbours_6 22 rfl) (kX11_tellNeighbours_6 23 rfl) rfl
theorem dX11_tellNeighbours_216 : decode cX11_tellNeighbours 216 = .ok (.aload_n 0, 1) := dq_42 (kX11_tellNeighbours_6 24 rfl)
theorem dX11_tellNeighbours_217 : decode cX11_tellNeighbours 217 = .ok (.getfield 19, 3) := dq_180 (kX11_tellNeighbours_6 25 rfl) (kX11_tellNeighbours_6 26 rfl) (kX11_tellNeighbours_6 27 rfl) rfl
theorem dX11_tellNeighbours_220 : decode cX11_tellNeighbours 220 = .ok (.getfield 372, 3) := dq_180 (kX11_tellNeighbours_6 28 rfl) (kX11_tellNeighbours_6 29 rfl) (kX11_tellNeighbours_6 30 rfl) rfl
theorem dX11_tellNeighbours_223 : decode cX11_tellNeighbours 223 = .ok (.bipush 6, 2) := dq_16 (kX11_tellNeighbours_6 31 rfl) (kX11_tellNeighbours_7 0 rfl) (by decide)
theorem dX11_tellNeighbours_225 : decode cX11_tellNeighbours 225 = .ok (.iload_n 3, 1) := dq_29 (kX11_tellNeighbours_7 1 rfl)
theorem dX11_tellNeighbours_226 : decode cX11_tellNeighbours 226 = .ok (.invokestatic 108, 3) := dq_184 (kX11_tellNeighbours_7 2 rfl) (kX11_tellNeighbours_7 3 rfl) (kX11_tellNeighbours_7 4 rfl) rfl
theorem dX11_tellNeighbours_229 : decode cX11_tellNeighbours 229 = .ok (.aload_n 0, 1) := dq_42 (kX11_tellNeighbours_7 5 rfl)
theorem dX11_tellNeighbours_230 : decode cX11_tellNeighbours 230 = .ok (.getfield 19, 3) := dq_180 (kX11_tellNeighbours_7 6 rfl) (kX11_tellNeighbours_7 7 rfl) (kX11_tellNeighbours_7 8 rfl) rfl
theorem dX11_tellNeighbours_233 : decode cX11_tellNeighbours 233 = .ok (.getfield 372, 3) := dq_180 (kX11_tellNeighbours_7 9 rfl) (kX11_tellNeighbours_7 10 rfl) (kX11_tellNeighbours_7 11 rfl) rfl
theorem dX11_tellNeighbours_236 : decode cX11_tellNeighbours 236 = .ok (.bipush 7, 2) := dq_16 (kX11_tellNeighbours_7 12 rfl) (kX11_tellNeighbours_7 13 rfl) (by decide)
theorem dX11_tellNeighbours_238 : decode cX11_tellNeighbours 238 = .ok (.iload 4, 2) := dq_21 (kX11_tellNeighbours_7 14 rfl) (kX11_tellNeighbours_7 15 rfl) rfl
theorem dX11_tellNeighbours_240 : decode cX11_tellNeighbours 240 = .ok (.invokestatic 108, 3) := dq_184 (kX11_tellNeighbours_7 16 rfl) (kX11_tellNeighbours_7 17 rfl) (kX11_tellNeighbours_7 18 rfl) rfl
theorem dX11_tellNeighbours_243 : decode cX11_tellNeighbours 243 = .ok (.aload_n 0, 1) := dq_42 (kX11_tellNeighbours_7 19 rfl)
theorem dX11_tellNeighbours_244 : decode cX11_tellNeighbours 244 = .ok (.getfield 19, 3) := dq_180 (kX11_tellNeighbours_7 20 rfl) (kX11_tellNeighbours_7 21 rfl) (kX11_tellNeighbours_7 22 rfl) rfl
theorem dX11_tellNeighbours_247 : decode cX11_tellNeighbours 247 = .ok (.getfield 372, 3) := dq_180 (kX11_tellNeighbours_7 23 rfl) (kX11_tellNeighbours_7 24 rfl) (kX11_tellNeighbours_7 25 rfl) rfl
theorem dX11_tellNeighbours_250 : decode cX11_tellNeighbours 250 = .ok (.bipush 8, 2) := dq_16 (kX11_tellNeighbours_7 26 rfl) (kX11_tellNeighbours_7 27 rfl) (by decide)
theorem dX11_tellNeighbours_252 : decode cX11_tellNeighbours 252 = .ok (.iload 5, 2) := dq_21 (kX11_tellNeighbours_7 28 rfl) (kX11_tellNeighbours_7 29 rfl) rfl
theorem dX11_tellNeighbours_254 : decode cX11_tellNeighbours 254 = .ok (.invokestatic 108, 3) := dq_184 (kX11_tellNeighbours_7 30 rfl) (kX11_tellNeighbours_7 31 rfl) (kX11_tellNeighbours_8 0 rfl) rfl
theorem dX11_tellNeighbours_257 : decode cX11_tellNeighbours 257 = .ok (.return_, 1) := dq_177 (kX11_tellNeighbours_8 1 rfl)

def bX11_ship_0 : List UInt8 := [42, 27, 182, 0, 151, 198, 0, 24, 28, 4, 17, 39, 16, 184, 0, 112, 153, 0, 13, 29, 3, 16, 100, 184, 0, 112, 154, 0, 5, 2, 172, 42]
theorem kX11_ship_0 (j : Nat) {b : UInt8} (hj : bX11_ship_0[j]? = some b) : AtB cX11_ship (0 + j) b := at_of32 (by decide +kernel) j hj
def bX11_ship_1 : List UInt8 := [180, 0, 64, 42, 180, 0, 60, 190, 161, 0, 5, 2, 172, 42, 180, 0, 60, 42, 180, 0, 64, 187, 0, 58, 89, 27, 28, 29, 183, 1, 135, 83]
theorem kX11_ship_1 (j : Nat) {b : UInt8} (hj : bX11_ship_1[j]? = some b) : AtB cX11_ship (32 + j) b := at_of32 (by decide +kernel) j hj
def bX11_ship_2 : List UInt8 := [42, 89, 180, 0, 64, 90, 4, 96, 181, 0, 64, 172]
theorem kX11_ship_2 (j : Nat) {b : UInt8} (hj : bX11_ship_2[j]? = some b) : AtB cX11_ship (64 + j) b := at_of32 (by decide +kernel) j hj
theorem dX11_ship_0 : decode cX11_ship 0 = .ok (.aload_n 0, 1) := dq_42 (kX11_ship_0 0 rfl)
theorem dX11_ship_1 : decode cX11_ship 1 = .ok (.iload_n 1, 1) := dq_27 (kX11_ship_0 1 rfl)
theorem dX11_ship_2 : decode cX11_ship 2 = .ok (.invokevirtual 151, 3) := dq_182 (kX11_ship_0 2 rfl) (kX11_ship_0 3 rfl) (kX11_ship_0 4 rfl) rfl
theorem dX11_ship_5 : decode cX11_ship 5 = .ok (.ifnull 24, 3) := dq_198 (kX11_ship_0 5 rfl) (kX11_ship_0 6 rfl) (kX11_ship_0 7 rfl) (by decide)
theorem dX11_ship_8 : decode cX11_ship 8 = .ok (.iload_n 2, 1) := dq_28 (kX11_ship_0 8 rfl)
theorem dX11_ship_9 : decode cX11_ship 9 = .ok (.iconst 1, 1) := dq_4 (kX11_ship_0 9 rfl)
theorem dX11_ship_10 : decode cX11_ship 10 = .ok (.sipush 10000, 3) := dq_17 (kX11_ship_0 10 rfl) (kX11_ship_0 11 rfl) (kX11_ship_0 12 rfl) (by decide)
theorem dX11_ship_13 : decode cX11_ship 13 = .ok (.invokestatic 112, 3) := dq_184 (kX11_ship_0 13 rfl) (kX11_ship_0 14 rfl) (kX11_ship_0 15 rfl) rfl
theorem dX11_ship_16 : decode cX11_ship 16 = .ok (.ifCond .eq 13, 3) := dq_153 (kX11_ship_0 16 rfl) (kX11_ship_0 17 rfl) (kX11_ship_0 18 rfl) (by decide)
theorem dX11_ship_19 : decode cX11_ship 19 = .ok (.iload_n 3, 1) := dq_29 (kX11_ship_0 19 rfl)
theorem dX11_ship_20 : decode cX11_ship 20 = .ok (.iconst 0, 1) := dq_3 (kX11_ship_0 20 rfl)
theorem dX11_ship_21 : decode cX11_ship 21 = .ok (.bipush 100, 2) := dq_16 (kX11_ship_0 21 rfl) (kX11_ship_0 22 rfl) (by decide)
theorem dX11_ship_23 : decode cX11_ship 23 = .ok (.invokestatic 112, 3) := dq_184 (kX11_ship_0 23 rfl) (kX11_ship_0 24 rfl) (kX11_ship_0 25 rfl) rfl
theorem dX11_ship_26 : decode cX11_ship 26 = .ok (.ifCond .ne 5, 3) := dq_154 (kX11_ship_0 26 rfl) (kX11_ship_0 27 rfl) (kX11_ship_0 28 rfl) (by decide)
theorem dX11_ship_29 : decode cX11_ship 29 = .ok (.iconst (-1), 1) := dq_2 (kX11_ship_0 29 rfl)
theorem dX11_ship_30 : decode cX11_ship 30 = .ok (.ireturn, 1) := dq_172 (kX11_ship_0 30 rfl)
theorem dX11_ship_31 : decode cX11_ship 31 = .ok (.aload_n 0, 1) := dq_42 (kX11_ship_0 31 rfl)
theorem dX11_ship_32 : decode cX11_ship 32 = .ok (.getfield 64, 3) := dq_180 (kX11_ship_1 0 rfl) (kX11_ship_1 1 rfl) (kX11_ship_1 2 rfl) rfl
theorem dX11_ship_35 : decode cX11_ship 35 = .ok (.aload_n 0, 1) := dq_42 (kX11_ship_1 3 rfl)
theorem dX11_ship_36 : decode cX11_ship 36 = .ok (.getfield 60, 3) := dq_180 (kX11_ship_1 4 rfl) (kX11_ship_1 5 rfl) (kX11_ship_1 6 rfl) rfl
theorem dX11_ship_39 : decode cX11_ship 39 = .ok (.arraylength, 1) := dq_190 (kX11_ship_1 7 rfl)
theorem dX11_ship_40 : decode cX11_ship 40 = .ok (.if_icmp .lt 5, 3) := dq_161 (kX11_ship_1 8 rfl) (kX11_ship_1 9 rfl) (kX11_ship_1 10 rfl) (by decide)
theorem dX11_ship_43 : decode cX11_ship 43 = .ok (.iconst (-1), 1) := dq_2 (kX11_ship_1 11 rfl)
theorem dX11_ship_44 : decode cX11_ship 44 = .ok (.ireturn, 1) := dq_172 (kX11_ship_1 12 rfl)
theorem dX11_ship_45 : decode cX11_ship 45 = .ok (.aload_n 0, 1) := dq_42 (kX11_ship_1 13 rfl)
theorem dX11_ship_46 : decode cX11_ship 46 = .ok (.getfield 60, 3) := dq_180 (kX11_ship_1 14 rfl) (kX11_ship_1 15 rfl) (kX11_ship_1 16 rfl) rfl
theorem dX11_ship_49 : decode cX11_ship 49 = .ok (.aload_n 0, 1) := dq_42 (kX11_ship_1 17 rfl)
theorem dX11_ship_50 : decode cX11_ship 50 = .ok (.getfield 64, 3) := dq_180 (kX11_ship_1 18 rfl) (kX11_ship_1 19 rfl) (kX11_ship_1 20 rfl) rfl
theorem dX11_ship_53 : decode cX11_ship 53 = .ok (.new 58, 3) := dq_187 (kX11_ship_1 21 rfl) (kX11_ship_1 22 rfl) (kX11_ship_1 23 rfl) rfl
theorem dX11_ship_56 : decode cX11_ship 56 = .ok (.dup, 1) := dq_89 (kX11_ship_1 24 rfl)
theorem dX11_ship_57 : decode cX11_ship 57 = .ok (.iload_n 1, 1) := dq_27 (kX11_ship_1 25 rfl)
theorem dX11_ship_58 : decode cX11_ship 58 = .ok (.iload_n 2, 1) := dq_28 (kX11_ship_1 26 rfl)
theorem dX11_ship_59 : decode cX11_ship 59 = .ok (.iload_n 3, 1) := dq_29 (kX11_ship_1 27 rfl)
theorem dX11_ship_60 : decode cX11_ship 60 = .ok (.invokespecial 391, 3) := dq_183 (kX11_ship_1 28 rfl) (kX11_ship_1 29 rfl) (kX11_ship_1 30 rfl) rfl
theorem dX11_ship_63 : decode cX11_ship 63 = .ok (.aastore, 1) := dq_83 (kX11_ship_1 31 rfl)
theorem dX11_ship_64 : decode cX11_ship 64 = .ok (.aload_n 0, 1) := dq_42 (kX11_ship_2 0 rfl)
theorem dX11_ship_65 : decode cX11_ship 65 = .ok (.dup, 1) := dq_89 (kX11_ship_2 1 rfl)
theorem dX11_ship_66 : decode cX11_ship 66 = .ok (.getfield 64, 3) := dq_180 (kX11_ship_2 2 rfl) (kX11_ship_2 3 rfl) (kX11_ship_2 4 rfl) rfl
theorem dX11_ship_69 : decode cX11_ship 69 = .ok (.dup_x1, 1) := dq_90 (kX11_ship_2 5 rfl)
theorem dX11_ship_70 : decode cX11_ship 70 = .ok (.iconst 1, 1) := dq_4 (kX11_ship_2 6 rfl)
theorem dX11_ship_71 : decode cX11_ship 71 = .ok (.iadd, 1) := dq_96 (kX11_ship_2 7 rfl)
theorem dX11_ship_72 : decode cX11_ship 72 = .ok (.putfield 64, 3) := dq_181 (kX11_ship_2 8 rfl) (kX11_ship_2 9 rfl) (kX11_ship_2 10 rfl) rfl
theorem dX11_ship_75 : decode cX11_ship 75 = .ok (.ireturn, 1) := dq_172 (kX11_ship_2 11 rfl)

def bX11_cover_0 : List UInt8 := [27, 184, 1, 138, 153, 0, 23, 28, 3, 16, 11, 184, 0, 112, 153, 0, 13, 29, 3, 16, 100, 184, 0, 112, 154, 0, 5, 3, 172, 42, 180, 0]
theorem kX11_cover_0 (j : Nat) {b : UInt8} (hj : bX11_cover_0[j]? = some b) : AtB cX11_cover (0 + j) b := at_of32 (by decide +kernel) j hj
def bX11_cover_1 : List UInt8 := [12, 180, 1, 141, 27, 16, 12, 104, 28, 96, 29, 184, 0, 108, 4, 172]
theorem kX11_cover_1 (j : Nat) {b : UInt8} (hj : bX11_cover_1[j]? = some b) : AtB cX11_cover (32 + j) b := at_of32 (by decide +kernel) j hj
theorem dX11_cover_0 : decode cX11_cover 0 = .ok (.iload_n 1, 1) := dq_27 (kX11_cover_0 0 rfl)
theorem dX11_cover_1 : decode cX11_cover 1 = .ok (.invokestatic 394, 3) := dq_184 (kX11_cover_0 1 rfl) (kX11_cover_0 2 rfl) (kX11_cover_0 3 rfl) rfl
theorem dX11_cover_4 : decode cX11_cover 4 = .ok (.ifCond .eq 23, 3) := dq_153 (kX11_cover_0 4 rfl) (kX11_cover_0 5 rfl) (kX11_cover_0 6 rfl) (by decide)
theorem dX11_cover_7 : decode cX11_cover 7 = .ok (.iload_n 2, 1) := dq_28 (kX11_cover_0 7 rfl)
theorem dX11_cover_8 : decode cX11_cover 8 = .ok (.iconst 0, 1) := dq_3 (kX11_cover_0 8 rfl)
theorem dX11_cover_9 : decode cX11_cover 9 = .ok (.bipush 11, 2) := dq_16 (kX11_cover_0 9 rfl) (kX11_cover_0 10 rfl) (by decide)
theorem dX11_cover_11 : decode cX11_cover 11 = .ok (.invokestatic 112, 3) := dq_184 (kX11_cover_0 11 rfl) (kX11_cover_0 12 rfl) (kX11_cover_0 13 rfl) rfl
theorem dX11_cover_14 : decode cX11_cover 14 = .ok (.ifCond .eq 13, 3) := dq_153 (kX11_cover_0 14 rfl) (kX11_cover_0 15 rfl) (kX11_cover_0 16 rfl) (by decide)
theorem dX11_cover_17 : decode cX11_cover 17 = .ok (.iload_n 3, 1) := dq_29 (kX11_cover_0 17 rfl)
theorem dX11_cover_18 : decode cX11_cover 18 = .ok (.iconst 0, 1) := dq_3 (kX11_cover_0 18 rfl)
theorem dX11_cover_19 : decode cX11_cover 19 = .ok (.bipush 100, 2) := dq_16 (kX11_cover_0 19 rfl) (kX11_cover_0 20 rfl) (by decide)
theorem dX11_cover_21 : decode cX11_cover 21 = .ok (.invokestatic 112, 3) := dq_184 (kX11_cover_0 21 rfl) (kX11_cover_0 22 rfl) (kX11_cover_0 23 rfl) rfl
theorem dX11_cover_24 : decode cX11_cover 24 = .ok (.ifCond .ne 5, 3) := dq_154 (kX11_cover_0 24 rfl) (kX11_cover_0 25 rfl) (kX11_cover_0 26 rfl) (by decide)
theorem dX11_cover_27 : decode cX11_cover 27 = .ok (.iconst 0, 1) := dq_3 (kX11_cover_0 27 rfl)
theorem dX11_cover_28 : decode cX11_cover 28 = .ok (.ireturn, 1) := dq_172 (kX11_cover_0 28 rfl)
theorem dX11_cover_29 : decode cX11_cover 29 = .ok (.aload_n 0, 1) := dq_42 (kX11_cover_0 29 rfl)
theorem dX11_cover_30 : decode cX11_cover 30 = .ok (.getfield 12, 3) := dq_180 (kX11_cover_0 30 rfl) (kX11_cover_0 31 rfl) (kX11_cover_1 0 rfl) rfl
theorem dX11_cover_33 : decode cX11_cover 33 = .ok (.getfield 397, 3) := dq_180 (kX11_cover_1 1 rfl) (kX11_cover_1 2 rfl) (kX11_cover_1 3 rfl) rfl
theorem dX11_cover_36 : decode cX11_cover 36 = .ok (.iload_n 1, 1) := dq_27 (kX11_cover_1 4 rfl)
theorem dX11_cover_37 : decode cX11_cover 37 = .ok (.bipush 12, 2) := dq_16 (kX11_cover_1 5 rfl) (kX11_cover_1 6 rfl) (by decide)
theorem dX11_cover_39 : decode cX11_cover 39 = .ok (.imul, 1) := dq_104 (kX11_cover_1 7 rfl)
theorem dX11_cover_40 : decode cX11_cover 40 = .ok (.iload_n 2, 1) := dq_28 (kX11_cover_1 8 rfl)
theorem dX11_cover_41 : decode cX11_cover 41 = .ok (.iadd, 1) := dq_96 (kX11_cover_1 9 rfl)
theorem dX11_cover_42 : decode cX11_cover 42 = .ok (.iload_n 3, 1) := dq_29 (kX11_cover_1 10 rfl)
theorem dX11_cover_43 : decode cX11_cover 43 = .ok (.invokestatic 108, 3) := dq_184 (kX11_cover_1 11 rfl) (kX11_cover_1 12 rfl) (kX11_cover_1 13 rfl) rfl
theorem dX11_cover_46 : decode cX11_cover 46 = .ok (.iconst 1, 1) := dq_4 (kX11_cover_1 14 rfl)
theorem dX11_cover_47 : decode cX11_cover 47 = .ok (.ireturn, 1) := dq_172 (kX11_cover_1 15 rfl)

def bX11_sea_0 : List UInt8 := [27, 184, 1, 138, 153, 0, 13, 28, 4, 16, 90, 184, 0, 112, 154, 0, 5, 3, 172, 42, 180, 0, 12, 180, 1, 144, 27, 28, 184, 0, 108, 4]
theorem kX11_sea_0 (j : Nat) {b : UInt8} (hj : bX11_sea_0[j]? = some b) : AtB cX11_sea (0 + j) b := at_of32 (by decide +kernel) j hj
def bX11_sea_1 : List UInt8 := [172]
theorem kX11_sea_1 (j : Nat) {b : UInt8} (hj : bX11_sea_1[j]? = some b) : AtB cX11_sea (32 + j) b := at_of32 (by decide +kernel) j hj
theorem dX11_sea_0 : decode cX11_sea 0 = .ok (.iload_n 1, 1) := dq_27 (kX11_sea_0 0 rfl)
theorem dX11_sea_1 : decode cX11_sea 1 = .ok (.invokestatic 394, 3) := dq_184 (kX11_sea_0 1 rfl) (kX11_sea_0 2 rfl) (kX11_sea_0 3 rfl) rfl
theorem dX11_sea_4 : decode cX11_sea 4 = .ok (.ifCond .eq 13, 3) := dq_153 (kX11_sea_0 4 rfl) (kX11_sea_0 5 rfl) (kX11_sea_0 6 rfl) (by decide)
theorem dX11_sea_7 : decode cX11_sea 7 = .ok (.iload_n 2, 1) := dq_28 (kX11_sea_0 7 rfl)
theorem dX11_sea_8 : decode cX11_sea 8 = .ok (.iconst 1, 1) := dq_4 (kX11_sea_0 8 rfl)
theorem dX11_sea_9 : decode cX11_sea 9 = .ok (.bipush 90, 2) := dq_16 (kX11_sea_0 9 rfl) (kX11_sea_0 10 rfl) (by decide)
theorem dX11_sea_11 : decode cX11_sea 11 = .ok (.invokestatic 112, 3) := dq_184 (kX11_sea_0 11 rfl) (kX11_sea_0 12 rfl) (kX11_sea_0 13 rfl) rfl
theorem dX11_sea_14 : decode cX11_sea 14 = .ok (.ifCond .ne 5, 3) := dq_154 (kX11_sea_0 14 rfl) (kX11_sea_0 15 rfl) (kX11_sea_0 16 rfl) (by decide)
theorem dX11_sea_17 : decode cX11_sea 17 = .ok (.iconst 0, 1) := dq_3 (kX11_sea_0 17 rfl)
theorem dX11_sea_18 : decode cX11_sea 18 = .ok (.ireturn, 1) := dq_172 (kX11_sea_0 18 rfl)
theorem dX11_sea_19 : decode cX11_sea 19 = .ok (.aload_n 0, 1) := dq_42 (kX11_sea_0 19 rfl)
theorem dX11_sea_20 : decode cX11_sea 20 = .ok (.getfield 12, 3) := dq_180 (kX11_sea_0 20 rfl) (kX11_sea_0 21 rfl) (kX11_sea_0 22 rfl) rfl
theorem dX11_sea_23 : decode cX11_sea 23 = .ok (.getfield 400, 3) := dq_180 (kX11_sea_0 23 rfl) (kX11_sea_0 24 rfl) (kX11_sea_0 25 rfl) rfl
theorem dX11_sea_26 : decode cX11_sea 26 = .ok (.iload_n 1, 1) := dq_27 (kX11_sea_0 26 rfl)
theorem dX11_sea_27 : decode cX11_sea 27 = .ok (.iload_n 2, 1) := dq_28 (kX11_sea_0 27 rfl)
theorem dX11_sea_28 : decode cX11_sea 28 = .ok (.invokestatic 108, 3) := dq_184 (kX11_sea_0 28 rfl) (kX11_sea_0 29 rfl) (kX11_sea_0 30 rfl) rfl
theorem dX11_sea_31 : decode cX11_sea 31 = .ok (.iconst 1, 1) := dq_4 (kX11_sea_0 31 rfl)
theorem dX11_sea_32 : decode cX11_sea 32 = .ok (.ireturn, 1) := dq_172 (kX11_sea_1 0 rfl)

def bX11_voyage_0 : List UInt8 := [42, 27, 182, 1, 147, 58, 5, 42, 29, 182, 0, 195, 58, 6, 25, 5, 198, 0, 29, 28, 184, 1, 138, 153, 0, 22, 25, 6, 198, 0, 17, 21]
theorem kX11_voyage_0 (j : Nat) {b : UInt8} (hj : bX11_voyage_0[j]? = some b) : AtB cX11_voyage (0 + j) b := at_of32 (by decide +kernel) j hj
def bX11_voyage_1 : List UInt8 := [4, 3, 25, 5, 180, 1, 151, 184, 0, 112, 154, 0, 5, 3, 172, 25, 5, 180, 1, 154, 154, 0, 18, 42, 180, 0, 12, 25, 6, 180, 1, 88]
theorem kX11_voyage_1 (j : Nat) {b : UInt8} (hj : bX11_voyage_1[j]? = some b) : AtB cX11_voyage (32 + j) b := at_of32 (by decide +kernel) j hj
def bX11_voyage_2 : List UInt8 := [182, 1, 157, 154, 0, 5, 3, 172, 25, 5, 28, 29, 21, 4, 42, 180, 0, 12, 180, 0, 145, 42, 180, 0, 12, 180, 1, 144, 28, 184, 0, 253]
theorem kX11_voyage_2 (j : Nat) {b : UInt8} (hj : bX11_voyage_2[j]? = some b) : AtB cX11_voyage (64 + j) b := at_of32 (by decide +kernel) j hj
def bX11_voyage_3 : List UInt8 := [182, 1, 160, 42, 3, 21, 4, 182, 0, 192, 4, 172]
theorem kX11_voyage_3 (j : Nat) {b : UInt8} (hj : bX11_voyage_3[j]? = some b) : AtB cX11_voyage (96 + j) b := at_of32 (by decide +kernel) j hj
theorem dX11_voyage_0 : decode cX11_voyage 0 = .ok (.aload_n 0, 1) := dq_42 (kX11_voyage_0 0 rfl)
theorem dX11_voyage_1 : decode cX11_voyage 1 = .ok (.iload_n 1, 1) := dq_27 (kX11_voyage_0 1 rfl)
theorem dX11_voyage_2 : decode cX11_voyage 2 = .ok (.invokevirtual 403, 3) := dq_182 (kX11_voyage_0 2 rfl) (kX11_voyage_0 3 rfl) (kX11_voyage_0 4 rfl) rfl
theorem dX11_voyage_5 : decode cX11_voyage 5 = .ok (.astore 5, 2) := dq_58 (kX11_voyage_0 5 rfl) (kX11_voyage_0 6 rfl) rfl
theorem dX11_voyage_7 : decode cX11_voyage 7 = .ok (.aload_n 0, 1) := dq_42 (kX11_voyage_0 7 rfl)
theorem dX11_voyage_8 : decode cX11_voyage 8 = .ok (.iload_n 3, 1) := dq_29 (kX11_voyage_0 8 rfl)
theorem dX11_voyage_9 : decode cX11_voyage 9 = .ok (.invokevirtual 195, 3) := dq_182 (kX11_voyage_0 9 rfl) (kX11_voyage_0 10 rfl) (kX11_voyage_0 11 rfl) rfl
theorem dX11_voyage_12 : decode cX11_voyage 12 = .ok (.astore 6, 2) := dq_58 (kX11_voyage_0 12 rfl) (kX11_voyage_0 13 rfl) rfl
theorem dX11_voyage_14 : decode cX11_voyage 14 = .ok (.aload 5, 2) := dq_25 (kX11_voyage_0 14 rfl) (kX11_voyage_0 15 rfl) rfl
theorem dX11_voyage_16 : decode cX11_voyage 16 = .ok (.ifnull 29, 3) := dq_198 (kX11_voyage_0 16 rfl) (kX11_voyage_0 17 rfl) (kX11_voyage_0 18 rfl) (by decide)
theorem dX11_voyage_19 : decode cX11_voyage 19 = .ok (.iload_n 2, 1) := dq_28 (kX11_voyage_0 19 rfl)
theorem dX11_voyage_20 : decode cX11_voyage 20 = .ok (.invokestatic 394, 3) := dq_184 (kX11_voyage_0 20 rfl) (kX11_voyage_0 21 rfl) (kX11_voyage_0 22 rfl) rfl
theorem dX11_voyage_23 : decode cX11_voyage 23 = .ok (.ifCond .eq 22, 3) := dq_153 (kX11_voyage_0 23 rfl) (kX11_voyage_0 24 rfl) (kX11_voyage_0 25 rfl) (by decide)
theorem dX11_voyage_26 : decode cX11_voyage 26 = .ok (.aload 6, 2) := dq_25 (kX11_voyage_0 26 rfl) (kX11_voyage_0 27 rfl) rfl
theorem dX11_voyage_28 : decode cX11_voyage 28 = .ok (.ifnull 17, 3) := dq_198 (kX11_voyage_0 28 rfl) (kX11_voyage_0 29 rfl) (kX11_voyage_0 30 rfl) (by decide)
theorem dX11_voyage_31 : decode cX11_voyage 31 = .ok (.iload 4, 2) := dq_21 (kX11_voyage_0 31 rfl) (kX11_voyage_1 0 rfl) rfl
theorem dX11_voyage_33 : decode cX11_voyage 33 = .ok (.iconst 0, 1) := dq_3 (kX11_voyage_1 1 rfl)
theorem dX11_voyage_34 : decode cX11_voyage 34 = .ok (.aload 5, 2) := dq_25 (kX11_voyage_1 2 rfl) (kX11_voyage_1 3 rfl) rfl
theorem dX11_voyage_36 : decode cX11_voyage 36 = .ok (.getfield 407, 3) := dq_180 (kX11_voyage_1 4 rfl) (kX11_voyage_1 5 rfl) (kX11_voyage_1 6 rfl) rfl
theorem dX11_voyage_39 : decode cX11_voyage 39 = .ok (.invokestatic 112, 3) := dq_184 (kX11_voyage_1 7 rfl) (kX11_voyage_1 8 rfl) (kX11_voyage_1 9 rfl) rfl
theorem dX11_voyage_42 : decode cX11_voyage 42 = .ok (.ifCond .ne 5, 3) := dq_154 (kX11_voyage_1 10 rfl) (kX11_voyage_1 11 rfl) (kX11_voyage_1 12 rfl) (by decide)
theorem dX11_voyage_45 : decode cX11_voyage 45 = .ok (.iconst 0, 1) := dq_3 (kX11_voyage_1 13 rfl)
theorem dX11_voyage_46 : decode cX11_voyage 46 = .ok (.ireturn, 1) := dq_172 (kX11_voyage_1 14 rfl)
theorem dX11_voyage_47 : decode cX11_voyage 47 = .ok (.aload 5, 2) := dq_25 (kX11_voyage_1 15 rfl) (kX11_voyage_1 16 rfl) rfl
theorem dX11_voyage_49 : decode cX11_voyage 49 = .ok (.getfield 410, 3) := dq_180 (kX11_voyage_1 17 rfl) (kX11_voyage_1 18 rfl) (kX11_voyage_1 19 rfl) rfl
theorem dX11_voyage_52 : decode cX11_voyage 52 = .ok (.ifCond .ne 18, 3) := dq_154 (kX11_voyage_1 20 rfl) (kX11_voyage_1 21 rfl) (kX11_voyage_1 22 rfl) (by decide)
theorem dX11_voyage_55 : decode cX11_voyage 55 = .ok (.aload_n 0, 1) := dq_42 (kX11_voyage_1 23 rfl)
theorem dX11_voyage_56 : decode cX11_voyage 56 = .ok (.getfield 12, 3) := dq_180 (kX11_voyage_1 24 rfl) (kX11_voyage_1 25 rfl) (kX11_voyage_1 26 rfl) rfl
theorem dX11_voyage_59 : decode cX11_voyage 59 = .ok (.aload 6, 2) := dq_25 (kX11_voyage_1 27 rfl) (kX11_voyage_1 28 rfl) rfl
theorem dX11_voyage_61 : decode cX11_voyage 61 = .ok (.getfield 344, 3) := dq_180 (kX11_voyage_1 29 rfl) (kX11_voyage_1 30 rfl) (kX11_voyage_1 31 rfl) rfl
theorem dX11_voyage_64 : decode cX11_voyage 64 = .ok (.invokevirtual 413, 3) := dq_182 (kX11_voyage_2 0 rfl) (kX11_voyage_2 1 rfl) (kX11_voyage_2 2 rfl) rfl
theorem dX11_voyage_67 : decode cX11_voyage 67 = .ok (.ifCond .ne 5, 3) := dq_154 (kX11_voyage_2 3 rfl) (kX11_voyage_2 4 rfl) (kX11_voyage_2 5 rfl) (by decide)
theorem dX11_voyage_70 : decode cX11_voyage 70 = .ok (.iconst 0, 1) := dq_3 (kX11_voyage_2 6 rfl)
theorem dX11_voyage_71 : decode cX11_voyage 71 = .ok (.ireturn, 1) := dq_172 (kX11_voyage_2 7 rfl)
theorem dX11_voyage_72 : decode cX11_voyage 72 = .ok (.aload 5, 2) := dq_25 (kX11_voyage_2 8 rfl) (kX11_voyage_2 9 rfl) rfl
theorem dX11_voyage_74 : decode cX11_voyage 74 = .ok (.iload_n 2, 1) := dq_28 (kX11_voyage_2 10 rfl)
theorem dX11_voyage_75 : decode cX11_voyage 75 = .ok (.iload_n 3, 1) := dq_29 (kX11_voyage_2 11 rfl)
theorem dX11_voyage_76 : decode cX11_voyage 76 = .ok (.iload 4, 2) := dq_21 (kX11_voyage_2 12 rfl) (kX11_voyage_2 13 rfl) rfl
theorem dX11_voyage_78 : decode cX11_voyage 78 = .ok (.aload_n 0, 1) := dq_42 (kX11_voyage_2 14 rfl)
theorem dX11_voyage_79 : decode cX11_voyage 79 = .ok (.getfield 12, 3) := dq_180 (kX11_voyage_2 15 rfl) (kX11_voyage_2 16 rfl) (kX11_voyage_2 17 rfl) rfl
theorem dX11_voyage_82 : decode cX11_voyage 82 = .ok (.getfield 145, 3) := dq_180 (kX11_voyage_2 18 rfl) (kX11_voyage_2 19 rfl) (kX11_voyage_2 20 rfl) rfl
theorem dX11_voyage_85 : decode cX11_voyage 85 = .ok (.aload_n 0, 1) := dq_42 (kX11_voyage_2 21 rfl)
theorem dX11_voyage_86 : decode cX11_voyage 86 = .ok (.getfield 12, 3) := dq_180 (kX11_voyage_2 22 rfl) (kX11_voyage_2 23 rfl) (kX11_voyage_2 24 rfl) rfl
theorem dX11_voyage_89 : decode cX11_voyage 89 = .ok (.getfield 400, 3) := dq_180 (kX11_voyage_2 25 rfl) (kX11_voyage_2 26 rfl) (kX11_voyage_2 27 rfl) rfl
theorem dX11_voyage_92 : decode cX11_voyage 92 = .ok (.iload_n 2, 1) := dq_28 (kX11_voyage_2 28 rfl)
theorem dX11_voyage_93 : decode cX11_voyage 93 = .ok (.invokestatic 253, 3) := dq_184 (kX11_voyage_2 29 rfl) (kX11_voyage_2 30 rfl) (kX11_voyage_2 31 rfl) rfl
theorem dX11_voyage_96 : decode cX11_voyage 96 = .ok (.invokevirtual 416, 3) := dq_182 (kX11_voyage_3 0 rfl) (kX11_voyage_3 1 rfl) (kX11_voyage_3 2 rfl) rfl
theorem dX11_voyage_99 : decode cX11_voyage 99 = .ok (.aload_n 0, 1) := dq_42 (kX11_voyage_3 3 rfl)
theorem dX11_voyage_100 : decode cX11_voyage 100 = .ok (.iconst 0, 1) := dq_3 (kX11_voyage_3 4 rfl)
theorem dX11_voyage_101 : decode cX11_voyage 101 = .ok (.iload 4, 2) := dq_21 (kX11_voyage_3 5 rfl) (kX11_voyage_3 6 rfl) rfl
theorem dX11_voyage_103 : decode cX11_voyage 103 = .ok (.invokevirtual 192, 3) := dq_182 (kX11_voyage_3 7 rfl) (kX11_voyage_3 8 rfl) (kX11_voyage_3 9 rfl) rfl
theorem dX11_voyage_106 : decode cX11_voyage 106 = .ok (.iconst 1, 1) := dq_4 (kX11_voyage_3 10 rfl)
theorem dX11_voyage_107 : decode cX11_voyage 107 = .ok (.ireturn, 1) := dq_172 (kX11_voyage_3 11 rfl)

def bX11_sledge_0 : List UInt8 := [42, 27, 182, 0, 195, 58, 4, 42, 28, 182, 0, 195, 58, 5, 25, 4, 198, 0, 26, 25, 5, 198, 0, 21, 27, 28, 159, 0, 16, 25, 4, 180]
theorem kX11_sledge_0 (j : Nat) {b : UInt8} (hj : bX11_sledge_0[j]? = some b) : AtB cX11_sledge (0 + j) b := at_of32 (by decide +kernel) j hj
def bX11_sledge_1 : List UInt8 := [0, 173, 25, 5, 180, 0, 173, 159, 0, 5, 2, 172, 29, 4, 17, 1, 244, 184, 0, 112, 153, 0, 22, 29, 25, 4, 180, 0, 186, 163, 0, 13]
theorem kX11_sledge_1 (j : Nat) {b : UInt8} (hj : bX11_sledge_1[j]? = some b) : AtB cX11_sledge (32 + j) b := at_of32 (by decide +kernel) j hj
def bX11_sledge_2 : List UInt8 := [42, 180, 0, 72, 182, 1, 9, 153, 0, 5, 2, 172, 42, 180, 0, 12, 25, 4, 180, 1, 88, 25, 5, 180, 1, 88, 182, 1, 162, 54, 6, 21]
theorem kX11_sledge_2 (j : Nat) {b : UInt8} (hj : bX11_sledge_2[j]? = some b) : AtB cX11_sledge (64 + j) b := at_of32 (by decide +kernel) j hj
def bX11_sledge_3 : List UInt8 := [6, 2, 159, 0, 9, 21, 6, 29, 161, 0, 5, 2, 172, 25, 4, 89, 180, 0, 186, 29, 100, 181, 0, 186, 42, 4, 21, 6, 182, 0, 192, 42]
theorem kX11_sledge_3 (j : Nat) {b : UInt8} (hj : bX11_sledge_3[j]? = some b) : AtB cX11_sledge (96 + j) b := at_of32 (by decide +kernel) j hj
def bX11_sledge_4 : List UInt8 := [180, 0, 12, 180, 0, 145, 4, 21, 6, 184, 1, 40, 96, 54, 7, 42, 180, 0, 72, 28, 25, 5, 180, 1, 88, 21, 7, 29, 21, 6, 100, 4]
theorem kX11_sledge_4 (j : Nat) {b : UInt8} (hj : bX11_sledge_4[j]? = some b) : AtB cX11_sledge (128 + j) b := at_of32 (by decide +kernel) j hj
def bX11_sledge_5 : List UInt8 := [182, 0, 205, 87, 21, 7, 172]
theorem kX11_sledge_5 (j : Nat) {b : UInt8} (hj : bX11_sledge_5[j]? = some b) : AtB cX11_sledge (160 + j) b := at_of32 (by decide +kernel) j hj
theorem dX11_sledge_0 : decode cX11_sledge 0 = .ok (.aload_n 0, 1) := dq_42 (kX11_sledge_0 0 rfl)
theorem dX11_sledge_1 : decode cX11_sledge 1 = .ok (.iload_n 1, 1) := dq_27 (kX11_sledge_0 1 rfl)
theorem dX11_sledge_2 : decode cX11_sledge 2 = .ok (.invokevirtual 195, 3) := dq_182 (kX11_sledge_0 2 rfl) (kX11_sledge_0 3 rfl) (kX11_sledge_0 4 rfl) rfl
theorem dX11_sledge_5 : decode cX11_sledge 5 = .ok (.astore 4, 2) := dq_58 (kX11_sledge_0 5 rfl) (kX11_sledge_0 6 rfl) rfl
theorem dX11_sledge_7 : decode cX11_sledge 7 = .ok (.aload_n 0, 1) := dq_42 (kX11_sledge_0 7 rfl)
theorem dX11_sledge_8 : decode cX11_sledge 8 = .ok (.iload_n 2, 1) := dq_28 (kX11_sledge_0 8 rfl)
theorem dX11_sledge_9 : decode cX11_sledge 9 = .ok (.invokevirtual 195, 3) := dq_182 (kX11_sledge_0 9 rfl) (kX11_sledge_0 10 rfl) (kX11_sledge_0 11 rfl) rfl
theorem dX11_sledge_12 : decode cX11_sledge 12 = .ok (.astore 5, 2) := dq_58 (kX11_sledge_0 12 rfl) (kX11_sledge_0 13 rfl) rfl
theorem dX11_sledge_14 : decode cX11_sledge 14 = .ok (.aload 4, 2) := dq_25 (kX11_sledge_0 14 rfl) (kX11_sledge_0 15 rfl) rfl
theorem dX11_sledge_16 : decode cX11_sledge 16 = .ok (.ifnull 26, 3) := dq_198 (kX11_sledge_0 16 rfl) (kX11_sledge_0 17 rfl) (kX11_sledge_0 18 rfl) (by decide)
theorem dX11_sledge_19 : decode cX11_sledge 19 = .ok (.aload 5, 2) := dq_25 (kX11_sledge_0 19 rfl) (kX11_sledge_0 20 rfl) rfl
theorem dX11_sledge_21 : decode cX11_sledge 21 = .ok (.ifnull 21, 3) := dq_198 (kX11_sledge_0 21 rfl) (kX11_sledge_0 22 rfl) (kX11_sledge_0 23 rfl) (by decide)
theorem dX11_sledge_24 : decode cX11_sledge 24 = .ok (.iload_n 1, 1) := dq_27 (kX11_sledge_0 24 rfl)
theorem dX11_sledge_25 : decode cX11_sledge 25 = .ok (.iload_n 2, 1) := dq_28 (kX11_sledge_0 25 rfl)
theorem dX11_sledge_26 : decode cX11_sledge 26 = .ok (.if_icmp .eq 16, 3) := dq_159 (kX11_sledge_0 26 rfl) (kX11_sledge_0 27 rfl) (kX11_sledge_0 28 rfl) (by decide)
theorem dX11_sledge_29 : decode cX11_sledge 29 = .ok (.aload 4, 2) := dq_25 (kX11_sledge_0 29 rfl) (kX11_sledge_0 30 rfl) rfl
theorem dX11_sledge_31 : decode cX11_sledge 31 = .ok (.getfield 173, 3) := dq_180 (kX11_sledge_0 31 rfl) (kX11_sledge_1 0 rfl) (kX11_sledge_1 1 rfl) rfl
theorem dX11_sledge_34 : decode cX11_sledge 34 = .ok (.aload 5, 2) := dq_25 (kX11_sledge_1 2 rfl) (kX11_sledge_1 3 rfl) rfl
theorem dX11_sledge_36 : decode cX11_sledge 36 = .ok (.getfield 173, 3) := dq_180 (kX11_sledge_1 4 rfl) (kX11_sledge_1 5 rfl) (kX11_sledge_1 6 rfl) rfl
theorem dX11_sledge_39 : decode cX11_sledge 39 = .ok (.if_icmp .eq 5, 3) := dq_159 (kX11_sledge_1 7 rfl) (kX11_sledge_1 8 rfl) (kX11_sledge_1 9 rfl) (by decide)
theorem dX11_sledge_42 : decode cX11_sledge 42 = .ok (.iconst (-1), 1) := dq_2 (kX11_sledge_1 10 rfl)
theorem dX11_sledge_43 : decode cX11_sledge 43 = .ok (.ireturn, 1) := dq_172 (kX11_sledge_1 11 rfl)
theorem dX11_sledge_44 : decode cX11_sledge 44 = .ok (.iload_n 3, 1) := dq_29 (kX11_sledge_1 12 rfl)
theorem dX11_sledge_45 : decode cX11_sledge 45 = .ok (.iconst 1, 1) := dq_4 (kX11_sledge_1 13 rfl)
theorem dX11_sledge_46 : decode cX11_sledge 46 = .ok (.sipush 500, 3) := dq_17 (kX11_sledge_1 14 rfl) (kX11_sledge_1 15 rfl) (kX11_sledge_1 16 rfl) (by decide)
theorem dX11_sledge_49 : decode cX11_sledge 49 = .ok (.invokestatic 112, 3) := dq_184 (kX11_sledge_1 17 rfl) (kX11_sledge_1 18 rfl) (kX11_sledge_1 19 rfl) rfl
theorem dX11_sledge_52 : decode cX11_sledge 52 = .ok (.ifCond .eq 22, 3) := dq_153 (kX11_sledge_1 20 rfl) (kX11_sledge_1 21 rfl) (kX11_sledge_1 22 rfl) (by decide)
theorem dX11_sledge_55 : decode cX11_sledge 55 = .ok (.iload_n 3, 1) := dq_29 (kX11_sledge_1 23 rfl)
theorem dX11_sledge_56 : decode cX11_sledge 56 = .ok (.aload 4, 2) := dq_25 (kX11_sledge_1 24 rfl) (kX11_sledge_1 25 rfl) rfl
theorem dX11_sledge_58 : decode cX11_sledge 58 = .ok (.getfield 186, 3) := dq_180 (kX11_sledge_1 26 rfl) (kX11_sledge_1 27 rfl) (kX11_sledge_1 28 rfl) rfl
theorem dX11_sledge_61 : decode cX11_sledge 61 = .ok (.if_icmp .gt 13, 3) := dq_163 (kX11_sledge_1 29 rfl) (kX11_sledge_1 30 rfl) (kX11_sledge_1 31 rfl) (by decide)
theorem dX11_sledge_64 : decode cX11_sledge 64 = .ok (.aload_n 0, 1) := dq_42 (kX11_sledge_2 0 rfl)
theorem dX11_sledge_65 : decode cX11_sledge 65 = .ok (.getfield 72, 3) := dq_180 (kX11_sledge_2 1 rfl) (kX11_sledge_2 2 rfl) (kX11_sledge_2 3 rfl) rfl
theorem dX11_sledge_68 : decode cX11_sledge 68 = .ok (.invokevirtual 265, 3) := dq_182 (kX11_sledge_2 4 rfl) (kX11_sledge_2 5 rfl) (kX11_sledge_2 6 rfl) rfl
theorem dX11_sledge_71 : decode cX11_sledge 71 = .ok (.ifCond .eq 5, 3) := dq_153 (kX11_sledge_2 7 rfl) (kX11_sledge_2 8 rfl) (kX11_sledge_2 9 rfl) (by decide)
theorem dX11_sledge_74 : decode cX11_sledge 74 = .ok (.iconst (-1), 1) := dq_2 (kX11_sledge_2 10 rfl)
theorem dX11_sledge_75 : decode cX11_sledge 75 = .ok (.ireturn, 1) := dq_172 (kX11_sledge_2 11 rfl)
theorem dX11_sledge_76 : decode cX11_sledge 76 = .ok (.aload_n 0, 1) := dq_42 (kX11_sledge_2 12 rfl)
theorem dX11_sledge_77 : decode cX11_sledge 77 = .ok (.getfield 12, 3) := dq_180 (kX11_sledge_2 13 rfl) (kX11_sledge_2 14 rfl) (kX11_sledge_2 15 rfl) rfl
theorem dX11_sledge_80 : decode cX11_sledge 80 = .ok (.aload 4, 2) := dq_25 (kX11_sledge_2 16 rfl) (kX11_sledge_2 17 rfl) rfl
theorem dX11_sledge_82 : decode cX11_sledge 82 = .ok (.getfield 344, 3) := dq_180 (kX11_sledge_2 18 rfl) (kX11_sledge_2 19 rfl) (kX11_sledge_2 20 rfl) rfl
theorem dX11_sledge_85 : decode cX11_sledge 85 = .ok (.aload 5, 2) := dq_25 (kX11_sledge_2 21 rfl) (kX11_sledge_2 22 rfl) rfl
theorem dX11_sledge_87 : decode cX11_sledge 87 = .ok (.getfield 344, 3) := dq_180 (kX11_sledge_2 23 rfl) (kX11_sledge_2 24 rfl) (kX11_sledge_2 25 rfl) rfl
theorem dX11_sledge_90 : decode cX11_sledge 90 = .ok (.invokevirtual 418, 3) := dq_182 (kX11_sledge_2 26 rfl) (kX11_sledge_2 27 rfl) (kX11_sledge_2 28 rfl) rfl
theorem dX11_sledge_93 : decode cX11_sledge 93 = .ok (.istore 6, 2) := dq_54 (kX11_sledge_2 29 rfl) (kX11_sledge_2 30 rfl) rfl
theorem dX11_sledge_95 : decode cX11_sledge 95 = .ok (.iload 6, 2) := dq_21 (kX11_sledge_2 31 rfl) (kX11_sledge_3 0 rfl) rfl
theorem dX11_sledge_97 : decode cX11_sledge 97 = .ok (.iconst (-1), 1) := dq_2 (kX11_sledge_3 1 rfl)
theorem dX11_sledge_98 : decode cX11_sledge 98 = .ok (.if_icmp .eq 9, 3) := dq_159 (kX11_sledge_3 2 rfl) (kX11_sledge_3 3 rfl) (kX11_sledge_3 4 rfl) (by decide)
theorem dX11_sledge_101 : decode cX11_sledge 101 = .ok (.iload 6, 2) := dq_21 (kX11_sledge_3 5 rfl) (kX11_sledge_3 6 rfl) rfl
theorem dX11_sledge_103 : decode cX11_sledge 103 = .ok (.iload_n 3, 1) := dq_29 (kX11_sledge_3 7 rfl)
theorem dX11_sledge_104 : decode cX11_sledge 104 = .ok (.if_icmp .lt 5, 3) := dq_161 (kX11_sledge_3 8 rfl) (kX11_sledge_3 9 rfl) (kX11_sledge_3 10 rfl) (by decide)
theorem dX11_sledge_107 : decode cX11_sledge 107 = .ok (.iconst (-1), 1) := dq_2 (kX11_sledge_3 11 rfl)
theorem dX11_sledge_108 : decode cX11_sledge 108 = .ok (.ireturn, 1) := dq_172 (kX11_sledge_3 12 rfl)
theorem dX11_sledge_109 : decode cX11_sledge 109 = .ok (.aload 4, 2) := dq_25 (kX11_sledge_3 13 rfl) (kX11_sledge_3 14 rfl) rfl
theorem dX11_sledge_111 : decode cX11_sledge 111 = .ok (.dup, 1) := dq_89 (kX11_sledge_3 15 rfl)
theorem dX11_sledge_112 : decode cX11_sledge 112 = .ok (.getfield 186, 3) := dq_180 (kX11_sledge_3 16 rfl) (kX11_sledge_3 17 rfl) (kX11_sledge_3 18 rfl) rfl
theorem dX11_sledge_115 : decode cX11_sledge 115 = .ok (.iload_n 3, 1) := dq_29 (kX11_sledge_3 19 rfl)
theorem dX11_sledge_116 : decode cX11_sledge 116 = .ok (.isub, 1) := dq_100 (kX11_sledge_3 20 rfl)
theorem dX11_sledge_117 : decode cX11_sledge 117 = .ok (.putfield 186, 3) := dq_181 (kX11_sledge_3 21 rfl) (kX11_sledge_3 22 rfl) (kX11_sledge_3 23 rfl) rfl
theorem dX11_sledge_120 : decode cX11_sledge 120 = .ok (.aload_n 0, 1) := dq_42 (kX11_sledge_3 24 rfl)
theorem dX11_sledge_121 : decode cX11_sledge 121 = .ok (.iconst 1, 1) := dq_4 (kX11_sledge_3 25 rfl)
theorem dX11_sledge_122 : decode cX11_sledge 122 = .ok (.iload 6, 2) := dq_21 (kX11_sledge_3 26 rfl) (kX11_sledge_3 27 rfl) rfl
theorem dX11_sledge_124 : decode cX11_sledge 124 = .ok (.invokevirtual 192, 3) := dq_182 (kX11_sledge_3 28 rfl) (kX11_sledge_3 29 rfl) (kX11_sledge_3 30 rfl) rfl
theorem dX11_sledge_127 : decode cX11_sledge 127 = .ok (.aload_n 0, 1) := dq_42 (kX11_sledge_3 31 rfl)
theorem dX11_sledge_128 : decode cX11_sledge 128 = .ok (.getfield 12, 3) := dq_180 (kX11_sledge_4 0 rfl) (kX11_sledge_4 1 rfl) (kX11_sledge_4 2 rfl) rfl
theorem dX11_sledge_131 : decode cX11_sledge 131 = .ok (.getfield 145, 3) := dq_180 (kX11_sledge_4 3 rfl) (kX11_sledge_4 4 rfl) (kX11_sledge_4 5 rfl) rfl
theorem dX11_sledge_134 : decode cX11_sledge 134 = .ok (.iconst 1, 1) := dq_4 (kX11_sledge_4 6 rfl)
theorem dX11_sledge_135 : decode cX11_sledge 135 = .ok (.iload 6, 2) := dq_21 (kX11_sledge_4 7 rfl) (kX11_sledge_4 8 rfl) rfl
theorem dX11_sledge_137 : decode cX11_sledge 137 = .ok (.invokestatic 296, 3) := dq_184 (kX11_sledge_4 9 rfl) (kX11_sledge_4 10 rfl) (kX11_sledge_4 11 rfl) rfl
theorem dX11_sledge_140 : decode cX11_sledge 140 = .ok (.iadd, 1) := dq_96 (kX11_sledge_4 12 rfl)
theorem dX11_sledge_141 : decode cX11_sledge 141 = .ok (.istore 7, 2) := dq_54 (kX11_sledge_4 13 rfl) (kX11_sledge_4 14 rfl) rfl
theorem dX11_sledge_143 : decode cX11_sledge 143 = .ok (.aload_n 0, 1) := dq_42 (kX11_sledge_4 15 rfl)
theorem dX11_sledge_144 : decode cX11_sledge 144 = .ok (.getfield 72, 3) := dq_180 (kX11_sledge_4 16 rfl) (kX11_sledge_4 17 rfl) (kX11_sledge_4 18 rfl) rfl
theorem dX11_sledge_147 : decode cX11_sledge 147 = .ok (.iload_n 2, 1) := dq_28 (kX11_sledge_4 19 rfl)
theorem dX11_sledge_148 : decode cX11_sledge 148 = .ok (.aload 5, 2) := dq_25 (kX11_sledge_4 20 rfl) (kX11_sledge_4 21 rfl) rfl
theorem dX11_sledge_150 : decode cX11_sledge 150 = .ok (.getfield 344, 3) := dq_180 (kX11_sledge_4 22 rfl) (kX11_sledge_4 23 rfl) (kX11_sledge_4 24 rfl) rfl
theorem dX11_sledge_153 : decode cX11_sledge 153 = .ok (.iload 7, 2) := dq_21 (kX11_sledge_4 25 rfl) (kX11_sledge_4 26 rfl) rfl
theorem dX11_sledge_155 : decode cX11_sledge 155 = .ok (.iload_n 3, 1) := dq_29 (kX11_sledge_4 27 rfl)
theorem dX11_sledge_156 : decode cX11_sledge 156 = .ok (.iload 6, 2) := dq_21 (kX11_sledge_4 28 rfl) (kX11_sledge_4 29 rfl) rfl
theorem dX11_sledge_158 : decode cX11_sledge 158 = .ok (.isub, 1) := dq_100 (kX11_sledge_4 30 rfl)
theorem dX11_sledge_159 : decode cX11_sledge 159 = .ok (.iconst 1, 1) := dq_4 (kX11_sledge_4 31 rfl)
theorem dX11_sledge_160 : decode cX11_sledge 160 = .ok (.invokevirtual 205, 3) := dq_182 (kX11_sledge_5 0 rfl) (kX11_sledge_5 1 rfl) (kX11_sledge_5 2 rfl) rfl
theorem dX11_sledge_163 : decode cX11_sledge 163 = .ok (.pop, 1) := dq_87 (kX11_sledge_5 3 rfl)
theorem dX11_sledge_164 : decode cX11_sledge 164 = .ok (.iload 7, 2) := dq_21 (kX11_sledge_5 4 rfl) (kX11_sledge_5 5 rfl) rfl
theorem dX11_sledge_166 : decode cX11_sledge 166 = .ok (.ireturn, 1) := dq_172 (kX11_sledge_5 6 rfl)

def bX11_people_0 : List UInt8 := [42, 27, 182, 0, 195, 78, 45, 198, 0, 32, 28, 17, 254, 12, 17, 1, 244, 184, 0, 112, 153, 0, 19, 45, 180, 0, 183, 28, 96, 3, 17, 1]
theorem kX11_people_0 (j : Nat) {b : UInt8} (hj : bX11_people_0[j]? = some b) : AtB cX11_people (0 + j) b := at_of32 (by decide +kernel) j hj
def bX11_people_1 : List UInt8 := [244, 184, 0, 112, 154, 0, 5, 3, 172, 45, 89, 180, 0, 183, 28, 96, 181, 0, 183, 4, 172]
theorem kX11_people_1 (j : Nat) {b : UInt8} (hj : bX11_people_1[j]? = some b) : AtB cX11_people (32 + j) b := at_of32 (by decide +kernel) j hj
theorem dX11_people_0 : decode cX11_people 0 = .ok (.aload_n 0, 1) := dq_42 (kX11_people_0 0 rfl)
theorem dX11_people_1 : decode cX11_people 1 = .ok (.iload_n 1, 1) := dq_27 (kX11_people_0 1 rfl)
theorem dX11_people_2 : decode cX11_people 2 = .ok (.invokevirtual 195, 3) := dq_182 (kX11_people_0 2 rfl) (kX11_people_0 3 rfl) (kX11_people_0 4 rfl) rfl
theorem dX11_people_5 : decode cX11_people 5 = .ok (.astore_n 3, 1) := dq_78 (kX11_people_0 5 rfl)
theorem dX11_people_6 : decode cX11_people 6 = .ok (.aload_n 3, 1) := dq_45 (kX11_people_0 6 rfl)
theorem dX11_people_7 : decode cX11_people 7 = .ok (.ifnull 32, 3) := dq_198 (kX11_people_0 7 rfl) (kX11_people_0 8 rfl) (kX11_people_0 9 rfl) (by decide)
theorem dX11_people_10 : decode cX11_people 10 = .ok (.iload_n 2, 1) := dq_28 (kX11_people_0 10 rfl)
theorem dX11_people_11 : decode cX11_people 11 = .ok (.sipush (-500), 3) := dq_17 (kX11_people_0 11 rfl) (kX11_people_0 12 rfl) (kX11_people_0 13 rfl) (by decide)
theorem dX11_people_14 : decode cX11_people 14 = .ok (.sipush 500, 3) := dq_17 (kX11_people_0 14 rfl) (kX11_people_0 15 rfl) (kX11_people_0 16 rfl) (by decide)
theorem dX11_people_17 : decode cX11_people 17 = .ok (.invokestatic 112, 3) := dq_184 (kX11_people_0 17 rfl) (kX11_people_0 18 rfl) (kX11_people_0 19 rfl) rfl
theorem dX11_people_20 : decode cX11_people 20 = .ok (.ifCond .eq 19, 3) := dq_153 (kX11_people_0 20 rfl) (kX11_people_0 21 rfl) (kX11_people_0 22 rfl) (by decide)
theorem dX11_people_23 : decode cX11_people 23 = .ok (.aload_n 3, 1) := dq_45 (kX11_people_0 23 rfl)
theorem dX11_people_24 : decode cX11_people 24 = .ok (.getfield 183, 3) := dq_180 (kX11_people_0 24 rfl) (kX11_people_0 25 rfl) (kX11_people_0 26 rfl) rfl
theorem dX11_people_27 : decode cX11_people 27 = .ok (.iload_n 2, 1) := dq_28 (kX11_people_0 27 rfl)
theorem dX11_people_28 : decode cX11_people 28 = .ok (.iadd, 1) := dq_96 (kX11_people_0 28 rfl)
theorem dX11_people_29 : decode cX11_people 29 = .ok (.iconst 0, 1) := dq_3 (kX11_people_0 29 rfl)
theorem dX11_people_30 : decode cX11_people 30 = .ok (.sipush 500, 3) := dq_17 (kX11_people_0 30 rfl) (kX11_people_0 31 rfl) (kX11_people_1 0 rfl) (by decide)
theorem dX11_people_33 : decode cX11_people 33 = .ok (.invokestatic 112, 3) := dq_184 (kX11_people_1 1 rfl) (kX11_people_1 2 rfl) (kX11_people_1 3 rfl) rfl
theorem dX11_people_36 : decode cX11_people 36 = .ok (.ifCond .ne 5, 3) := dq_154 (kX11_people_1 4 rfl) (kX11_people_1 5 rfl) (kX11_people_1 6 rfl) (by decide)
theorem dX11_people_39 : decode cX11_people 39 = .ok (.iconst 0, 1) := dq_3 (kX11_people_1 7 rfl)
theorem dX11_people_40 : decode cX11_people 40 = .ok (.ireturn, 1) := dq_172 (kX11_people_1 8 rfl)
theorem dX11_people_41 : decode cX11_people 41 = .ok (.aload_n 3, 1) := dq_45 (kX11_people_1 9 rfl)
theorem dX11_people_42 : decode cX11_people 42 = .ok (.dup, 1) := dq_89 (kX11_people_1 10 rfl)
theorem dX11_people_43 : decode cX11_people 43 = .ok (.getfield 183, 3) := dq_180 (kX11_people_1 11 rfl) (kX11_people_1 12 rfl) (kX11_people_1 13 rfl) rfl
theorem dX11_people_46 : decode cX11_people 46 = .ok (.iload_n 2, 1) := dq_28 (kX11_people_1 14 rfl)
theorem dX11_people_47 : decode cX11_people 47 = .ok (.iadd, 1) := dq_96 (kX11_people_1 15 rfl)
theorem dX11_people_48 : decode cX11_people 48 = .ok (.putfield 183, 3) := dq_181 (kX11_people_1 16 rfl) (kX11_people_1 17 rfl) (kX11_people_1 18 rfl) rfl
theorem dX11_people_51 : decode cX11_people 51 = .ok (.iconst 1, 1) := dq_4 (kX11_people_1 19 rfl)
theorem dX11_people_52 : decode cX11_people 52 = .ok (.ireturn, 1) := dq_172 (kX11_people_1 20 rfl)

def bX11_hide_0 : List UInt8 := [42, 27, 182, 0, 195, 78, 45, 198, 0, 20, 28, 45, 180, 0, 186, 163, 0, 12, 28, 45, 180, 1, 165, 116, 162, 0, 5, 3, 172, 45, 89, 180]
theorem kX11_hide_0 (j : Nat) {b : UInt8} (hj : bX11_hide_0[j]? = some b) : AtB cX11_hide (0 + j) b := at_of32 (by decide +kernel) j hj
def bX11_hide_1 : List UInt8 := [0, 186, 28, 100, 181, 0, 186, 45, 89, 180, 1, 165, 28, 96, 181, 1, 165, 4, 172]
theorem kX11_hide_1 (j : Nat) {b : UInt8} (hj : bX11_hide_1[j]? = some b) : AtB cX11_hide (32 + j) b := at_of32 (by decide +kernel) j hj
theorem dX11_hide_0 : decode cX11_hide 0 = .ok (.aload_n 0, 1) := dq_42 (kX11_hide_0 0 rfl)
theorem dX11_hide_1 : decode cX11_hide 1 = .ok (.iload_n 1, 1) := dq_27 (kX11_hide_0 1 rfl)
theorem dX11_hide_2 : decode cX11_hide 2 = .ok (.invokevirtual 195, 3) := dq_182 (kX11_hide_0 2 rfl) (kX11_hide_0 3 rfl) (kX11_hide_0 4 rfl) rfl
theorem dX11_hide_5 : decode cX11_hide 5 = .ok (.astore_n 3, 1) := dq_78 (kX11_hide_0 5 rfl)
theorem dX11_hide_6 : decode cX11_hide 6 = .ok (.aload_n 3, 1) := dq_45 (kX11_hide_0 6 rfl)
theorem dX11_hide_7 : decode cX11_hide 7 = .ok (.ifnull 20, 3) := dq_198 (kX11_hide_0 7 rfl) (kX11_hide_0 8 rfl) (kX11_hide_0 9 rfl) (by decide)
theorem dX11_hide_10 : decode cX11_hide 10 = .ok (.iload_n 2, 1) := dq_28 (kX11_hide_0 10 rfl)
theorem dX11_hide_11 : decode cX11_hide 11 = .ok (.aload_n 3, 1) := dq_45 (kX11_hide_0 11 rfl)
theorem dX11_hide_12 : decode cX11_hide 12 = .ok (.getfield 186, 3) := dq_180 (kX11_hide_0 12 rfl) (kX11_hide_0 13 rfl) (kX11_hide_0 14 rfl) rfl
theorem dX11_hide_15 : decode cX11_hide 15 = .ok (.if_icmp .gt 12, 3) := dq_163 (kX11_hide_0 15 rfl) (kX11_hide_0 16 rfl) (kX11_hide_0 17 rfl) (by decide)
theorem dX11_hide_18 : decode cX11_hide 18 = .ok (.iload_n 2, 1) := dq_28 (kX11_hide_0 18 rfl)
theorem dX11_hide_19 : decode cX11_hide 19 = .ok (.aload_n 3, 1) := dq_45 (kX11_hide_0 19 rfl)
theorem dX11_hide_20 : decode cX11_hide 20 = .ok (.getfield 421, 3) := dq_180 (kX11_hide_0 20 rfl) (kX11_hide_0 21 rfl) (kX11_hide_0 22 rfl) rfl
theorem dX11_hide_23 : decode cX11_hide 23 = .ok (.ineg, 1) := dq_116 (kX11_hide_0 23 rfl)
theorem dX11_hide_24 : decode cX11_hide 24 = .ok (.if_icmp .ge 5, 3) := dq_162 (kX11_hide_0 24 rfl) (kX11_hide_0 25 rfl) (kX11_hide_0 26 rfl) (by decide)
theorem dX11_hide_27 : decode cX11_hide 27 = .ok (.iconst 0, 1) := dq_3 (kX11_hide_0 27 rfl)
theorem dX11_hide_28 : decode cX11_hide 28 = .ok (.ireturn, 1) := dq_172 (kX11_hide_0 28 rfl)
theorem dX11_hide_29 : decode cX11_hide 29 = .ok (.aload_n 3, 1) := dq_45 (kX11_hide_0 29 rfl)
theorem dX11_hide_30 : decode cX11_hide 30 = .ok (.dup, 1) := dq_89 (kX11_hide_0 30 rfl)
theorem dX11_hide_31 : decode cX11_hide 31 = .ok (.getfield 186, 3) := dq_180 (kX11_hide_0 31 rfl) (kX11_hide_1 0 rfl) (kX11_hide_1 1 rfl) rfl
theorem dX11_hide_34 : decode cX11_hide 34 = .ok (.iload_n 2, 1) := dq_28 (kX11_hide_1 2 rfl)
theorem dX11_hide_35 : decode cX11_hide 35 = .ok (.isub, 1) := dq_100 (kX11_hide_1 3 rfl)
theorem dX11_hide_36 : decode cX11_hide 36 = .ok (.putfield 186, 3) := dq_181 (kX11_hide_1 4 rfl) (kX11_hide_1 5 rfl) (kX11_hide_1 6 rfl) rfl
theorem dX11_hide_39 : decode cX11_hide 39 = .ok (.aload_n 3, 1) := dq_45 (kX11_hide_1 7 rfl)
theorem dX11_hide_40 : decode cX11_hide 40 = .ok (.dup, 1) := dq_89 (kX11_hide_1 8 rfl)
theorem dX11_hide_41 : decode cX11_hide 41 = .ok (.getfield 421, 3) := dq_180 (kX11_hide_1 9 rfl) (kX11_hide_1 10 rfl) (kX11_hide_1 11 rfl) rfl
theorem dX11_hide_44 : decode cX11_hide 44 = .ok (.iload_n 2, 1) := dq_28 (kX11_hide_1 12 rfl)
theorem dX11_hide_45 : decode cX11_hide 45 = .ok (.iadd, 1) := dq_96 (kX11_hide_1 13 rfl)
theorem dX11_hide_46 : decode cX11_hide 46 = .ok (.putfield 421, 3) := dq_181 (kX11_hide_1 14 rfl) (kX11_hide_1 15 rfl) (kX11_hide_1 16 rfl) rfl
theorem dX11_hide_49 : decode cX11_hide 49 = .ok (.iconst 1, 1) := dq_4 (kX11_hide_1 17 rfl)
theorem dX11_hide_50 : decode cX11_hide 50 = .ok (.ireturn, 1) := dq_172 (kX11_hide_1 18 rfl)

def bX11_declare_0 : List UInt8 := [42, 27, 4, 182, 0, 169, 58, 4, 25, 4, 198, 0, 25, 28, 3, 17, 1, 244, 184, 0, 112, 153, 0, 14, 29, 3, 19, 1, 168, 184, 0, 112]
theorem kX11_declare_0 (j : Nat) {b : UInt8} (hj : bX11_declare_0[j]? = some b) : AtB cX11_declare (0 + j) b := at_of32 (by decide +kernel) j hj
def bX11_declare_1 : List UInt8 := [154, 0, 5, 3, 172, 25, 4, 28, 181, 1, 169, 25, 4, 29, 181, 1, 172, 4, 172]
theorem kX11_declare_1 (j : Nat) {b : UInt8} (hj : bX11_declare_1[j]? = some b) : AtB cX11_declare (32 + j) b := at_of32 (by decide +kernel) j hj
theorem dX11_declare_0 : decode cX11_declare 0 = .ok (.aload_n 0, 1) := dq_42 (kX11_declare_0 0 rfl)
theorem dX11_declare_1 : decode cX11_declare 1 = .ok (.iload_n 1, 1) := dq_27 (kX11_declare_0 1 rfl)
theorem dX11_declare_2 : decode cX11_declare 2 = .ok (.iconst 1, 1) := dq_4 (kX11_declare_0 2 rfl)
theorem dX11_declare_3 : decode cX11_declare 3 = .ok (.invokevirtual 169, 3) := dq_182 (kX11_declare_0 3 rfl) (kX11_declare_0 4 rfl) (kX11_declare_0 5 rfl) rfl
theorem dX11_declare_6 : decode cX11_declare 6 = .ok (.astore 4, 2) := dq_58 (kX11_declare_0 6 rfl) (kX11_declare_0 7 rfl) rfl
theorem dX11_declare_8 : decode cX11_declare 8 = .ok (.aload 4, 2) := dq_25 (kX11_declare_0 8 rfl) (kX11_declare_0 9 rfl) rfl
theorem dX11_declare_10 : decode cX11_declare 10 = .ok (.ifnull 25, 3) := dq_198 (kX11_declare_0 10 rfl) (kX11_declare_0 11 rfl) (kX11_declare_0 12 rfl) (by decide)
theorem dX11_declare_13 : decode cX11_declare 13 = .ok (.iload_n 2, 1) := dq_28 (kX11_declare_0 13 rfl)
theorem dX11_declare_14 : decode cX11_declare 14 = .ok (.iconst 0, 1) := dq_3 (kX11_declare_0 14 rfl)
theorem dX11_declare_15 : decode cX11_declare 15 = .ok (.sipush 500, 3) := dq_17 (kX11_declare_0 15 rfl) (kX11_declare_0 16 rfl) (kX11_declare_0 17 rfl) (by decide)
theorem dX11_declare_18 : decode cX11_declare 18 = .ok (.invokestatic 112, 3) := dq_184 (kX11_declare_0 18 rfl) (kX11_declare_0 19 rfl) (kX11_declare_0 20 rfl) rfl
theorem dX11_declare_21 : decode cX11_declare 21 = .ok (.ifCond .eq 14, 3) := dq_153 (kX11_declare_0 21 rfl) (kX11_declare_0 22 rfl) (kX11_declare_0 23 rfl) (by decide)
theorem dX11_declare_24 : decode cX11_declare 24 = .ok (.iload_n 3, 1) := dq_29 (kX11_declare_0 24 rfl)
theorem dX11_declare_25 : decode cX11_declare 25 = .ok (.iconst 0, 1) := dq_3 (kX11_declare_0 25 rfl)
theorem dX11_declare_26 : decode cX11_declare 26 = .ok (.ldc_w 424, 3) := dq_19 (kX11_declare_0 26 rfl) (kX11_declare_0 27 rfl) (kX11_declare_0 28 rfl) rfl
theorem dX11_declare_29 : decode cX11_declare 29 = .ok (.invokestatic 112, 3) := dq_184 (kX11_declare_0 29 rfl) (kX11_declare_0 30 rfl) (kX11_declare_0 31 rfl) rfl
theorem dX11_declare_32 : decode cX11_declare 32 = .ok (.ifCond .ne 5, 3) := dq_154 (kX11_declare_1 0 rfl) (kX11_declare_1 1 rfl) (kX11_declare_1 2 rfl) (by decide)
theorem dX11_declare_35 : decode cX11_declare 35 = .ok (.iconst 0, 1) := dq_3 (kX11_declare_1 3 rfl)
theorem dX11_declare_36 : decode cX11_declare 36 = .ok (.ireturn, 1) := dq_172 (kX11_declare_1 4 rfl)
theorem dX11_declare_37 : decode cX11_declare 37 = .ok (.aload 4, 2) := dq_25 (kX11_declare_1 5 rfl) (kX11_declare_1 6 rfl) rfl
theorem dX11_declare_39 : decode cX11_declare 39 = .ok (.iload_n 2, 1) := dq_28 (kX11_declare_1 7 rfl)
theorem dX11_declare_40 : decode cX11_declare 40 = .ok (.putfield 425, 3) := dq_181 (kX11_declare_1 8 rfl) (kX11_declare_1 9 rfl) (kX11_declare_1 10 rfl) rfl
theorem dX11_declare_43 : decode cX11_declare 43 = .ok (.aload 4, 2) := dq_25 (kX11_declare_1 11 rfl) (kX11_declare_1 12 rfl) rfl
theorem dX11_declare_45 : decode cX11_declare 45 = .ok (.iload_n 3, 1) := dq_29 (kX11_declare_1 13 rfl)
theorem dX11_declare_46 : decode cX11_declare 46 = .ok (.putfield 428, 3) := dq_181 (kX11_declare_1 14 rfl) (kX11_declare_1 15 rfl) (kX11_declare_1 16 rfl) rfl
theorem dX11_declare_49 : decode cX11_declare 49 = .ok (.iconst 1, 1) := dq_4 (kX11_declare_1 17 rfl)
theorem dX11_declare_50 : decode cX11_declare 50 = .ok (.ireturn, 1) := dq_172 (kX11_declare_1 18 rfl)

def bX11_visit_0 : List UInt8 := [42, 27, 182, 0, 151, 78, 42, 28, 182, 0, 195, 58, 4, 45, 198, 0, 31, 25, 4, 198, 0, 26, 25, 4, 180, 0, 173, 27, 159, 0, 17, 45]
theorem kX11_visit_0 (j : Nat) {b : UInt8} (hj : bX11_visit_0[j]? = some b) : AtB cX11_visit (0 + j) b := at_of32 (by decide +kernel) j hj
def bX11_visit_1 : List UInt8 := [42, 180, 0, 12, 180, 0, 145, 182, 1, 45, 154, 0, 5, 2, 172, 25, 4, 180, 0, 183, 25, 4, 180, 1, 169, 100, 54, 5, 42, 180, 0, 76]
theorem kX11_visit_1 (j : Nat) {b : UInt8} (hj : bX11_visit_1[j]? = some b) : AtB cX11_visit (32 + j) b := at_of32 (by decide +kernel) j hj
def bX11_visit_2 : List UInt8 := [27, 28, 42, 180, 0, 12, 180, 0, 145, 21, 5, 25, 4, 180, 0, 186, 25, 4, 180, 1, 172, 100, 182, 0, 205, 172]
theorem kX11_visit_2 (j : Nat) {b : UInt8} (hj : bX11_visit_2[j]? = some b) : AtB cX11_visit (64 + j) b := at_of32 (by decide +kernel) j hj
theorem dX11_visit_0 : decode cX11_visit 0 = .ok (.aload_n 0, 1) := dq_42 (kX11_visit_0 0 rfl)
theorem dX11_visit_1 : decode cX11_visit 1 = .ok (.iload_n 1, 1) := dq_27 (kX11_visit_0 1 rfl)
theorem dX11_visit_2 : decode cX11_visit 2 = .ok (.invokevirtual 151, 3) := dq_182 (kX11_visit_0 2 rfl) (kX11_visit_0 3 rfl) (kX11_visit_0 4 rfl) rfl
theorem dX11_visit_5 : decode cX11_visit 5 = .ok (.astore_n 3, 1) := dq_78 (kX11_visit_0 5 rfl)
theorem dX11_visit_6 : decode cX11_visit 6 = .ok (.aload_n 0, 1) := dq_42 (kX11_visit_0 6 rfl)
theorem dX11_visit_7 : decode cX11_visit 7 = .ok (.iload_n 2, 1) := dq_28 (kX11_visit_0 7 rfl)
theorem dX11_visit_8 : decode cX11_visit 8 = .ok (.invokevirtual 195, 3) := dq_182 (kX11_visit_0 8 rfl) (kX11_visit_0 9 rfl) (kX11_visit_0 10 rfl) rfl
theorem dX11_visit_11 : decode cX11_visit 11 = .ok (.astore 4, 2) := dq_58 (kX11_visit_0 11 rfl) (kX11_visit_0 12 rfl) rfl
theorem dX11_visit_13 : decode cX11_visit 13 = .ok (.aload_n 3, 1) := dq_45 (kX11_visit_0 13 rfl)
theorem dX11_visit_14 : decode cX11_visit 14 = .ok (.ifnull 31, 3) := dq_198 (kX11_visit_0 14 rfl) (kX11_visit_0 15 rfl) (kX11_visit_0 16 rfl) (by decide)
theorem dX11_visit_17 : decode cX11_visit 17 = .ok (.aload 4, 2) := dq_25 (kX11_visit_0 17 rfl) (kX11_visit_0 18 rfl) rfl
theorem dX11_visit_19 : decode cX11_visit 19 = .ok (.ifnull 26, 3) := dq_198 (kX11_visit_0 19 rfl) (kX11_visit_0 20 rfl) (kX11_visit_0 21 rfl) (by decide)
theorem dX11_visit_22 : decode cX11_visit 22 = .ok (.aload 4, 2) := dq_25 (kX11_visit_0 22 rfl) (kX11_visit_0 23 rfl) rfl
theorem dX11_visit_24 : decode cX11_visit 24 = .ok (.getfield 173, 3) := dq_180 (kX11_visit_0 24 rfl) (kX11_visit_0 25 rfl) (kX11_visit_0 26 rfl) rfl
theorem dX11_visit_27 : decode cX11_visit 27 = .ok (.iload_n 1, 1) := dq_27 (kX11_visit_0 27 rfl)
theorem dX11_visit_28 : decode cX11_visit 28 = .ok (.if_icmp .eq 17, 3) := dq_159 (kX11_visit_0 28 rfl) (kX11_visit_0 29 rfl) (kX11_visit_0 30 rfl) (by decide)
theorem dX11_visit_31 : decode cX11_visit 31 = .ok (.aload_n 3, 1) := dq_45 (kX11_visit_0 31 rfl)
theorem dX11_visit_32 : decode cX11_visit 32 = .ok (.aload_n 0, 1) := dq_42 (kX11_visit_1 0 rfl)
theorem dX11_visit_33 : decode cX11_visit 33 = .ok (.getfield 12, 3) := dq_180 (kX11_visit_1 1 rfl) (kX11_visit_1 2 rfl) (kX11_visit_1 3 rfl) rfl
theorem dX11_visit_36 : decode cX11_visit 36 = .ok (.getfield 145, 3) := dq_180 (kX11_visit_1 4 rfl) (kX11_visit_1 5 rfl) (kX11_visit_1 6 rfl) rfl
theorem dX11_visit_39 : decode cX11_visit 39 = .ok (.invokevirtual 301, 3) := dq_182 (kX11_visit_1 7 rfl) (kX11_visit_1 8 rfl) (kX11_visit_1 9 rfl) rfl
theorem dX11_visit_42 : decode cX11_visit 42 = .ok (.ifCond .ne 5, 3) := dq_154 (kX11_visit_1 10 rfl) (kX11_visit_1 11 rfl) (kX11_visit_1 12 rfl) (by decide)
theorem dX11_visit_45 : decode cX11_visit 45 = .ok (.iconst (-1), 1) := dq_2 (kX11_visit_1 13 rfl)
theorem dX11_visit_46 : decode cX11_visit 46 = .ok (.ireturn, 1) := dq_172 (kX11_visit_1 14 rfl)
theorem dX11_visit_47 : decode cX11_visit 47 = .ok (.aload 4, 2) := dq_25 (kX11_visit_1 15 rfl) (kX11_visit_1 16 rfl) rfl
theorem dX11_visit_49 : decode cX11_visit 49 = .ok (.getfield 183, 3) := dq_180 (kX11_visit_1 17 rfl) (kX11_visit_1 18 rfl) (kX11_visit_1 19 rfl) rfl
theorem dX11_visit_52 : decode cX11_visit 52 = .ok (.aload 4, 2) := dq_25 (kX11_visit_1 20 rfl) (kX11_visit_1 21 rfl) rfl
theorem dX11_visit_54 : decode cX11_visit 54 = .ok (.getfield 425, 3) := dq_180 (kX11_visit_1 22 rfl) (kX11_visit_1 23 rfl) (kX11_visit_1 24 rfl) rfl
theorem dX11_visit_57 : decode cX11_visit 57 = .ok (.isub, 1) := dq_100 (kX11_visit_1 25 rfl)
theorem dX11_visit_58 : decode cX11_visit 58 = .ok (.istore 5, 2) := dq_54 (kX11_visit_1 26 rfl) (kX11_visit_1 27 rfl) rfl
theorem dX11_visit_60 : decode cX11_visit 60 = .ok (.aload_n 0, 1) := dq_42 (kX11_visit_1 28 rfl)
theorem dX11_visit_61 : decode cX11_visit 61 = .ok (.getfield 76, 3) := dq_180 (kX11_visit_1 29 rfl) (kX11_visit_1 30 rfl) (kX11_visit_1 31 rfl) rfl
theorem dX11_visit_64 : decode cX11_visit 64 = .ok (.iload_n 1, 1) := dq_27 (kX11_visit_2 0 rfl)
theorem dX11_visit_65 : decode cX11_visit 65 = .ok (.iload_n 2, 1) := dq_28 (kX11_visit_2 1 rfl)
theorem dX11_visit_66 : decode cX11_visit 66 = .ok (.aload_n 0, 1) := dq_42 (kX11_visit_2 2 rfl)
theorem dX11_visit_67 : decode cX11_visit 67 = .ok (.getfield 12, 3) := dq_180 (kX11_visit_2 3 rfl) (kX11_visit_2 4 rfl) (kX11_visit_2 5 rfl) rfl
theorem dX11_visit_70 : decode cX11_visit 70 = .ok (.getfield 145, 3) := dq_180 (kX11_visit_2 6 rfl) (kX11_visit_2 7 rfl) (kX11_visit_2 8 rfl) rfl
theorem dX11_visit_73 : decode cX11_visit 73 = .ok (.iload 5, 2) := dq_21 (kX11_visit_2 9 rfl) (kX11_visit_2 10 rfl) rfl
theorem dX11_visit_75 : decode cX11_visit 75 = .ok (.aload 4, 2) := dq_25 (kX11_visit_2 11 rfl) (kX11_visit_2 12 rfl) rfl
theorem dX11_visit_77 : decode cX11_visit 77 = .ok (.getfield 186, 3) := dq_180 (kX11_visit_2 13 rfl) (kX11_visit_2 14 rfl) (kX11_visit_2 15 rfl) rfl
theorem dX11_visit_80 : decode cX11_visit 80 = .ok (.aload 4, 2) := dq_25 (kX11_visit_2 16 rfl) (kX11_visit_2 17 rfl) rfl
theorem dX11_visit_82 : decode cX11_visit 82 = .ok (.getfield 428, 3) := dq_180 (kX11_visit_2 18 rfl) (kX11_visit_2 19 rfl) (kX11_visit_2 20 rfl) rfl
theorem dX11_visit_85 : decode cX11_visit 85 = .ok (.isub, 1) := dq_100 (kX11_visit_2 21 rfl)
theorem dX11_visit_86 : decode cX11_visit 86 = .ok (.invokevirtual 205, 3) := dq_182 (kX11_visit_2 22 rfl) (kX11_visit_2 23 rfl) (kX11_visit_2 24 rfl) rfl
theorem dX11_visit_89 : decode cX11_visit 89 = .ok (.ireturn, 1) := dq_172 (kX11_visit_2 25 rfl)

def bX11_seen_0 : List UInt8 := [42, 180, 0, 76, 27, 182, 1, 175, 153, 0, 12, 28, 3, 7, 184, 0, 112, 154, 0, 7, 19, 1, 178, 172, 42, 180, 0, 76, 27, 28, 182, 0]
theorem kX11_seen_0 (j : Nat) {b : UInt8} (hj : bX11_seen_0[j]? = some b) : AtB cX11_seen (0 + j) b := at_of32 (by decide +kernel) j hj
def bX11_seen_1 : List UInt8 := [209, 172]
theorem kX11_seen_1 (j : Nat) {b : UInt8} (hj : bX11_seen_1[j]? = some b) : AtB cX11_seen (32 + j) b := at_of32 (by decide +kernel) j hj
theorem dX11_seen_0 : decode cX11_seen 0 = .ok (.aload_n 0, 1) := dq_42 (kX11_seen_0 0 rfl)
theorem dX11_seen_1 : decode cX11_seen 1 = .ok (.getfield 76, 3) := dq_180 (kX11_seen_0 1 rfl) (kX11_seen_0 2 rfl) (kX11_seen_0 3 rfl) rfl
theorem dX11_seen_4 : decode cX11_seen 4 = .ok (.iload_n 1, 1) := dq_27 (kX11_seen_0 4 rfl)
theorem dX11_seen_5 : decode cX11_seen 5 = .ok (.invokevirtual 431, 3) := dq_182 (kX11_seen_0 5 rfl) (kX11_seen_0 6 rfl) (kX11_seen_0 7 rfl) rfl
theorem dX11_seen_8 : decode cX11_seen 8 = .ok (.ifCond .eq 12, 3) := dq_153 (kX11_seen_0 8 rfl) (kX11_seen_0 9 rfl) (kX11_seen_0 10 rfl) (by decide)
theorem dX11_seen_11 : decode cX11_seen 11 = .ok (.iload_n 2, 1) := dq_28 (kX11_seen_0 11 rfl)
theorem dX11_seen_12 : decode cX11_seen 12 = .ok (.iconst 0, 1) := dq_3 (kX11_seen_0 12 rfl)
theorem dX11_seen_13 : decode cX11_seen 13 = .ok (.iconst 4, 1) := dq_7 (kX11_seen_0 13 rfl)
theorem dX11_seen_14 : decode cX11_seen 14 = .ok (.invokestatic 112, 3) := dq_184 (kX11_seen_0 14 rfl) (kX11_seen_0 15 rfl) (kX11_seen_0 16 rfl) rfl
theorem dX11_seen_17 : decode cX11_seen 17 = .ok (.ifCond .ne 7, 3) := dq_154 (kX11_seen_0 17 rfl) (kX11_seen_0 18 rfl) (kX11_seen_0 19 rfl) (by decide)
theorem dX11_seen_20 : decode cX11_seen 20 = .ok (.ldc_w 434, 3) := dq_19 (kX11_seen_0 20 rfl) (kX11_seen_0 21 rfl) (kX11_seen_0 22 rfl) rfl
theorem dX11_seen_23 : decode cX11_seen 23 = .ok (.ireturn, 1) := dq_172 (kX11_seen_0 23 rfl)
theorem dX11_seen_24 : decode cX11_seen 24 = .ok (.aload_n 0, 1) := dq_42 (kX11_seen_0 24 rfl)
theorem dX11_seen_25 : decode cX11_seen 25 = .ok (.getfield 76, 3) := dq_180 (kX11_seen_0 25 rfl) (kX11_seen_0 26 rfl) (kX11_seen_0 27 rfl) rfl
theorem dX11_seen_28 : decode cX11_seen 28 = .ok (.iload_n 1, 1) := dq_27 (kX11_seen_0 28 rfl)
theorem dX11_seen_29 : decode cX11_seen 29 = .ok (.iload_n 2, 1) := dq_28 (kX11_seen_0 29 rfl)
theorem dX11_seen_30 : decode cX11_seen 30 = .ok (.invokevirtual 209, 3) := dq_182 (kX11_seen_0 30 rfl) (kX11_seen_0 31 rfl) (kX11_seen_1 0 rfl) rfl
theorem dX11_seen_33 : decode cX11_seen 33 = .ok (.ireturn, 1) := dq_172 (kX11_seen_1 1 rfl)

def bX11_day_0 : List UInt8 := [42, 180, 0, 12, 180, 0, 145, 17, 14, 15, 161, 0, 5, 2, 172, 42, 180, 0, 12, 89, 180, 0, 145, 4, 96, 181, 0, 145, 42, 180, 0, 26]
theorem kX11_day_0 (j : Nat) {b : UInt8} (hj : bX11_day_0[j]? = some b) : AtB cX11_day (0 + j) b := at_of32 (by decide +kernel) j hj
def bX11_day_1 : List UInt8 := [182, 1, 179, 3, 60, 27, 42, 180, 0, 55, 162, 0, 14, 42, 27, 182, 1, 180, 132, 1, 1, 167, 255, 240, 42, 182, 1, 183, 3, 60, 27, 42]
theorem kX11_day_1 (j : Nat) {b : UInt8} (hj : bX11_day_1[j]? = some b) : AtB cX11_day (32 + j) b := at_of32 (by decide +kernel) j hj
def bX11_day_2 : List UInt8 := [180, 0, 46, 162, 0, 14, 42, 27, 182, 1, 186, 132, 1, 1, 167, 255, 240, 3, 60, 27, 42, 180, 0, 64, 162, 0, 18, 42, 42, 27, 182, 1]
theorem kX11_day_2 (j : Nat) {b : UInt8} (hj : bX11_day_2[j]? = some b) : AtB cX11_day (64 + j) b := at_of32 (by decide +kernel) j hj
def bX11_day_3 : List UInt8 := [147, 182, 1, 189, 132, 1, 1, 167, 255, 236, 3, 60, 27, 42, 180, 0, 72, 180, 0, 199, 162, 0, 14, 42, 27, 182, 1, 193, 132, 1, 1, 167]
theorem kX11_day_3 (j : Nat) {b : UInt8} (hj : bX11_day_3[j]? = some b) : AtB cX11_day (96 + j) b := at_of32 (by decide +kernel) j hj
def bX11_day_4 : List UInt8 := [255, 237, 42, 180, 0, 12, 180, 0, 145, 172]
theorem kX11_day_4 (j : Nat) {b : UInt8} (hj : bX11_day_4[j]? = some b) : AtB cX11_day (128 + j) b := at_of32 (by decide +kernel) j hj
theorem dX11_day_0 : decode cX11_day 0 = .ok (.aload_n 0, 1) := dq_42 (kX11_day_0 0 rfl)
theorem dX11_day_1 : decode cX11_day 1 = .ok (.getfield 12, 3) := dq_180 (kX11_day_0 1 rfl) (kX11_day_0 2 rfl) (kX11_day_0 3 rfl) rfl
theorem dX11_day_4 : decode cX11_day 4 = .ok (.getfield 145, 3) := dq_180 (kX11_day_0 4 rfl) (kX11_day_0 5 rfl) (kX11_day_0 6 rfl) rfl
theorem dX11_day_7 : decode cX11_day 7 = .ok (.sipush 3599, 3) := dq_17 (kX11_day_0 7 rfl) (kX11_day_0 8 rfl) (kX11_day_0 9 rfl) (by decide)
theorem dX11_day_10 : decode cX11_day 10 = .ok (.if_icmp .lt 5, 3) := dq_161 (kX11_day_0 10 rfl) (kX11_day_0 11 rfl) (kX11_day_0 12 rfl) (by decide)
theorem dX11_day_13 : decode cX11_day 13 = .ok (.iconst (-1), 1) := dq_2 (kX11_day_0 13 rfl)
theorem dX11_day_14 : decode cX11_day 14 = .ok (.ireturn, 1) := dq_172 (kX11_day_0 14 rfl)
theorem dX11_day_15 : decode cX11_day 15 = .ok (.aload_n 0, 1) := dq_42 (kX11_day_0 15 rfl)
theorem dX11_day_16 : decode cX11_day 16 = .ok (.getfield 12, 3) := dq_180 (kX11_day_0 16 rfl) (kX11_day_0 17 rfl) (kX11_day_0 18 rfl) rfl
theorem dX11_day_19 : decode cX11_day 19 = .ok (.dup, 1) := dq_89 (kX11_day_0 19 rfl)
theorem dX11_day_20 : decode cX11_day 20 = .ok (.getfield 145, 3) := dq_180 (kX11_day_0 20 rfl) (kX11_day_0 21 rfl) (kX11_day_0 22 rfl) rfl
theorem dX11_day_23 : decode cX11_day 23 = .ok (.iconst 1, 1) := dq_4 (kX11_day_0 23 rfl)
theorem dX11_day_24 : decode cX11_day 24 = .ok (.iadd, 1) := dq_96 (kX11_day_0 24 rfl)
theorem dX11_day_25 : decode cX11_day 25 = .ok (.putfield 145, 3) := dq_181 (kX11_day_0 25 rfl) (kX11_day_0 26 rfl) (kX11_day_0 27 rfl) rfl
theorem dX11_day_28 : decode cX11_day 28 = .ok (.aload_n 0, 1) := dq_42 (kX11_day_0 28 rfl)
theorem dX11_day_29 : decode cX11_day 29 = .ok (.getfield 26, 3) := dq_180 (kX11_day_0 29 rfl) (kX11_day_0 30 rfl) (kX11_day_0 31 rfl) rfl
theorem dX11_day_32 : decode cX11_day 32 = .ok (.invokevirtual 435, 3) := dq_182 (kX11_day_1 0 rfl) (kX11_day_1 1 rfl) (kX11_day_1 2 rfl) rfl
theorem dX11_day_35 : decode cX11_day 35 = .ok (.iconst 0, 1) := dq_3 (kX11_day_1 3 rfl)
theorem dX11_day_36 : decode cX11_day 36 = .ok (.istore_n 1, 1) := dq_60 (kX11_day_1 4 rfl)
theorem dX11_day_37 : decode cX11_day 37 = .ok (.iload_n 1, 1) := dq_27 (kX11_day_1 5 rfl)
theorem dX11_day_38 : decode cX11_day 38 = .ok (.aload_n 0, 1) := dq_42 (kX11_day_1 6 rfl)
theorem dX11_day_39 : decode cX11_day 39 = .ok (.getfield 55, 3) := dq_180 (kX11_day_1 7 rfl) (kX11_day_1 8 rfl) (kX11_day_1 9 rfl) rfl
theorem dX11_day_42 : decode cX11_day 42 = .ok (.if_icmp .ge 14, 3) := dq_162 (kX11_day_1 10 rfl) (kX11_day_1 11 rfl) (kX11_day_1 12 rfl) (by decide)
theorem dX11_day_45 : decode cX11_day 45 = .ok (.aload_n 0, 1) := dq_42 (kX11_day_1 13 rfl)
theorem dX11_day_46 : decode cX11_day 46 = .ok (.iload_n 1, 1) := dq_27 (kX11_day_1 14 rfl)
theorem dX11_day_47 : decode cX11_day 47 = .ok (.invokevirtual 436, 3) := dq_182 (kX11_day_1 15 rfl) (kX11_day_1 16 rfl) (kX11_day_1 17 rfl) rfl
theorem dX11_day_50 : decode cX11_day 50 = .ok (.iinc 1 1, 3) := dq_132 (kX11_day_1 18 rfl) (kX11_day_1 19 rfl) (kX11_day_1 20 rfl) rfl (by decide)
theorem dX11_day_53 : decode cX11_day 53 = .ok (.goto (-16), 3) := dq_167 (kX11_day_1 21 rfl) (kX11_day_1 22 rfl) (kX11_day_1 23 rfl) (by decide)
theorem dX11_day_56 : decode cX11_day 56 = .ok (.aload_n 0, 1) := dq_42 (kX11_day_1 24 rfl)
theorem dX11_day_57 : decode cX11_day 57 = .ok (.invokevirtual 439, 3) := dq_182 (kX11_day_1 25 rfl) (kX11_day_1 26 rfl) (kX11_day_1 27 rfl) rfl
theorem dX11_day_60 : decode cX11_day 60 = .ok (.iconst 0, 1) := dq_3 (kX11_day_1 28 rfl)
theorem dX11_day_61 : decode cX11_day 61 = .ok (.istore_n 1, 1) := dq_60 (kX11_day_1 29 rfl)
theorem dX11_day_62 : decode cX11_day 62 = .ok (.iload_n 1, 1) := dq_27 (kX11_day_1 30 rfl)
theorem dX11_day_63 : decode cX11_day 63 = .ok (.aload_n 0, 1) := dq_42 (kX11_day_1 31 rfl)
theorem dX11_day_64 : decode cX11_day 64 = .ok (.getfield 46, 3) := dq_180 (kX11_day_2 0 rfl) (kX11_day_2 1 rfl) (kX11_day_2 2 rfl) rfl
theorem dX11_day_67 : decode cX11_day 67 = .ok (.if_icmp .ge 14, 3) := dq_162 (kX11_day_2 3 rfl) (kX11_day_2 4 rfl) (kX11_day_2 5 rfl) (by decide)
theorem dX11_day_70 : decode cX11_day 70 = .ok (.aload_n 0, 1) := dq_42 (kX11_day_2 6 rfl)
theorem dX11_day_71 : decode cX11_day 71 = .ok (.iload_n 1, 1) := dq_27 (kX11_day_2 7 rfl)
theorem dX11_day_72 : decode cX11_day 72 = .ok (.invokevirtual 442, 3) := dq_182 (kX11_day_2 8 rfl) (kX11_day_2 9 rfl) (kX11_day_2 10 rfl) rfl
theorem dX11_day_75 : decode cX11_day 75 = .ok (.iinc 1 1, 3) := dq_132 (kX11_day_2 11 rfl) (kX11_day_2 12 rfl) (kX11_day_2 13 rfl) rfl (by decide)
theorem dX11_day_78 : decode cX11_day 78 = .ok (.goto (-16), 3) := dq_167 (kX11_day_2 14 rfl) (kX11_day_2 15 rfl) (kX11_day_2 16 rfl) (by decide)
theorem dX11_day_81 : decode cX11_day 81 = .ok (.iconst 0, 1) := dq_3 (kX11_day_2 17 rfl)
theorem dX11_day_82 : decode cX11_day 82 = .ok (.istore_n 1, 1) := dq_60 (kX11_day_2 18 rfl)
theorem dX11_day_83 : decode cX11_day 83 = .ok (.iload_n 1, 1) := dq_27 (kX11_day_2 19 rfl)
theorem dX11_day_84 : decode cX11_day 84 = .ok (.aload_n 0, 1) := dq_42 (kX11_day_2 20 rfl)
theorem dX11_day_85 : decode cX11_day 85 = .ok (.getfield 64, 3) := dq_180 (kX11_day_2 21 rfl) (kX11_day_2 22 rfl) (kX11_day_2 23 rfl) rfl
theorem dX11_day_88 : decode cX11_day 88 = .ok (.if_icmp .ge 18, 3) := dq_162 (kX11_day_2 24 rfl) (kX11_day_2 25 rfl) (kX11_day_2 26 rfl) (by decide)
theorem dX11_day_91 : decode cX11_day 91 = .ok (.aload_n 0, 1) := dq_42 (kX11_day_2 27 rfl)
theorem dX11_day_92 : decode cX11_day 92 = .ok (.aload_n 0, 1) := dq_42 (kX11_day_2 28 rfl)
theorem dX11_day_93 : decode cX11_day 93 = .ok (.iload_n 1, 1) := dq_27 (kX11_day_2 29 rfl)
theorem dX11_day_94 : decode cX11_day 94 = .ok (.invokevirtual 403, 3) := dq_182 (kX11_day_2 30 rfl) (kX11_day_2 31 rfl) (kX11_day_3 0 rfl) rfl
theorem dX11_day_97 : decode cX11_day 97 = .ok (.invokevirtual 445, 3) := dq_182 (kX11_day_3 1 rfl) (kX11_day_3 2 rfl) (kX11_day_3 3 rfl) rfl
theorem dX11_day_100 : decode cX11_day 100 = .ok (.iinc 1 1, 3) := dq_132 (kX11_day_3 4 rfl) (kX11_day_3 5 rfl) (kX11_day_3 6 rfl) rfl (by decide)
theorem dX11_day_103 : decode cX11_day 103 = .ok (.goto (-20), 3) := dq_167 (kX11_day_3 7 rfl) (kX11_day_3 8 rfl) (kX11_day_3 9 rfl) (by decide)
theorem dX11_day_106 : decode cX11_day 106 = .ok (.iconst 0, 1) := dq_3 (kX11_day_3 10 rfl)
theorem dX11_day_107 : decode cX11_day 107 = .ok (.istore_n 1, 1) := dq_60 (kX11_day_3 11 rfl)
theorem dX11_day_108 : decode cX11_day 108 = .ok (.iload_n 1, 1) := dq_27 (kX11_day_3 12 rfl)
theorem dX11_day_109 : decode cX11_day 109 = .ok (.aload_n 0, 1) := dq_42 (kX11_day_3 13 rfl)
theorem dX11_day_110 : decode cX11_day 110 = .ok (.getfield 72, 3) := dq_180 (kX11_day_3 14 rfl) (kX11_day_3 15 rfl) (kX11_day_3 16 rfl) rfl
theorem dX11_day_113 : decode cX11_day 113 = .ok (.getfield 199, 3) := dq_180 (kX11_day_3 17 rfl) (kX11_day_3 18 rfl) (kX11_day_3 19 rfl) rfl
theorem dX11_day_116 : decode cX11_day 116 = .ok (.if_icmp .ge 14, 3) := dq_162 (kX11_day_3 20 rfl) (kX11_day_3 21 rfl) (kX11_day_3 22 rfl) (by decide)
theorem dX11_day_119 : decode cX11_day 119 = .ok (.aload_n 0, 1) := dq_42 (kX11_day_3 23 rfl)
theorem dX11_day_120 : decode cX11_day 120 = .ok (.iload_n 1, 1) := dq_27 (kX11_day_3 24 rfl)
theorem dX11_day_121 : decode cX11_day 121 = .ok (.invokevirtual 449, 3) := dq_182 (kX11_day_3 25 rfl) (kX11_day_3 26 rfl) (kX11_day_3 27 rfl) rfl
theorem dX11_day_124 : decode cX11_day 124 = .ok (.iinc 1 1, 3) := dq_132 (kX11_day_3 28 rfl) (kX11_day_3 29 rfl) (kX11_day_3 30 rfl) rfl (by decide)
theorem dX11_day_127 : decode cX11_day 127 = .ok (.goto (-19), 3) := dq_167 (kX11_day_3 31 rfl) (kX11_day_4 0 rfl) (kX11_day_4 1 rfl) (by decide)
theorem dX11_day_130 : decode cX11_day 130 = .ok (.aload_n 0, 1) := dq_42 (kX11_day_4 2 rfl)
theorem dX11_day_131 : decode cX11_day 131 = .ok (.getfield 12, 3) := dq_180 (kX11_day_4 3 rfl) (kX11_day_4 4 rfl) (kX11_day_4 5 rfl) rfl
theorem dX11_day_134 : decode cX11_day 134 = .ok (.getfield 145, 3) := dq_180 (kX11_day_4 6 rfl) (kX11_day_4 7 rfl) (kX11_day_4 8 rfl) rfl
theorem dX11_day_137 : decode cX11_day 137 = .ok (.ireturn, 1) := dq_172 (kX11_day_4 9 rfl)
