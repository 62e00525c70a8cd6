def bX11_between_0 : List UInt8 := [26, 27, 161, 0, 12, 26, 28, 163, 0, 7, 4, 167, 0, 4, 3, 172]
theorem kX11_between_0 (j : Nat) {b : UInt8} (hj : bX11_between_0[j]? = some b) : AtB cX11_between (0 + j) b := at_of32 (by decide +kernel) j hj
theorem dX11_between_0 : decode cX11_between 0 = .ok (.iload_n 0, 1) := dq_26 (kX11_between_0 0 rfl)
theorem dX11_between_1 : decode cX11_between 1 = .ok (.iload_n 1, 1) := dq_27 (kX11_between_0 1 rfl)
theorem dX11_between_2 : decode cX11_between 2 = .ok (.if_icmp .lt 12, 3) := dq_161 (kX11_between_0 2 rfl) (kX11_between_0 3 rfl) (kX11_between_0 4 rfl) (by decide)
theorem dX11_between_5 : decode cX11_between 5 = .ok (.iload_n 0, 1) := dq_26 (kX11_between_0 5 rfl)
theorem dX11_between_6 : decode cX11_between 6 = .ok (.iload_n 2, 1) := dq_28 (kX11_between_0 6 rfl)
theorem dX11_between_7 : decode cX11_between 7 = .ok (.if_icmp .gt 7, 3) := dq_163 (kX11_between_0 7 rfl) (kX11_between_0 8 rfl) (kX11_between_0 9 rfl) (by decide)
theorem dX11_between_10 : decode cX11_between 10 = .ok (.iconst 1, 1) := dq_4 (kX11_between_0 10 rfl)
theorem dX11_between_11 : decode cX11_between 11 = .ok (.goto 4, 3) := dq_167 (kX11_between_0 11 rfl) (kX11_between_0 12 rfl) (kX11_between_0 13 rfl) (by decide)
theorem dX11_between_14 : decode cX11_between 14 = .ok (.iconst 0, 1) := dq_3 (kX11_between_0 14 rfl)
theorem dX11_between_15 : decode cX11_between 15 = .ok (.ireturn, 1) := dq_172 (kX11_between_0 15 rfl)

def bX11_isDay_0 : List UInt8 := [26, 3, 17, 14, 15, 184, 0, 112, 172]
theorem kX11_isDay_0 (j : Nat) {b : UInt8} (hj : bX11_isDay_0[j]? = some b) : AtB cX11_isDay (0 + j) b := at_of32 (by decide +kernel) j hj
theorem dX11_isDay_0 : decode cX11_isDay 0 = .ok (.iload_n 0, 1) := dq_26 (kX11_isDay_0 0 rfl)
theorem dX11_isDay_1 : decode cX11_isDay 1 = .ok (.iconst 0, 1) := dq_3 (kX11_isDay_0 1 rfl)
theorem dX11_isDay_2 : decode cX11_isDay 2 = .ok (.sipush 3599, 3) := dq_17 (kX11_isDay_0 2 rfl) (kX11_isDay_0 3 rfl) (kX11_isDay_0 4 rfl) (by decide)
theorem dX11_isDay_5 : decode cX11_isDay 5 = .ok (.invokestatic 112, 3) := dq_184 (kX11_isDay_0 5 rfl) (kX11_isDay_0 6 rfl) (kX11_isDay_0 7 rfl) rfl
theorem dX11_isDay_8 : decode cX11_isDay 8 = .ok (.ireturn, 1) := dq_172 (kX11_isDay_0 8 rfl)

def bX11_areDays_0 : List UInt8 := [26, 155, 0, 19, 26, 27, 163, 0, 14, 27, 17, 14, 16, 162, 0, 7, 4, 167, 0, 4, 3, 172]
theorem kX11_areDays_0 (j : Nat) {b : UInt8} (hj : bX11_areDays_0[j]? = some b) : AtB cX11_areDays (0 + j) b := at_of32 (by decide +kernel) j hj
theorem dX11_areDays_0 : decode cX11_areDays 0 = .ok (.iload_n 0, 1) := dq_26 (kX11_areDays_0 0 rfl)
theorem dX11_areDays_1 : decode cX11_areDays 1 = .ok (.ifCond .lt 19, 3) := dq_155 (kX11_areDays_0 1 rfl) (kX11_areDays_0 2 rfl) (kX11_areDays_0 3 rfl) (by decide)
theorem dX11_areDays_4 : decode cX11_areDays 4 = .ok (.iload_n 0, 1) := dq_26 (kX11_areDays_0 4 rfl)
theorem dX11_areDays_5 : decode cX11_areDays 5 = .ok (.iload_n 1, 1) := dq_27 (kX11_areDays_0 5 rfl)
theorem dX11_areDays_6 : decode cX11_areDays 6 = .ok (.if_icmp .gt 14, 3) := dq_163 (kX11_areDays_0 6 rfl) (kX11_areDays_0 7 rfl) (kX11_areDays_0 8 rfl) (by decide)
theorem dX11_areDays_9 : decode cX11_areDays 9 = .ok (.iload_n 1, 1) := dq_27 (kX11_areDays_0 9 rfl)
theorem dX11_areDays_10 : decode cX11_areDays 10 = .ok (.sipush 3600, 3) := dq_17 (kX11_areDays_0 10 rfl) (kX11_areDays_0 11 rfl) (kX11_areDays_0 12 rfl) (by decide)
theorem dX11_areDays_13 : decode cX11_areDays 13 = .ok (.if_icmp .ge 7, 3) := dq_162 (kX11_areDays_0 13 rfl) (kX11_areDays_0 14 rfl) (kX11_areDays_0 15 rfl) (by decide)
theorem dX11_areDays_16 : decode cX11_areDays 16 = .ok (.iconst 1, 1) := dq_4 (kX11_areDays_0 16 rfl)
theorem dX11_areDays_17 : decode cX11_areDays 17 = .ok (.goto 4, 3) := dq_167 (kX11_areDays_0 17 rfl) (kX11_areDays_0 18 rfl) (kX11_areDays_0 19 rfl) (by decide)
theorem dX11_areDays_20 : decode cX11_areDays 20 = .ok (.iconst 0, 1) := dq_3 (kX11_areDays_0 20 rfl)
theorem dX11_areDays_21 : decode cX11_areDays 21 = .ok (.ireturn, 1) := dq_172 (kX11_areDays_0 21 rfl)

def bX11_areYearDays_0 : List UInt8 := [26, 155, 0, 19, 26, 27, 163, 0, 14, 27, 17, 1, 104, 162, 0, 7, 4, 167, 0, 4, 3, 172]
theorem kX11_areYearDays_0 (j : Nat) {b : UInt8} (hj : bX11_areYearDays_0[j]? = some b) : AtB cX11_areYearDays (0 + j) b := at_of32 (by decide +kernel) j hj
theorem dX11_areYearDays_0 : decode cX11_areYearDays 0 = .ok (.iload_n 0, 1) := dq_26 (kX11_areYearDays_0 0 rfl)
theorem dX11_areYearDays_1 : decode cX11_areYearDays 1 = .ok (.ifCond .lt 19, 3) := dq_155 (kX11_areYearDays_0 1 rfl) (kX11_areYearDays_0 2 rfl) (kX11_areYearDays_0 3 rfl) (by decide)
theorem dX11_areYearDays_4 : decode cX11_areYearDays 4 = .ok (.iload_n 0, 1) := dq_26 (kX11_areYearDays_0 4 rfl)
theorem dX11_areYearDays_5 : decode cX11_areYearDays 5 = .ok (.iload_n 1, 1) := dq_27 (kX11_areYearDays_0 5 rfl)
theorem dX11_areYearDays_6 : decode cX11_areYearDays 6 = .ok (.if_icmp .gt 14, 3) := dq_163 (kX11_areYearDays_0 6 rfl) (kX11_areYearDays_0 7 rfl) (kX11_areYearDays_0 8 rfl) (by decide)
theorem dX11_areYearDays_9 : decode cX11_areYearDays 9 = .ok (.iload_n 1, 1) := dq_27 (kX11_areYearDays_0 9 rfl)
theorem dX11_areYearDays_10 : decode cX11_areYearDays 10 = .ok (.sipush 360, 3) := dq_17 (kX11_areYearDays_0 10 rfl) (kX11_areYearDays_0 11 rfl) (kX11_areYearDays_0 12 rfl) (by decide)
theorem dX11_areYearDays_13 : decode cX11_areYearDays 13 = .ok (.if_icmp .ge 7, 3) := dq_162 (kX11_areYearDays_0 13 rfl) (kX11_areYearDays_0 14 rfl) (kX11_areYearDays_0 15 rfl) (by decide)
theorem dX11_areYearDays_16 : decode cX11_areYearDays 16 = .ok (.iconst 1, 1) := dq_4 (kX11_areYearDays_0 16 rfl)
theorem dX11_areYearDays_17 : decode cX11_areYearDays 17 = .ok (.goto 4, 3) := dq_167 (kX11_areYearDays_0 17 rfl) (kX11_areYearDays_0 18 rfl) (kX11_areYearDays_0 19 rfl) (by decide)
theorem dX11_areYearDays_20 : decode cX11_areYearDays 20 = .ok (.iconst 0, 1) := dq_3 (kX11_areYearDays_0 20 rfl)
theorem dX11_areYearDays_21 : decode cX11_areYearDays 21 = .ok (.ireturn, 1) := dq_172 (kX11_areYearDays_0 21 rfl)

def bX11_isYear_0 : List UInt8 := [26, 3, 16, 9, 184, 0, 112, 172]
theorem kX11_isYear_0 (j : Nat) {b : UInt8} (hj : bX11_isYear_0[j]? = some b) : AtB cX11_isYear (0 + j) b := at_of32 (by decide +kernel) j hj
theorem dX11_isYear_0 : decode cX11_isYear 0 = .ok (.iload_n 0, 1) := dq_26 (kX11_isYear_0 0 rfl)
theorem dX11_isYear_1 : decode cX11_isYear 1 = .ok (.iconst 0, 1) := dq_3 (kX11_isYear_0 1 rfl)
theorem dX11_isYear_2 : decode cX11_isYear 2 = .ok (.bipush 9, 2) := dq_16 (kX11_isYear_0 2 rfl) (kX11_isYear_0 3 rfl) (by decide)
theorem dX11_isYear_4 : decode cX11_isYear 4 = .ok (.invokestatic 112, 3) := dq_184 (kX11_isYear_0 4 rfl) (kX11_isYear_0 5 rfl) (kX11_isYear_0 6 rfl) rfl
theorem dX11_isYear_7 : decode cX11_isYear 7 = .ok (.ireturn, 1) := dq_172 (kX11_isYear_0 7 rfl)

def bX11_isSea_0 : List UInt8 := [26, 3, 6, 184, 0, 112, 172]
theorem kX11_isSea_0 (j : Nat) {b : UInt8} (hj : bX11_isSea_0[j]? = some b) : AtB cX11_isSea (0 + j) b := at_of32 (by decide +kernel) j hj
theorem dX11_isSea_0 : decode cX11_isSea 0 = .ok (.iload_n 0, 1) := dq_26 (kX11_isSea_0 0 rfl)
theorem dX11_isSea_1 : decode cX11_isSea 1 = .ok (.iconst 0, 1) := dq_3 (kX11_isSea_0 1 rfl)
theorem dX11_isSea_2 : decode cX11_isSea 2 = .ok (.iconst 3, 1) := dq_6 (kX11_isSea_0 2 rfl)
theorem dX11_isSea_3 : decode cX11_isSea 3 = .ok (.invokestatic 112, 3) := dq_184 (kX11_isSea_0 3 rfl) (kX11_isSea_0 4 rfl) (kX11_isSea_0 5 rfl) rfl
theorem dX11_isSea_6 : decode cX11_isSea 6 = .ok (.ireturn, 1) := dq_172 (kX11_isSea_0 6 rfl)

def bX12_init_0 : List UInt8 := [42, 183, 0, 1, 42, 16, 120, 181, 0, 7, 42, 17, 0, 239, 181, 0, 13, 42, 17, 0, 144, 188, 10, 181, 0, 16, 42, 17, 0, 144, 188, 10]
theorem kX12_init_0 (j : Nat) {b : UInt8} (hj : bX12_init_0[j]? = some b) : AtB cX12_init (0 + j) b := at_of32 (by decide +kernel) j hj
def bX12_init_1 : List UInt8 := [181, 0, 20, 42, 17, 0, 144, 188, 10, 181, 0, 23, 42, 17, 0, 144, 188, 10, 181, 0, 26, 42, 16, 9, 188, 10, 181, 0, 29, 42, 16, 9]
theorem kX12_init_1 (j : Nat) {b : UInt8} (hj : bX12_init_1[j]? = some b) : AtB cX12_init (32 + j) b := at_of32 (by decide +kernel) j hj
def bX12_init_2 : List UInt8 := [188, 10, 181, 0, 32, 42, 16, 60, 188, 10, 181, 0, 35, 42, 16, 60, 188, 10, 181, 0, 38, 42, 16, 60, 188, 10, 181, 0, 41, 42, 16, 60]
theorem kX12_init_2 (j : Nat) {b : UInt8} (hj : bX12_init_2[j]? = some b) : AtB cX12_init (64 + j) b := at_of32 (by decide +kernel) j hj
def bX12_init_3 : List UInt8 := [188, 10, 181, 0, 44, 42, 16, 60, 188, 10, 181, 0, 47, 42, 16, 60, 188, 10, 181, 0, 50, 42, 16, 60, 188, 10, 181, 0, 53, 42, 16, 60]
theorem kX12_init_3 (j : Nat) {b : UInt8} (hj : bX12_init_3[j]? = some b) : AtB cX12_init (96 + j) b := at_of32 (by decide +kernel) j hj
def bX12_init_4 : List UInt8 := [188, 10, 181, 0, 56, 42, 16, 60, 188, 10, 181, 0, 59, 42, 16, 60, 188, 10, 181, 0, 62, 42, 17, 0, 240, 188, 10, 181, 0, 65, 42, 16]
theorem kX12_init_4 (j : Nat) {b : UInt8} (hj : bX12_init_4[j]? = some b) : AtB cX12_init (128 + j) b := at_of32 (by decide +kernel) j hj
def bX12_init_5 : List UInt8 := [60, 188, 10, 181, 0, 68, 42, 16, 60, 188, 10, 181, 0, 71, 42, 17, 2, 88, 188, 10, 181, 0, 74, 42, 17, 2, 88, 188, 10, 181, 0, 77]
theorem kX12_init_5 (j : Nat) {b : UInt8} (hj : bX12_init_5[j]? = some b) : AtB cX12_init (160 + j) b := at_of32 (by decide +kernel) j hj
def bX12_init_6 : List UInt8 := [42, 16, 60, 188, 4, 181, 0, 80, 42, 17, 1, 144, 188, 8, 181, 0, 84, 42, 17, 0, 220, 188, 10, 181, 0, 88, 42, 17, 0, 220, 188, 10]
theorem kX12_init_6 (j : Nat) {b : UInt8} (hj : bX12_init_6[j]? = some b) : AtB cX12_init (192 + j) b := at_of32 (by decide +kernel) j hj
def bX12_init_7 : List UInt8 := [181, 0, 91, 42, 16, 12, 188, 10, 181, 0, 94, 42, 16, 12, 188, 10, 181, 0, 97, 42, 16, 12, 188, 10, 181, 0, 100, 42, 16, 12, 188, 10]
theorem kX12_init_7 (j : Nat) {b : UInt8} (hj : bX12_init_7[j]? = some b) : AtB cX12_init (224 + j) b := at_of32 (by decide +kernel) j hj
def bX12_init_8 : List UInt8 := [181, 0, 103, 42, 16, 12, 188, 10, 181, 0, 106, 42, 16, 12, 188, 10, 181, 0, 109, 42, 17, 17, 48, 188, 10, 181, 0, 112, 42, 16, 20, 188]
theorem kX12_init_8 (j : Nat) {b : UInt8} (hj : bX12_init_8[j]? = some b) : AtB cX12_init (256 + j) b := at_of32 (by decide +kernel) j hj
def bX12_init_9 : List UInt8 := [10, 181, 0, 115, 42, 16, 20, 188, 10, 181, 0, 118, 42, 16, 20, 188, 10, 181, 0, 121, 42, 17, 0, 240, 188, 10, 181, 0, 124, 42, 17, 0]
theorem kX12_init_9 (j : Nat) {b : UInt8} (hj : bX12_init_9[j]? = some b) : AtB cX12_init (288 + j) b := at_of32 (by decide +kernel) j hj
def bX12_init_10 : List UInt8 := [240, 188, 10, 181, 0, 127, 42, 17, 0, 240, 188, 10, 181, 0, 130, 42, 17, 0, 240, 188, 10, 181, 0, 133, 42, 17, 0, 240, 188, 10, 181, 0]
theorem kX12_init_10 (j : Nat) {b : UInt8} (hj : bX12_init_10[j]? = some b) : AtB cX12_init (320 + j) b := at_of32 (by decide +kernel) j hj
def bX12_init_11 : List UInt8 := [136, 42, 17, 0, 240, 188, 10, 181, 0, 139, 42, 17, 0, 180, 188, 10, 181, 0, 142, 42, 17, 8, 152, 188, 10, 181, 0, 145, 42, 16, 20, 188]
theorem kX12_init_11 (j : Nat) {b : UInt8} (hj : bX12_init_11[j]? = some b) : AtB cX12_init (352 + j) b := at_of32 (by decide +kernel) j hj
def bX12_init_12 : List UInt8 := [10, 181, 0, 148, 42, 16, 20, 188, 10, 181, 0, 151, 42, 16, 20, 188, 10, 181, 0, 154, 42, 16, 20, 188, 4, 181, 0, 157, 42, 17, 0, 240]
theorem kX12_init_12 (j : Nat) {b : UInt8} (hj : bX12_init_12[j]? = some b) : AtB cX12_init (384 + j) b := at_of32 (by decide +kernel) j hj
def bX12_init_13 : List UInt8 := [188, 4, 181, 0, 160, 42, 16, 100, 188, 10, 181, 0, 163, 42, 16, 100, 188, 10, 181, 0, 166, 42, 16, 100, 188, 10, 181, 0, 169, 42, 16, 100]
theorem kX12_init_13 (j : Nat) {b : UInt8} (hj : bX12_init_13[j]? = some b) : AtB cX12_init (416 + j) b := at_of32 (by decide +kernel) j hj
def bX12_init_14 : List UInt8 := [188, 10, 181, 0, 172, 42, 16, 100, 188, 10, 181, 0, 175, 42, 16, 100, 188, 10, 181, 0, 178, 42, 16, 100, 188, 10, 181, 0, 181, 42, 16, 100]
theorem kX12_init_14 (j : Nat) {b : UInt8} (hj : bX12_init_14[j]? = some b) : AtB cX12_init (448 + j) b := at_of32 (by decide +kernel) j hj
def bX12_init_15 : List UInt8 := [188, 10, 181, 0, 184, 42, 16, 100, 188, 10, 181, 0, 187, 42, 16, 100, 188, 10, 181, 0, 190, 42, 16, 100, 188, 10, 181, 0, 193, 42, 16, 100]
theorem kX12_init_15 (j : Nat) {b : UInt8} (hj : bX12_init_15[j]? = some b) : AtB cX12_init (480 + j) b := at_of32 (by decide +kernel) j hj
def bX12_init_16 : List UInt8 := [188, 10, 181, 0, 196, 42, 16, 100, 188, 10, 181, 0, 199, 42, 17, 3, 132, 188, 10, 181, 0, 202, 42, 17, 0, 220, 188, 10, 181, 0, 205, 42]
theorem kX12_init_16 (j : Nat) {b : UInt8} (hj : bX12_init_16[j]? = some b) : AtB cX12_init (512 + j) b := at_of32 (by decide +kernel) j hj
def bX12_init_17 : List UInt8 := [16, 10, 188, 10, 181, 0, 208, 42, 16, 10, 188, 10, 181, 0, 211, 42, 16, 10, 188, 10, 181, 0, 214, 42, 16, 10, 188, 10, 181, 0, 217, 42]
theorem kX12_init_17 (j : Nat) {b : UInt8} (hj : bX12_init_17[j]? = some b) : AtB cX12_init (544 + j) b := at_of32 (by decide +kernel) j hj
def bX12_init_18 : List UInt8 := [16, 10, 188, 10, 181, 0, 220, 42, 16, 10, 188, 10, 181, 0, 223, 42, 16, 10, 188, 10, 181, 0, 226, 42, 16, 10, 188, 10, 181, 0, 229, 42]
theorem kX12_init_18 (j : Nat) {b : UInt8} (hj : bX12_init_18[j]? = some b) : AtB cX12_init (576 + j) b := at_of32 (by decide +kernel) j hj
def bX12_init_19 : List UInt8 := [16, 10, 188, 10, 181, 0, 232, 42, 16, 10, 188, 10, 181, 0, 235, 42, 16, 10, 188, 10, 181, 0, 238, 42, 16, 48, 188, 10, 181, 0, 241, 42]
theorem kX12_init_19 (j : Nat) {b : UInt8} (hj : bX12_init_19[j]? = some b) : AtB cX12_init (608 + j) b := at_of32 (by decide +kernel) j hj
def bX12_init_20 : List UInt8 := [7, 188, 10, 181, 0, 244, 42, 16, 40, 188, 10, 181, 0, 247, 42, 16, 40, 188, 10, 181, 0, 250, 42, 16, 40, 188, 10, 181, 0, 253, 42, 16]
theorem kX12_init_20 (j : Nat) {b : UInt8} (hj : bX12_init_20[j]? = some b) : AtB cX12_init (640 + j) b := at_of32 (by decide +kernel) j hj
def bX12_init_21 : List UInt8 := [40, 188, 10, 181, 1, 0, 42, 16, 40, 188, 4, 181, 1, 3, 42, 16, 60, 188, 10, 181, 1, 6, 42, 16, 60, 188, 10, 181, 1, 9, 42, 16]
theorem kX12_init_21 (j : Nat) {b : UInt8} (hj : bX12_init_21[j]? = some b) : AtB cX12_init (672 + j) b := at_of32 (by decide +kernel) j hj
def bX12_init_22 : List UInt8 := [60, 188, 10, 181, 1, 12, 42, 16, 60, 188, 10, 181, 1, 15, 42, 16, 60, 188, 10, 181, 1, 18, 42, 17, 0, 144, 188, 10, 181, 1, 21, 42]
theorem kX12_init_22 (j : Nat) {b : UInt8} (hj : bX12_init_22[j]? = some b) : AtB cX12_init (704 + j) b := at_of32 (by decide +kernel) j hj
def bX12_init_23 : List UInt8 := [16, 100, 181, 1, 24, 42, 16, 60, 188, 10, 181, 1, 27, 42, 17, 1, 224, 188, 10, 181, 1, 30, 42, 17, 1, 224, 188, 10, 181, 1, 33, 42]
theorem kX12_init_23 (j : Nat) {b : UInt8} (hj : bX12_init_23[j]? = some b) : AtB cX12_init (736 + j) b := at_of32 (by decide +kernel) j hj
def bX12_init_24 : List UInt8 := [16, 10, 188, 10, 181, 1, 36, 42, 16, 10, 188, 10, 181, 1, 39, 42, 16, 10, 188, 10, 181, 1, 42, 42, 16, 10, 188, 10, 181, 1, 45, 42]
theorem kX12_init_24 (j : Nat) {b : UInt8} (hj : bX12_init_24[j]? = some b) : AtB cX12_init (768 + j) b := at_of32 (by decide +kernel) j hj
def bX12_init_25 : List UInt8 := [17, 0, 200, 188, 10, 181, 1, 48, 42, 17, 0, 200, 188, 10, 181, 1, 51, 42, 17, 0, 200, 188, 10, 181, 1, 54, 42, 17, 0, 200, 188, 10]
theorem kX12_init_25 (j : Nat) {b : UInt8} (hj : bX12_init_25[j]? = some b) : AtB cX12_init (800 + j) b := at_of32 (by decide +kernel) j hj
def bX12_init_26 : List UInt8 := [181, 1, 57, 42, 17, 0, 200, 188, 10, 181, 1, 60, 42, 16, 7, 188, 10, 181, 1, 63, 42, 16, 63, 188, 4, 181, 1, 66, 42, 17, 1, 185]
theorem kX12_init_26 (j : Nat) {b : UInt8} (hj : bX12_init_26[j]? = some b) : AtB cX12_init (832 + j) b := at_of32 (by decide +kernel) j hj
def bX12_init_27 : List UInt8 := [188, 4, 181, 1, 69, 42, 16, 8, 188, 10, 181, 1, 72, 42, 16, 8, 188, 10, 181, 1, 75, 42, 16, 24, 188, 10, 181, 1, 78, 42, 16, 24]
theorem kX12_init_27 (j : Nat) {b : UInt8} (hj : bX12_init_27[j]? = some b) : AtB cX12_init (864 + j) b := at_of32 (by decide +kernel) j hj
def bX12_init_28 : List UInt8 := [188, 10, 181, 1, 81, 42, 16, 8, 188, 10, 181, 1, 84, 42, 16, 8, 188, 10, 181, 1, 87, 42, 17, 0, 200, 188, 10, 181, 1, 90, 42, 17]
theorem kX12_init_28 (j : Nat) {b : UInt8} (hj : bX12_init_28[j]? = some b) : AtB cX12_init (896 + j) b := at_of32 (by decide +kernel) j hj
def bX12_init_29 : List UInt8 := [0, 200, 188, 10, 181, 1, 93, 42, 17, 0, 200, 188, 10, 181, 1, 96, 42, 17, 0, 200, 188, 10, 181, 1, 99, 42, 17, 0, 200, 188, 4, 181]
theorem kX12_init_29 (j : Nat) {b : UInt8} (hj : bX12_init_29[j]? = some b) : AtB cX12_init (928 + j) b := at_of32 (by decide +kernel) j hj
def bX12_init_30 : List UInt8 := [1, 102, 42, 16, 8, 16, 8, 182, 1, 105, 3, 60, 27, 7, 162, 0, 17, 42, 180, 0, 244, 27, 16, 10, 79, 132, 1, 1, 167, 255, 240, 3]
theorem kX12_init_30 (j : Nat) {b : UInt8} (hj : bX12_init_30[j]? = some b) : AtB cX12_init (960 + j) b := at_of32 (by decide +kernel) j hj
def bX12_init_31 : List UInt8 := [60, 27, 16, 10, 162, 0, 17, 42, 180, 1, 45, 27, 16, 50, 79, 132, 1, 1, 167, 255, 239, 3, 60, 27, 16, 24, 162, 0, 18, 42, 180, 1]
theorem kX12_init_31 (j : Nat) {b : UInt8} (hj : bX12_init_31[j]? = some b) : AtB cX12_init (992 + j) b := at_of32 (by decide +kernel) j hj
def bX12_init_32 : List UInt8 := [81, 27, 17, 1, 103, 79, 132, 1, 1, 167, 255, 238, 3, 60, 27, 17, 2, 88, 162, 0, 16, 42, 180, 0, 77, 27, 2, 79, 132, 1, 1, 167]
theorem kX12_init_32 (j : Nat) {b : UInt8} (hj : bX12_init_32[j]? = some b) : AtB cX12_init (1024 + j) b := at_of32 (by decide +kernel) j hj
def bX12_init_33 : List UInt8 := [255, 239, 177]
theorem kX12_init_33 (j : Nat) {b : UInt8} (hj : bX12_init_33[j]? = some b) : AtB cX12_init (1056 + j) b := at_of32 (by decide +kernel) j hj
theorem dX12_init_0 : decode cX12_init 0 = .ok (.aload_n 0, 1) := dq_42 (kX12_init_0 0 rfl)
theorem dX12_init_1 : decode cX12_init 1 = .ok (.invokespecial 1, 3) := dq_183 (kX12_init_0 1 rfl) (kX12_init_0 2 rfl) (kX12_init_0 3 rfl) rfl
theorem dX12_init_4 : decode cX12_init 4 = .ok (.aload_n 0, 1) := dq_42 (kX12_init_0 4 rfl)
theorem dX12_init_5 : decode cX12_init 5 = .ok (.bipush 120, 2) := dq_16 (kX12_init_0 5 rfl) (kX12_init_0 6 rfl) (by decide)
theorem dX12_init_7 : decode cX12_init 7 = .ok (.putfield 7, 3) := dq_181 (kX12_init_0 7 rfl) (kX12_init_0 8 rfl) (kX12_init_0 9 rfl) rfl
theorem dX12_init_10 : decode cX12_init 10 = .ok (.aload_n 0, 1) := dq_42 (kX12_init_0 10 rfl)
theorem dX12_init_11 : decode cX12_init 11 = .ok (.sipush 239, 3) := dq_17 (kX12_init_0 11 rfl) (kX12_init_0 12 rfl) (kX12_init_0 13 rfl) (by decide)
theorem dX12_init_14 : decode cX12_init 14 = .ok (.putfield 13, 3) := dq_181 (kX12_init_0 14 rfl) (kX12_init_0 15 rfl) (kX12_init_0 16 rfl) rfl
theorem dX12_init_17 : decode cX12_init 17 = .ok (.aload_n 0, 1) := dq_42 (kX12_init_0 17 rfl)
theorem dX12_init_18 : decode cX12_init 18 = .ok (.sipush 144, 3) := dq_17 (kX12_init_0 18 rfl) (kX12_init_0 19 rfl) (kX12_init_0 20 rfl) (by decide)
theorem dX12_init_21 : decode cX12_init 21 = .ok (.newarray .int, 2) := dq_188_10 (kX12_init_0 21 rfl) (kX12_init_0 22 rfl)
theorem dX12_init_23 : decode cX12_init 23 = .ok (.putfield 16, 3) := dq_181 (kX12_init_0 23 rfl) (kX12_init_0 24 rfl) (kX12_init_0 25 rfl) rfl
theorem dX12_init_26 : decode cX12_init 26 = .ok (.aload_n 0, 1) := dq_42 (kX12_init_0 26 rfl)
theorem dX12_init_27 : decode cX12_init 27 = .ok (.sipush 144, 3) := dq_17 (kX12_init_0 27 rfl) (kX12_init_0 28 rfl) (kX12_init_0 29 rfl) (by decide)
theorem dX12_init_30 : decode cX12_init 30 = .ok (.newarray .int, 2) := dq_188_10 (kX12_init_0 30 rfl) (kX12_init_0 31 rfl)
theorem dX12_init_32 : decode cX12_init 32 = .ok (.putfield 20, 3) := dq_181 (kX12_init_1 0 rfl) (kX12_init_1 1 rfl) (kX12_init_1 2 rfl) rfl
theorem dX12_init_35 : decode cX12_init 35 = .ok (.aload_n 0, 1) := dq_42 (kX12_init_1 3 rfl)
theorem dX12_init_36 : decode cX12_init 36 = .ok (.sipush 144, 3) := dq_17 (kX12_init_1 4 rfl) (kX12_init_1 5 rfl) (kX12_init_1 6 rfl) (by decide)
theorem dX12_init_39 : decode cX12_init 39 = .ok (.newarray .int, 2) := dq_188_10 (kX12_init_1 7 rfl) (kX12_init_1 8 rfl)
theorem dX12_init_41 : decode cX12_init 41 = .ok (.putfield 23, 3) := dq_181 (kX12_init_1 9 rfl) (kX12_init_1 10 rfl) (kX12_init_1 11 rfl) rfl
theorem dX12_init_44 : decode cX12_init 44 = .ok (.aload_n 0, 1) := dq_42 (kX12_init_1 12 rfl)
theorem dX12_init_45 : decode cX12_init 45 = .ok (.sipush 144, 3) := dq_17 (kX12_init_1 13 rfl) (kX12_init_1 14 rfl) (kX12_init_1 15 rfl) (by decide)
theorem dX12_init_48 : decode cX12_init 48 = .ok (.newarray .int, 2) := dq_188_10 (kX12_init_1 16 rfl) (kX12_init_1 17 rfl)
theorem dX12_init_50 : decode cX12_init 50 = .ok (.putfield 26, 3) := dq_181 (kX12_init_1 18 rfl) (kX12_init_1 19 rfl) (kX12_init_1 20 rfl) rfl
theorem dX12_init_53 : decode cX12_init 53 = .ok (.aload_n 0, 1) := dq_42 (kX12_init_1 21 rfl)
theorem dX12_init_54 : decode cX12_init 54 = .ok (.bipush 9, 2) := dq_16 (kX12_init_1 22 rfl) (kX12_init_1 23 rfl) (by decide)
theorem dX12_init_56 : decode cX12_init 56 = .ok (.newarray .int, 2) := dq_188_10 (kX12_init_1 24 rfl) (kX12_init_1 25 rfl)
theorem dX12_init_58 : decode cX12_init 58 = .ok (.putfield 29, 3) := dq_181 (kX12_init_1 26 rfl) (kX12_init_1 27 rfl) (kX12_init_1 28 rfl) rfl
theorem dX12_init_61 : decode cX12_init 61 = .ok (.aload_n 0, 1) := dq_42 (kX12_init_1 29 rfl)
theorem dX12_init_62 : decode cX12_init 62 = .ok (.bipush 9, 2) := dq_16 (kX12_init_1 30 rfl) (kX12_init_1 31 rfl) (by decide)
theorem dX12_init_64 : decode cX12_init 64 = .ok (.newarray .int, 2) := dq_188_10 (kX12_init_2 0 rfl) (kX12_init_2 1 rfl)
theorem dX12_init_66 : decode cX12_init 66 = .ok (.putfield 32, 3) := dq_181 (kX12_init_2 2 rfl) (kX12_init_2 3 rfl) (kX12_init_2 4 rfl) rfl
theorem dX12_init_69 : decode cX12_init 69 = .ok (.aload_n 0, 1) := dq_42 (kX12_init_2 5 rfl)
theorem dX12_init_70 : decode cX12_init 70 = .ok (.bipush 60, 2) := dq_16 (kX12_init_2 6 rfl) (kX12_init_2 7 rfl) (by decide)
theorem dX12_init_72 : decode cX12_init 72 = .ok (.newarray .int, 2) := dq_188_10 (kX12_init_2 8 rfl) (kX12_init_2 9 rfl)
theorem dX12_init_74 : decode cX12_init 74 = .ok (.putfield 35, 3) := dq_181 (kX12_init_2 10 rfl) (kX12_init_2 11 rfl) (kX12_init_2 12 rfl) rfl
theorem dX12_init_77 : decode cX12_init 77 = .ok (.aload_n 0, 1) := dq_42 (kX12_init_2 13 rfl)
theorem dX12_init_78 : decode cX12_init 78 = .ok (.bipush 60, 2) := dq_16 (kX12_init_2 14 rfl) (kX12_init_2 15 rfl) (by decide)
theorem dX12_init_80 : decode cX12_init 80 = .ok (.newarray .int, 2) := dq_188_10 (kX12_init_2 16 rfl) (kX12_init_2 17 rfl)
theorem dX12_init_82 : decode cX12_init 82 = .ok (.putfield 38, 3) := dq_181 (kX12_init_2 18 rfl) (kX12_init_2 19 rfl) (kX12_init_2 20 rfl) rfl
theorem dX12_init_85 : decode cX12_init 85 = .ok (.aload_n 0, 1) := dq_42 (kX12_init_2 21 rfl)
theorem dX12_init_86 : decode cX12_init 86 = .ok (.bipush 60, 2) := dq_16 (kX12_init_2 22 rfl) (kX12_init_2 23 rfl) (by decide)
theorem dX12_init_88 : decode cX12_init 88 = .ok (.newarray .int, 2) := dq_188_10 (kX12_init_2 24 rfl) (kX12_init_2 25 rfl)
theorem dX12_init_90 : decode cX12_init 90 = .ok (.putfield 41, 3) := dq_181 (kX12_init_2 26 rfl) (kX12_init_2 27 rfl) (kX12_init_2 28 rfl) rfl
theorem dX12_init_93 : decode cX12_init 93 = .ok (.aload_n 0, 1) := dq_42 (kX12_init_2 29 rfl)
theorem dX12_init_94 : decode cX12_init 94 = .ok (.bipush 60, 2) := dq_16 (kX12_init_2 30 rfl) (kX12_init_2 31 rfl) (by decide)
theorem dX12_init_96 : decode cX12_init 96 = .ok (.newarray .int, 2) := dq_188_10 (kX12_init_3 0 rfl) (kX12_init_3 1 rfl)
theorem dX12_init_98 : decode cX12_init 98 = .ok (.putfield 44, 3) := dq_181 (kX12_init_3 2 rfl) (kX12_init_3 3 rfl) (kX12_init_3 4 rfl) rfl
theorem dX12_init_101 : decode cX12_init 101 = .ok (.aload_n 0, 1) := dq_42 (kX12_init_3 5 rfl)
theorem dX12_init_102 : decode cX12_init 102 = .ok (.bipush 60, 2) := dq_16 (kX12_init_3 6 rfl) (kX12_init_3 7 rfl) (by decide)
theorem dX12_init_104 : decode cX12_init 104 = .ok (.newarray .int, 2) := dq_188_10 (kX12_init_3 8 rfl) (kX12_init_3 9 rfl)
theorem dX12_init_106 : decode cX12_init 106 = .ok (.putfield 47, 3) := dq_181 (kX12_init_3 10 rfl) (kX12_init_3 11 rfl) (kX12_init_3 12 rfl) rfl
theorem dX12_init_109 : decode cX12_init 109 = .ok (.aload_n 0, 1) := dq_42 (kX12_init_3 13 rfl)
theorem dX12_init_110 : decode cX12_init 110 = .ok (.bipush 60, 2) := dq_16 (kX12_init_3 14 rfl) (kX12_init_3 15 rfl) (by decide)
theorem dX12_init_112 : decode cX12_init 112 = .ok (.newarray .int, 2) := dq_188_10 (kX12_init_3 16 rfl) (kX12_init_3 17 rfl)
theorem dX12_init_114 : decode cX12_init 114 = .ok (.putfield 50, 3) := dq_181 (kX12_init_3 18 rfl) (kX12_init_3 19 rfl) (kX12_init_3 20 rfl) rfl
theorem dX12_init_117 : decode cX12_init 117 = .ok (.aload_n 0, 1) := dq_42 (kX12_init_3 21 rfl)
theorem dX12_init_118 : decode cX12_init 118 = .ok (.bipush 60, 2) := dq_16 (kX12_init_3 22 rfl) (kX12_init_3 23 rfl) (by decide)
theorem dX12_init_120 : decode cX12_init 120 = .ok (.newarray .int, 2) := dq_188_10 (kX12_init_3 24 rfl) (kX12_init_3 25 rfl)
theorem dX12_init_122 : decode cX12_init 122 = .ok (.putfield 53, 3) := dq_181 (kX12_init_3 26 rfl) (kX12_init_3 27 rfl) (kX12_init_3 28 rfl) rfl
theorem dX12_init_125 : decode cX12_init 125 = .ok (.aload_n 0, 1) := dq_42 (kX12_init_3 29 rfl)
theorem dX12_init_126 : decode cX12_init 126 = .ok (.bipush 60, 2) := dq_16 (kX12_init_3 30 rfl) (kX12_init_3 31 rfl) (by decide)
theorem dX12_init_128 : decode cX12_init 128 = .ok (.newarray .int, 2) := dq_188_10 (kX12_init_4 0 rfl) (kX12_init_4 1 rfl)
theorem dX12_init_130 : decode cX12_init 130 = .ok (.putfield 56, 3) := dq_181 (kX12_init_4 2 rfl) (kX12_init_4 3 rfl) (kX12_init_4 4 rfl) rfl
theorem dX12_init_133 : decode cX12_init 133 = .ok (.aload_n 0, 1) := dq_42 (kX12_init_4 5 rfl)
theorem dX12_init_134 : decode cX12_init 134 = .ok (.bipush 60, 2) := dq_16 (kX12_init_4 6 rfl) (kX12_init_4 7 rfl) (by decide)
theorem dX12_init_136 : decode cX12_init 136 = .ok (.newarray .int, 2) := dq_188_10 (kX12_init_4 8 rfl) (kX12_init_4 9 rfl)
theorem dX12_init_138 : decode cX12_init 138 = .ok (.putfield 59, 3) := dq_181 (kX12_init_4 10 rfl) (kX12_init_4 11 rfl) (kX12_init_4 12 rfl) rfl
theorem dX12_init_141 : decode cX12_init 141 = .ok (.aload_n 0, 1) := dq_42 (kX12_init_4 13 rfl)
theorem dX12_init_142 : decode cX12_init 142 = .ok (.bipush 60, 2) := dq_16 (kX12_init_4 14 rfl) (kX12_init_4 15 rfl) (by decide)
theorem dX12_init_144 : decode cX12_init 144 = .ok (.newarray .int, 2) := dq_188_10 (kX12_init_4 16 rfl) (kX12_init_4 17 rfl)
theorem dX12_init_146 : decode cX12_init 146 = .ok (.putfield 62, 3) := dq_181 (kX12_init_4 18 rfl) (kX12_init_4 19 rfl) (kX12_init_4 20 rfl) rfl
theorem dX12_init_149 : decode cX12_init 149 = .ok (.aload_n 0, 1) := dq_42 (kX12_init_4 21 rfl)
theorem dX12_init_150 : decode cX12_init 150 = .ok (.sipush 240, 3) := dq_17 (kX12_init_4 22 rfl) (kX12_init_4 23 rfl) (kX12_init_4 24 rfl) (by decide)
theorem dX12_init_153 : decode cX12_init 153 = .ok (.newarray .int, 2) := dq_188_10 (kX12_init_4 25 rfl) (kX12_init_4 26 rfl)
theorem dX12_init_155 : decode cX12_init 155 = .ok (.putfield 65, 3) := dq_181 (kX12_init_4 27 rfl) (kX12_init_4 28 rfl) (kX12_init_4 29 rfl) rfl
theorem dX12_init_158 : decode cX12_init 158 = .ok (.aload_n 0, 1) := dq_42 (kX12_init_4 30 rfl)
theorem dX12_init_159 : decode cX12_init 159 = .ok (.bipush 60, 2) := dq_16 (kX12_init_4 31 rfl) (kX12_init_5 0 rfl) (by decide)
theorem dX12_init_161 : decode cX12_init 161 = .ok (.newarray .int, 2) := dq_188_10 (kX12_init_5 1 rfl) (kX12_init_5 2 rfl)
theorem dX12_init_163 : decode cX12_init 163 = .ok (.putfield 68, 3) := dq_181 (kX12_init_5 3 rfl) (kX12_init_5 4 rfl) (kX12_init_5 5 rfl) rfl
theorem dX12_init_166 : decode cX12_init 166 = .ok (.aload_n 0, 1) := dq_42 (kX12_init_5 6 rfl)
theorem dX12_init_167 : decode cX12_init 167 = .ok (.bipush 60, 2) := dq_16 (kX12_init_5 7 rfl) (kX12_init_5 8 rfl) (by decide)
theorem dX12_init_169 : decode cX12_init 169 = .ok (.newarray .int, 2) := dq_188_10 (kX12_init_5 9 rfl) (kX12_init_5 10 rfl)
theorem dX12_init_171 : decode cX12_init 171 = .ok (.putfield 71, 3) := dq_181 (kX12_init_5 11 rfl) (kX12_init_5 12 rfl) (kX12_init_5 13 rfl) rfl
theorem dX12_init_174 : decode cX12_init 174 = .ok (.aload_n 0, 1) := dq_42 (kX12_init_5 14 rfl)
theorem dX12_init_175 : decode cX12_init 175 = .ok (.sipush 600, 3) := dq_17 (kX12_init_5 15 rfl) (kX12_init_5 16 rfl) (kX12_init_5 17 rfl) (by decide)
theorem dX12_init_178 : decode cX12_init 178 = .ok (.newarray .int, 2) := dq_188_10 (kX12_init_5 18 rfl) (kX12_init_5 19 rfl)
theorem dX12_init_180 : decode cX12_init 180 = .ok (.putfield 74, 3) := dq_181 (kX12_init_5 20 rfl) (kX12_init_5 21 rfl) (kX12_init_5 22 rfl) rfl
theorem dX12_init_183 : decode cX12_init 183 = .ok (.aload_n 0, 1) := dq_42 (kX12_init_5 23 rfl)
theorem dX12_init_184 : decode cX12_init 184 = .ok (.sipush 600, 3) := dq_17 (kX12_init_5 24 rfl) (kX12_init_5 25 rfl) (kX12_init_5 26 rfl) (by decide)
theorem dX12_init_187 : decode cX12_init 187 = .ok (.newarray .int, 2) := dq_188_10 (kX12_init_5 27 rfl) (kX12_init_5 28 rfl)
theorem dX12_init_189 : decode cX12_init 189 = .ok (.putfield 77, 3) := dq_181 (kX12_init_5 29 rfl) (kX12_init_5 30 rfl) (kX12_init_5 31 rfl) rfl
theorem dX12_init_192 : decode cX12_init 192 = .ok (.aload_n 0, 1) := dq_42 (kX12_init_6 0 rfl)
theorem dX12_init_193 : decode cX12_init 193 = .ok (.bipush 60, 2) := dq_16 (kX12_init_6 1 rfl) (kX12_init_6 2 rfl) (by decide)
theorem dX12_init_195 : decode cX12_init 195 = .ok (.newarray .boolean, 2) := dq_188_4 (kX12_init_6 3 rfl) (kX12_init_6 4 rfl)
theorem dX12_init_197 : decode cX12_init 197 = .ok (.putfield 80, 3) := dq_181 (kX12_init_6 5 rfl) (kX12_init_6 6 rfl) (kX12_init_6 7 rfl) rfl
theorem dX12_init_200 : decode cX12_init 200 = .ok (.aload_n 0, 1) := dq_42 (kX12_init_6 8 rfl)
theorem dX12_init_201 : decode cX12_init 201 = .ok (.sipush 400, 3) := dq_17 (kX12_init_6 9 rfl) (kX12_init_6 10 rfl) (kX12_init_6 11 rfl) (by decide)
theorem dX12_init_204 : decode cX12_init 204 = .ok (.newarray .byte, 2) := dq_188_8 (kX12_init_6 12 rfl) (kX12_init_6 13 rfl)
theorem dX12_init_206 : decode cX12_init 206 = .ok (.putfield 84, 3) := dq_181 (kX12_init_6 14 rfl) (kX12_init_6 15 rfl) (kX12_init_6 16 rfl) rfl
theorem dX12_init_209 : decode cX12_init 209 = .ok (.aload_n 0, 1) := dq_42 (kX12_init_6 17 rfl)
theorem dX12_init_210 : decode cX12_init 210 = .ok (.sipush 220, 3) := dq_17 (kX12_init_6 18 rfl) (kX12_init_6 19 rfl) (kX12_init_6 20 rfl) (by decide)
theorem dX12_init_213 : decode cX12_init 213 = .ok (.newarray .int, 2) := dq_188_10 (kX12_init_6 21 rfl) (kX12_init_6 22 rfl)
theorem dX12_init_215 : decode cX12_init 215 = .ok (.putfield 88, 3) := dq_181 (kX12_init_6 23 rfl) (kX12_init_6 24 rfl) (kX12_init_6 25 rfl) rfl
theorem dX12_init_218 : decode cX12_init 218 = .ok (.aload_n 0, 1) := dq_42 (kX12_init_6 26 rfl)
theorem dX12_init_219 : decode cX12_init 219 = .ok (.sipush 220, 3) := dq_17 (kX12_init_6 27 rfl) (kX12_init_6 28 rfl) (kX12_init_6 29 rfl) (by decide)
theorem dX12_init_222 : decode cX12_init 222 = .ok (.newarray .int, 2) := dq_188_10 (kX12_init_6 30 rfl) (kX12_init_6 31 rfl)
theorem dX12_init_224 : decode cX12_init 224 = .ok (.putfield 91, 3) := dq_181 (kX12_init_7 0 rfl) (kX12_init_7 1 rfl) (kX12_init_7 2 rfl) rfl
theorem dX12_init_227 : decode cX12_init 227 = .ok (.aload_n 0, 1) := dq_42 (kX12_init_7 3 rfl)
theorem dX12_init_228 : decode cX12_init 228 = .ok (.bipush 12, 2) := dq_16 (kX12_init_7 4 rfl) (kX12_init_7 5 rfl) (by decide)
theorem dX12_init_230 : decode cX12_init 230 = .ok (.newarray .int, 2) := dq_188_10 (kX12_init_7 6 rfl) (kX12_init_7 7 rfl)
theorem dX12_init_232 : decode cX12_init 232 = .ok (.putfield 94, 3) := dq_181 (kX12_init_7 8 rfl) (kX12_init_7 9 rfl) (kX12_init_7 10 rfl) rfl
theorem dX12_init_235 : decode cX12_init 235 = .ok (.aload_n 0, 1) := dq_42 (kX12_init_7 11 rfl)
theorem dX12_init_236 : decode cX12_init 236 = .ok (.bipush 12, 2) := dq_16 (kX12_init_7 12 rfl) (kX12_init_7 13 rfl) (by decide)
theorem dX12_init_238 : decode cX12_init 238 = .ok (.newarray .int, 2) := dq_188_10 (kX12_init_7 14 rfl) (kX12_init_7 15 rfl)
theorem dX12_init_240 : decode cX12_init 240 = .ok (.putfield 97, 3) := dq_181 (kX12_init_7 16 rfl) (kX12_init_7 17 rfl) (kX12_init_7 18 rfl) rfl
theorem dX12_init_243 : decode cX12_init 243 = .ok (.aload_n 0, 1) := dq_42 (kX12_init_7 19 rfl)
theorem dX12_init_244 : decode cX12_init 244 = .ok (.bipush 12, 2) := dq_16 (kX12_init_7 20 rfl) (kX12_init_7 21 rfl) (by decide)
theorem dX12_init_246 : decode cX12_init 246 = .ok (.newarray .int, 2) := dq_188_10 (kX12_init_7 22 rfl) (kX12_init_7 23 rfl)
theorem dX12_init_248 : decode cX12_init 248 = .ok (.putfield 100, 3) := dq_181 (kX12_init_7 24 rfl) (kX12_init_7 25 rfl) (kX12_init_7 26 rfl) rfl
theorem dX12_init_251 : decode cX12_init 251 = .ok (.aload_n 0, 1) := dq_42 (kX12_init_7 27 rfl)
theorem dX12_init_252 : decode cX12_init 252 = .ok (.bipush 12, 2) := dq_16 (kX12_init_7 28 rfl) (kX12_init_7 29 rfl) (by decide)
theorem dX12_init_254 : decode cX12_init 254 = .ok (.newarray .int, 2) := dq_188_10 (kX12_init_7 30 rfl) (kX12_init_7 31 rfl)
theorem dX12_init_256 : decode cX12_init 256 = .ok (.putfield 103, 3) := dq_181 (kX12_init_8 0 rfl) (kX12_init_8 1 rfl) (kX12_init_8 2 rfl) rfl
theorem dX12_init_259 : decode cX12_init 259 = .ok (.aload_n 0, 1) := dq_42 (kX12_init_8 3 rfl)
theorem dX12_init_260 : decode cX12_init 260 = .ok (.bipush 12, 2) := dq_16 (kX12_init_8 4 rfl) (kX12_init_8 5 rfl) (by decide)
theorem dX12_init_262 : decode cX12_init 262 = .ok (.newarray .int, 2) := dq_188_10 (kX12_init_8 6 rfl) (kX12_init_8 7 rfl)
theorem dX12_init_264 : decode cX12_init 264 = .ok (.putfield 106, 3) := dq_181 (kX12_init_8 8 rfl) (kX12_init_8 9 rfl) (kX12_init_8 10 rfl) rfl
theorem dX12_init_267 : decode cX12_init 267 = .ok (.aload_n 0, 1) := dq_42 (kX12_init_8 11 rfl)
theorem dX12_init_268 : decode cX12_init 268 = .ok (.bipush 12, 2) := dq_16 (kX12_init_8 12 rfl) (kX12_init_8 13 rfl) (by decide)
theorem dX12_init_270 : decode cX12_init 270 = .ok (.newarray .int, 2) := dq_188_10 (kX12_init_8 14 rfl) (kX12_init_8 15 rfl)
theorem dX12_init_272 : decode cX12_init 272 = .ok (.putfield 109, 3) := dq_181 (kX12_init_8 16 rfl) (kX12_init_8 17 rfl) (kX12_init_8 18 rfl) rfl
theorem dX12_init_275 : decode cX12_init 275 = .ok (.aload_n 0, 1) := dq_42 (kX12_init_8 19 rfl)
theorem dX12_init_276 : decode cX12_init 276 = .ok (.sipush 4400, 3) := dq_17 (kX12_init_8 20 rfl) (kX12_init_8 21 rfl) (kX12_init_8 22 rfl) (by decide)
theorem dX12_init_279 : decode cX12_init 279 = .ok (.newarray .int, 2) := dq_188_10 (kX12_init_8 23 rfl) (kX12_init_8 24 rfl)
theorem dX12_init_281 : decode cX12_init 281 = .ok (.putfield 112, 3) := dq_181 (kX12_init_8 25 rfl) (kX12_init_8 26 rfl) (kX12_init_8 27 rfl) rfl
theorem dX12_init_284 : decode cX12_init 284 = .ok (.aload_n 0, 1) := dq_42 (kX12_init_8 28 rfl)
theorem dX12_init_285 : decode cX12_init 285 = .ok (.bipush 20, 2) := dq_16 (kX12_init_8 29 rfl) (kX12_init_8 30 rfl) (by decide)
theorem dX12_init_287 : decode cX12_init 287 = .ok (.newarray .int, 2) := dq_188_10 (kX12_init_8 31 rfl) (kX12_init_9 0 rfl)
theorem dX12_init_289 : decode cX12_init 289 = .ok (.putfield 115, 3) := dq_181 (kX12_init_9 1 rfl) (kX12_init_9 2 rfl) (kX12_init_9 3 rfl) rfl
theorem dX12_init_292 : decode cX12_init 292 = .ok (.aload_n 0, 1) := dq_42 (kX12_init_9 4 rfl)
theorem dX12_init_293 : decode cX12_init 293 = .ok (.bipush 20, 2) := dq_16 (kX12_init_9 5 rfl) (kX12_init_9 6 rfl) (by decide)
theorem dX12_init_295 : decode cX12_init 295 = .ok (.newarray .int, 2) := dq_188_10 (kX12_init_9 7 rfl) (kX12_init_9 8 rfl)
theorem dX12_init_297 : decode cX12_init 297 = .ok (.putfield 118, 3) := dq_181 (kX12_init_9 9 rfl) (kX12_init_9 10 rfl) (kX12_init_9 11 rfl) rfl
theorem dX12_init_300 : decode cX12_init 300 = .ok (.aload_n 0, 1) := dq_42 (kX12_init_9 12 rfl)
theorem dX12_init_301 : decode cX12_init 301 = .ok (.bipush 20, 2) := dq_16 (kX12_init_9 13 rfl) (kX12_init_9 14 rfl) (by decide)
theorem dX12_init_303 : decode cX12_init 303 = .ok (.newarray .int, 2) := dq_188_10 (kX12_init_9 15 rfl) (kX12_init_9 16 rfl)
theorem dX12_init_305 : decode cX12_init 305 = .ok (.putfield 121, 3) := dq_181 (kX12_init_9 17 rfl) (kX12_init_9 18 rfl) (kX12_init_9 19 rfl) rfl
theorem dX12_init_308 : decode cX12_init 308 = .ok (.aload_n 0, 1) := dq_42 (kX12_init_9 20 rfl)
theorem dX12_init_309 : decode cX12_init 309 = .ok (.sipush 240, 3) := dq_17 (kX12_init_9 21 rfl) (kX12_init_9 22 rfl) (kX12_init_9 23 rfl) (by decide)
theorem dX12_init_312 : decode cX12_init 312 = .ok (.newarray .int, 2) := dq_188_10 (kX12_init_9 24 rfl) (kX12_init_9 25 rfl)
theorem dX12_init_314 : decode cX12_init 314 = .ok (.putfield 124, 3) := dq_181 (kX12_init_9 26 rfl) (kX12_init_9 27 rfl) (kX12_init_9 28 rfl) rfl
theorem dX12_init_317 : decode cX12_init 317 = .ok (.aload_n 0, 1) := dq_42 (kX12_init_9 29 rfl)
theorem dX12_init_318 : decode cX12_init 318 = .ok (.sipush 240, 3) := dq_17 (kX12_init_9 30 rfl) (kX12_init_9 31 rfl) (kX12_init_10 0 rfl) (by decide)
theorem dX12_init_321 : decode cX12_init 321 = .ok (.newarray .int, 2) := dq_188_10 (kX12_init_10 1 rfl) (kX12_init_10 2 rfl)
theorem dX12_init_323 : decode cX12_init 323 = .ok (.putfield 127, 3) := dq_181 (kX12_init_10 3 rfl) (kX12_init_10 4 rfl) (kX12_init_10 5 rfl) rfl
theorem dX12_init_326 : decode cX12_init 326 = .ok (.aload_n 0, 1) := dq_42 (kX12_init_10 6 rfl)
theorem dX12_init_327 : decode cX12_init 327 = .ok (.sipush 240, 3) := dq_17 (kX12_init_10 7 rfl) (kX12_init_10 8 rfl) (kX12_init_10 9 rfl) (by decide)
theorem dX12_init_330 : decode cX12_init 330 = .ok (.newarray .int, 2) := dq_188_10 (kX12_init_10 10 rfl) (kX12_init_10 11 rfl)
theorem dX12_init_332 : decode cX12_init 332 = .ok (.putfield 130, 3) := dq_181 (kX12_init_10 12 rfl) (kX12_init_10 13 rfl) (kX12_init_10 14 rfl) rfl
theorem dX12_init_335 : decode cX12_init 335 = .ok (.aload_n 0, 1) := dq_42 (kX12_init_10 15 rfl)
theorem dX12_init_336 : decode cX12_init 336 = .ok (.sipush 240, 3) := dq_17 (kX12_init_10 16 rfl) (kX12_init_10 17 rfl) (kX12_init_10 18 rfl) (by decide)
theorem dX12_init_339 : decode cX12_init 339 = .ok (.newarray .int, 2) := dq_188_10 (kX12_init_10 19 rfl) (kX12_init_10 20 rfl)
theorem dX12_init_341 : decode cX12_init 341 = .ok (.putfield 133, 3) := dq_181 (kX12_init_10 21 rfl) (kX12_init_10 22 rfl) (kX12_init_10 23 rfl) rfl
theorem dX12_init_344 : decode cX12_init 344 = .ok (.aload_n 0, 1) := dq_42 (kX12_init_10 24 rfl)
theorem dX12_init_345 : decode cX12_init 345 = .ok (.sipush 240, 3) := dq_17 (kX12_init_10 25 rfl) (kX12_init_10 26 rfl) (kX12_init_10 27 rfl) (by decide)
theorem dX12_init_348 : decode cX12_init 348 = .ok (.newarray .int, 2) := dq_188_10 (kX12_init_10 28 rfl) (kX12_init_10 29 rfl)
theorem dX12_init_350 : decode cX12_init 350 = .ok (.putfield 136, 3) := dq_181 (kX12_init_10 30 rfl) (kX12_init_10 31 rfl) (kX12_init_11 0 rfl) rfl
theorem dX12_init_353 : decode cX12_init 353 = .ok (.aload_n 0, 1) := dq_42 (kX12_init_11 1 rfl)
theorem dX12_init_354 : decode cX12_init 354 = .ok (.sipush 240, 3) := dq_17 (kX12_init_11 2 rfl) (kX12_init_11 3 rfl) (kX12_init_11 4 rfl) (by decide)
theorem dX12_init_357 : decode cX12_init 357 = .ok (.newarray .int, 2) := dq_188_10 (kX12_init_11 5 rfl) (kX12_init_11 6 rfl)
theorem dX12_init_359 : decode cX12_init 359 = .ok (.putfield 139, 3) := dq_181 (kX12_init_11 7 rfl) (kX12_init_11 8 rfl) (kX12_init_11 9 rfl) rfl
theorem dX12_init_362 : decode cX12_init 362 = .ok (.aload_n 0, 1) := dq_42 (kX12_init_11 10 rfl)
theorem dX12_init_363 : decode cX12_init 363 = .ok (.sipush 180, 3) := dq_17 (kX12_init_11 11 rfl) (kX12_init_11 12 rfl) (kX12_init_11 13 rfl) (by decide)
theorem dX12_init_366 : decode cX12_init 366 = .ok (.newarray .int, 2) := dq_188_10 (kX12_init_11 14 rfl) (kX12_init_11 15 rfl)
theorem dX12_init_368 : decode cX12_init 368 = .ok (.putfield 142, 3) := dq_181 (kX12_init_11 16 rfl) (kX12_init_11 17 rfl) (kX12_init_11 18 rfl) rfl
theorem dX12_init_371 : decode cX12_init 371 = .ok (.aload_n 0, 1) := dq_42 (kX12_init_11 19 rfl)
theorem dX12_init_372 : decode cX12_init 372 = .ok (.sipush 2200, 3) := dq_17 (kX12_init_11 20 rfl) (kX12_init_11 21 rfl) (kX12_init_11 22 rfl) (by decide)
theorem dX12_init_375 : decode cX12_init 375 = .ok (.newarray .int, 2) := dq_188_10 (kX12_init_11 23 rfl) (kX12_init_11 24 rfl)
theorem dX12_init_377 : decode cX12_init 377 = .ok (.putfield 145, 3) := dq_181 (kX12_init_11 25 rfl) (kX12_init_11 26 rfl) (kX12_init_11 27 rfl) rfl
theorem dX12_init_380 : decode cX12_init 380 = .ok (.aload_n 0, 1) := dq_42 (kX12_init_11 28 rfl)
theorem dX12_init_381 : decode cX12_init 381 = .ok (.bipush 20, 2) := dq_16 (kX12_init_11 29 rfl) (kX12_init_11 30 rfl) (by decide)
theorem dX12_init_383 : decode cX12_init 383 = .ok (.newarray .int, 2) := dq_188_10 (kX12_init_11 31 rfl) (kX12_init_12 0 rfl)
theorem dX12_init_385 : decode cX12_init 385 = .ok (.putfield 148, 3) := dq_181 (kX12_init_12 1 rfl) (kX12_init_12 2 rfl) (kX12_init_12 3 rfl) rfl
theorem dX12_init_388 : decode cX12_init 388 = .ok (.aload_n 0, 1) := dq_42 (kX12_init_12 4 rfl)
theorem dX12_init_389 : decode cX12_init 389 = .ok (.bipush 20, 2) := dq_16 (kX12_init_12 5 rfl) (kX12_init_12 6 rfl) (by decide)
theorem dX12_init_391 : decode cX12_init 391 = .ok (.newarray .int, 2) := dq_188_10 (kX12_init_12 7 rfl) (kX12_init_12 8 rfl)
theorem dX12_init_393 : decode cX12_init 393 = .ok (.putfield 151, 3) := dq_181 (kX12_init_12 9 rfl) (kX12_init_12 10 rfl) (kX12_init_12 11 rfl) rfl
theorem dX12_init_396 : decode cX12_init 396 = .ok (.aload_n 0, 1) := dq_42 (kX12_init_12 12 rfl)
theorem dX12_init_397 : decode cX12_init 397 = .ok (.bipush 20, 2) := dq_16 (kX12_init_12 13 rfl) (kX12_init_12 14 rfl) (by decide)
theorem dX12_init_399 : decode cX12_init 399 = .ok (.newarray .int, 2) := dq_188_10 (kX12_init_12 15 rfl) (kX12_init_12 16 rfl)
theorem dX12_init_401 : decode cX12_init 401 = .ok (.putfield 154, 3) := dq_181 (kX12_init_12 17 rfl) (kX12_init_12 18 rfl) (kX12_init_12 19 rfl) rfl
theorem dX12_init_404 : decode cX12_init 404 = .ok (.aload_n 0, 1) := dq_42 (kX12_init_12 20 rfl)
theorem dX12_init_405 : decode cX12_init 405 = .ok (.bipush 20, 2) := dq_16 (kX12_init_12 21 rfl) (kX12_init_12 22 rfl) (by decide)
theorem dX12_init_407 : decode cX12_init 407 = .ok (.newarray .boolean, 2) := dq_188_4 (kX12_init_12 23 rfl) (kX12_init_12 24 rfl)
theorem dX12_init_409 : decode cX12_init 409 = .ok (.putfield 157, 3) := dq_181 (kX12_init_12 25 rfl) (kX12_init_12 26 rfl) (kX12_init_12 27 rfl) rfl
theorem dX12_init_412 : decode cX12_init 412 = .ok (.aload_n 0, 1) := dq_42 (kX12_init_12 28 rfl)
theorem dX12_init_413 : decode cX12_init 413 = .ok (.sipush 240, 3) := dq_17 (kX12_init_12 29 rfl) (kX12_init_12 30 rfl) (kX12_init_12 31 rfl) (by decide)
theorem dX12_init_416 : decode cX12_init 416 = .ok (.newarray .boolean, 2) := dq_188_4 (kX12_init_13 0 rfl) (kX12_init_13 1 rfl)
theorem dX12_init_418 : decode cX12_init 418 = .ok (.putfield 160, 3) := dq_181 (kX12_init_13 2 rfl) (kX12_init_13 3 rfl) (kX12_init_13 4 rfl) rfl
theorem dX12_init_421 : decode cX12_init 421 = .ok (.aload_n 0, 1) := dq_42 (kX12_init_13 5 rfl)
theorem dX12_init_422 : decode cX12_init 422 = .ok (.bipush 100, 2) := dq_16 (kX12_init_13 6 rfl) (kX12_init_13 7 rfl) (by decide)
theorem dX12_init_424 : decode cX12_init 424 = .ok (.newarray .int, 2) := dq_188_10 (kX12_init_13 8 rfl) (kX12_init_13 9 rfl)
theorem dX12_init_426 : decode cX12_init 426 = .ok (.putfield 163, 3) := dq_181 (kX12_init_13 10 rfl) (kX12_init_13 11 rfl) (kX12_init_13 12 rfl) rfl
theorem dX12_init_429 : decode cX12_init 429 = .ok (.aload_n 0, 1) := dq_42 (kX12_init_13 13 rfl)
theorem dX12_init_430 : decode cX12_init 430 = .ok (.bipush 100, 2) := dq_16 (kX12_init_13 14 rfl) (kX12_init_13 15 rfl) (by decide)
theorem dX12_init_432 : decode cX12_init 432 = .ok (.newarray .int, 2) := dq_188_10 (kX12_init_13 16 rfl) (kX12_init_13 17 rfl)
theorem dX12_init_434 : decode cX12_init 434 = .ok (.putfield 166, 3) := dq_181 (kX12_init_13 18 rfl) (kX12_init_13 19 rfl) (kX12_init_13 20 rfl) rfl
theorem dX12_init_437 : decode cX12_init 437 = .ok (.aload_n 0, 1) := dq_42 (kX12_init_13 21 rfl)
theorem dX12_init_438 : decode cX12_init 438 = .ok (.bipush 100, 2) := dq_16 (kX12_init_13 22 rfl) (kX12_init_13 23 rfl) (by decide)
theorem dX12_init_440 : decode cX12_init 440 = .ok (.newarray .int, 2) := dq_188_10 (kX12_init_13 24 rfl) (kX12_init_13 25 rfl)
theorem dX12_init_442 : decode cX12_init 442 = .ok (.putfield 169, 3) := dq_181 (kX12_init_13 26 rfl) (kX12_init_13 27 rfl) (kX12_init_13 28 rfl) rfl
theorem dX12_init_445 : decode cX12_init 445 = .ok (.aload_n 0, 1) := dq_42 (kX12_init_13 29 rfl)
theorem dX12_init_446 : decode cX12_init 446 = .ok (.bipush 100, 2) := dq_16 (kX12_init_13 30 rfl) (kX12_init_13 31 rfl) (by decide)
theorem dX12_init_448 : decode cX12_init 448 = .ok (.newarray .int, 2) := dq_188_10 (kX12_init_14 0 rfl) (kX12_init_14 1 rfl)
theorem dX12_init_450 : decode cX12_init 450 = .ok (.putfield 172, 3) := dq_181 (kX12_init_14 2 rfl) (kX12_init_14 3 rfl) (kX12_init_14 4 rfl) rfl
theorem dX12_init_453 : decode cX12_init 453 = .ok (.aload_n 0, 1) := dq_42 (kX12_init_14 5 rfl)
theorem dX12_init_454 : decode cX12_init 454 = .ok (.bipush 100, 2) := dq_16 (kX12_init_14 6 rfl) (kX12_init_14 7 rfl) (by decide)
theorem dX12_init_456 : decode cX12_init 456 = .ok (.newarray .int, 2) := dq_188_10 (kX12_init_14 8 rfl) (kX12_init_14 9 rfl)
theorem dX12_init_458 : decode cX12_init 458 = .ok (.putfield 175, 3) := dq_181 (kX12_init_14 10 rfl) (kX12_init_14 11 rfl) (kX12_init_14 12 rfl) rfl
theorem dX12_init_461 : decode cX12_init 461 = .ok (.aload_n 0, 1) := dq_42 (kX12_init_14 13 rfl)
theorem dX12_init_462 : decode cX12_init 462 = .ok (.bipush 100, 2) := dq_16 (kX12_init_14 14 rfl) (kX12_init_14 15 rfl) (by decide)
theorem dX12_init_464 : decode cX12_init 464 = .ok (.newarray .int, 2) := dq_188_10 (kX12_init_14 16 rfl) (kX12_init_14 17 rfl)
theorem dX12_init_466 : decode cX12_init 466 = .ok (.putfield 178, 3) := dq_181 (kX12_init_14 18 rfl) (kX12_init_14 19 rfl) (kX12_init_14 20 rfl) rfl
theorem dX12_init_469 : decode cX12_init 469 = .ok (.aload_n 0, 1) := dq_42 (kX12_init_14 21 rfl)
theorem dX12_init_470 : decode cX12_init 470 = .ok (.bipush 100, 2) := dq_16 (kX12_init_14 22 rfl) (kX12_init_14 23 rfl) (by decide)
theorem dX12_init_472 : decode cX12_init 472 = .ok (.newarray .int, 2) := dq_188_10 (kX12_init_14 24 rfl) (kX12_init_14 25 rfl)
theorem dX12_init_474 : decode cX12_init 474 = .ok (.putfield 181, 3) := dq_181 (kX12_init_14 26 rfl) (kX12_init_14 27 rfl) (kX12_init_14 28 rfl) rfl
theorem dX12_init_477 : decode cX12_init 477 = .ok (.aload_n 0, 1) := dq_42 (kX12_init_14 29 rfl)
theorem dX12_init_478 : decode cX12_init 478 = .ok (.bipush 100, 2) := dq_16 (kX12_init_14 30 rfl) (kX12_init_14 31 rfl) (by decide)
theorem dX12_init_480 : decode cX12_init 480 = .ok (.newarray .int, 2) := dq_188_10 (kX12_init_15 0 rfl) (kX12_init_15 1 rfl)
theorem dX12_init_482 : decode cX12_init 482 = .ok (.putfield 184, 3) := dq_181 (kX12_init_15 2 rfl) (kX12_init_15 3 rfl) (kX12_init_15 4 rfl) rfl
theorem dX12_init_485 : decode cX12_init 485 = .ok (.aload_n 0, 1) := dq_42 (kX12_init_15 5 rfl)
theorem dX12_init_486 : decode cX12_init 486 = .ok (.bipush 100, 2) := dq_16 (kX12_init_15 6 rfl) (kX12_init_15 7 rfl) (by decide)
theorem dX12_init_488 : decode cX12_init 488 = .ok (.newarray .int, 2) := dq_188_10 (kX12_init_15 8 rfl) (kX12_init_15 9 rfl)
theorem dX12_init_490 : decode cX12_init 490 = .ok (.putfield 187, 3) := dq_181 (kX12_init_15 10 rfl) (kX12_init_15 11 rfl) (kX12_init_15 12 rfl) rfl
theorem dX12_init_493 : decode cX12_init 493 = .ok (.aload_n 0, 1) := dq_42 (kX12_init_15 13 rfl)
theorem dX12_init_494 : decode cX12_init 494 = .ok (.bipush 100, 2) := dq_16 (kX12_init_15 14 rfl) (kX12_init_15 15 rfl) (by decide)
theorem dX12_init_496 : decode cX12_init 496 = .ok (.newarray .int, 2) := dq_188_10 (kX12_init_15 16 rfl) (kX12_init_15 17 rfl)
theorem dX12_init_498 : decode cX12_init 498 = .ok (.putfield 190, 3) := dq_181 (kX12_init_15 18 rfl) (kX12_init_15 19 rfl) (kX12_init_15 20 rfl) rfl
theorem dX12_init_501 : decode cX12_init 501 = .ok (.aload_n 0, 1) := dq_42 (kX12_init_15 21 rfl)
theorem dX12_init_502 : decode cX12_init 502 = .ok (.bipush 100, 2) := dq_16 (kX12_init_15 22 rfl) (kX12_init_15 23 rfl) (by decide)
theorem dX12_init_504 : decode cX12_init 504 = .ok (.newarray .int, 2) := dq_188_10 (kX12_init_15 24 rfl) (kX12_init_15 25 rfl)
theorem dX12_init_506 : decode cX12_init 506 = .ok (.putfield 193, 3) := dq_181 (kX12_init_15 26 rfl) (kX12_init_15 27 rfl) (kX12_init_15 28 rfl) rfl
theorem dX12_init_509 : decode cX12_init 509 = .ok (.aload_n 0, 1) := dq_42 (kX12_init_15 29 rfl)
theorem dX12_init_510 : decode cX12_init 510 = .ok (.bipush 100, 2) := dq_16 (kX12_init_15 30 rfl) (kX12_init_15 31 rfl) (by decide)
theorem dX12_init_512 : decode cX12_init 512 = .ok (.newarray .int, 2) := dq_188_10 (kX12_init_16 0 rfl) (kX12_init_16 1 rfl)
theorem dX12_init_514 : decode cX12_init 514 = .ok (.putfield 196, 3) := dq_181 (kX12_init_16 2 rfl) (kX12_init_16 3 rfl) (kX12_init_16 4 rfl) rfl
theorem dX12_init_517 : decode cX12_init 517 = .ok (.aload_n 0, 1) := dq_42 (kX12_init_16 5 rfl)
theorem dX12_init_518 : decode cX12_init 518 = .ok (.bipush 100, 2) := dq_16 (kX12_init_16 6 rfl) (kX12_init_16 7 rfl) (by decide)
theorem dX12_init_520 : decode cX12_init 520 = .ok (.newarray .int, 2) := dq_188_10 (kX12_init_16 8 rfl) (kX12_init_16 9 rfl)
theorem dX12_init_522 : decode cX12_init 522 = .ok (.putfield 199, 3) := dq_181 (kX12_init_16 10 rfl) (kX12_init_16 11 rfl) (kX12_init_16 12 rfl) rfl
theorem dX12_init_525 : decode cX12_init 525 = .ok (.aload_n 0, 1) := dq_42 (kX12_init_16 13 rfl)
theorem dX12_init_526 : decode cX12_init 526 = .ok (.sipush 900, 3) := dq_17 (kX12_init_16 14 rfl) (kX12_init_16 15 rfl) (kX12_init_16 16 rfl) (by decide)
theorem dX12_init_529 : decode cX12_init 529 = .ok (.newarray .int, 2) := dq_188_10 (kX12_init_16 17 rfl) (kX12_init_16 18 rfl)
theorem dX12_init_531 : decode cX12_init 531 = .ok (.putfield 202, 3) := dq_181 (kX12_init_16 19 rfl) (kX12_init_16 20 rfl) (kX12_init_16 21 rfl) rfl
theorem dX12_init_534 : decode cX12_init 534 = .ok (.aload_n 0, 1) := dq_42 (kX12_init_16 22 rfl)
theorem dX12_init_535 : decode cX12_init 535 = .ok (.sipush 220, 3) := dq_17 (kX12_init_16 23 rfl) (kX12_init_16 24 rfl) (kX12_init_16 25 rfl) (by decide)
theorem dX12_init_538 : decode cX12_init 538 = .ok (.newarray .int, 2) := dq_188_10 (kX12_init_16 26 rfl) (kX12_init_16 27 rfl)
theorem dX12_init_540 : decode cX12_init 540 = .ok (.putfield 205, 3) := dq_181 (kX12_init_16 28 rfl) (kX12_init_16 29 rfl) (kX12_init_16 30 rfl) rfl
theorem dX12_init_543 : decode cX12_init 543 = .ok (.aload_n 0, 1) := dq_42 (kX12_init_16 31 rfl)
theorem dX12_init_544 : decode cX12_init 544 = .ok (.bipush 10, 2) := dq_16 (kX12_init_17 0 rfl) (kX12_init_17 1 rfl) (by decide)
theorem dX12_init_546 : decode cX12_init 546 = .ok (.newarray .int, 2) := dq_188_10 (kX12_init_17 2 rfl) (kX12_init_17 3 rfl)
theorem dX12_init_548 : decode cX12_init 548 = .ok (.putfield 208, 3) := dq_181 (kX12_init_17 4 rfl) (kX12_init_17 5 rfl) (kX12_init_17 6 rfl) rfl
theorem dX12_init_551 : decode cX12_init 551 = .ok (.aload_n 0, 1) := dq_42 (kX12_init_17 7 rfl)
theorem dX12_init_552 : decode cX12_init 552 = .ok (.bipush 10, 2) := dq_16 (kX12_init_17 8 rfl) (kX12_init_17 9 rfl) (by decide)
theorem dX12_init_554 : decode cX12_init 554 = .ok (.newarray .int, 2) := dq_188_10 (kX12_init_17 10 rfl) (kX12_init_17 11 rfl)
theorem dX12_init_556 : decode cX12_init 556 = .ok (.putfield 211, 3) := dq_181 (kX12_init_17 12 rfl) (kX12_init_17 13 rfl) (kX12_init_17 14 rfl) rfl
theorem dX12_init_559 : decode cX12_init 559 = .ok (.aload_n 0, 1) := dq_42 (kX12_init_17 15 rfl)
theorem dX12_init_560 : decode cX12_init 560 = .ok (.bipush 10, 2) := dq_16 (kX12_init_17 16 rfl) (kX12_init_17 17 rfl) (by decide)
theorem dX12_init_562 : decode cX12_init 562 = .ok (.newarray .int, 2) := dq_188_10 (kX12_init_17 18 rfl) (kX12_init_17 19 rfl)
theorem dX12_init_564 : decode cX12_init 564 = .ok (.putfield 214, 3) := dq_181 (kX12_init_17 20 rfl) (kX12_init_17 21 rfl) (kX12_init_17 22 rfl) rfl
theorem dX12_init_567 : decode cX12_init 567 = .ok (.aload_n 0, 1) := dq_42 (kX12_init_17 23 rfl)
theorem dX12_init_568 : decode cX12_init 568 = .ok (.bipush 10, 2) := dq_16 (kX12_init_17 24 rfl) (kX12_init_17 25 rfl) (by decide)
theorem dX12_init_570 : decode cX12_init 570 = .ok (.newarray .int, 2) := dq_188_10 (kX12_init_17 26 rfl) (kX12_init_17 27 rfl)
theorem dX12_init_572 : decode cX12_init 572 = .ok (.putfield 217, 3) := dq_181 (kX12_init_17 28 rfl) (kX12_init_17 29 rfl) (kX12_init_17 30 rfl) rfl
theorem dX12_init_575 : decode cX12_init 575 = .ok (.aload_n 0, 1) := dq_42 (kX12_init_17 31 rfl)
theorem dX12_init_576 : decode cX12_init 576 = .ok (.bipush 10, 2) := dq_16 (kX12_init_18 0 rfl) (kX12_init_18 1 rfl) (by decide)
theorem dX12_init_578 : decode cX12_init 578 = .ok (.newarray .int, 2) := dq_188_10 (kX12_init_18 2 rfl) (kX12_init_18 3 rfl)
theorem dX12_init_580 : decode cX12_init 580 = .ok (.putfield 220, 3) := dq_181 (kX12_init_18 4 rfl) (kX12_init_18 5 rfl) (kX12_init_18 6 rfl) rfl
theorem dX12_init_583 : decode cX12_init 583 = .ok (.aload_n 0, 1) := dq_42 (kX12_init_18 7 rfl)
theorem dX12_init_584 : decode cX12_init 584 = .ok (.bipush 10, 2) := dq_16 (kX12_init_18 8 rfl) (kX12_init_18 9 rfl) (by decide)
theorem dX12_init_586 : decode cX12_init 586 = .ok (.newarray .int, 2) := dq_188_10 (kX12_init_18 10 rfl) (kX12_init_18 11 rfl)
theorem dX12_init_588 : decode cX12_init 588 = .ok (.putfield 223, 3) := dq_181 (kX12_init_18 12 rfl) (kX12_init_18 13 rfl) (kX12_init_18 14 rfl) rfl
theorem dX12_init_591 : decode cX12_init 591 = .ok (.aload_n 0, 1) := dq_42 (kX12_init_18 15 rfl)
theorem dX12_init_592 : decode cX12_init 592 = .ok (.bipush 10, 2) := dq_16 (kX12_init_18 16 rfl) (kX12_init_18 17 rfl) (by decide)
theorem dX12_init_594 : decode cX12_init 594 = .ok (.newarray .int, 2) := dq_188_10 (kX12_init_18 18 rfl) (kX12_init_18 19 rfl)
theorem dX12_init_596 : decode cX12_init 596 = .ok (.putfield 226, 3) := dq_181 (kX12_init_18 20 rfl) (kX12_init_18 21 rfl) (kX12_init_18 22 rfl) rfl
theorem dX12_init_599 : decode cX12_init 599 = .ok (.aload_n 0, 1) := dq_42 (kX12_init_18 23 rfl)
theorem dX12_init_600 : decode cX12_init 600 = .ok (.bipush 10, 2) := dq_16 (kX12_init_18 24 rfl) (kX12_init_18 25 rfl) (by decide)
theorem dX12_init_602 : decode cX12_init 602 = .ok (.newarray .int, 2) := dq_188_10 (kX12_init_18 26 rfl) (kX12_init_18 27 rfl)
theorem dX12_init_604 : decode cX12_init 604 = .ok (.putfield 229, 3) := dq_181 (kX12_init_18 28 rfl) (kX12_init_18 29 rfl) (kX12_init_18 30 rfl) rfl
theorem dX12_init_607 : decode cX12_init 607 = .ok (.aload_n 0, 1) := dq_42 (kX12_init_18 31 rfl)
theorem dX12_init_608 : decode cX12_init 608 = .ok (.bipush 10, 2) := dq_16 (kX12_init_19 0 rfl) (kX12_init_19 1 rfl) (by decide)
theorem dX12_init_610 : decode cX12_init 610 = .ok (.newarray .int, 2) := dq_188_10 (kX12_init_19 2 rfl) (kX12_init_19 3 rfl)
theorem dX12_init_612 : decode cX12_init 612 = .ok (.putfield 232, 3) := dq_181 (kX12_init_19 4 rfl) (kX12_init_19 5 rfl) (kX12_init_19 6 rfl) rfl
theorem dX12_init_615 : decode cX12_init 615 = .ok (.aload_n 0, 1) := dq_42 (kX12_init_19 7 rfl)
theorem dX12_init_616 : decode cX12_init 616 = .ok (.bipush 10, 2) := dq_16 (kX12_init_19 8 rfl) (kX12_init_19 9 rfl) (by decide)
theorem dX12_init_618 : decode cX12_init 618 = .ok (.newarray .int, 2) := dq_188_10 (kX12_init_19 10 rfl) (kX12_init_19 11 rfl)
theorem dX12_init_620 : decode cX12_init 620 = .ok (.putfield 235, 3) := dq_181 (kX12_init_19 12 rfl) (kX12_init_19 13 rfl) (kX12_init_19 14 rfl) rfl
theorem dX12_init_623 : decode cX12_init 623 = .ok (.aload_n 0, 1) := dq_42 (kX12_init_19 15 rfl)
theorem dX12_init_624 : decode cX12_init 624 = .ok (.bipush 10, 2) := dq_16 (kX12_init_19 16 rfl) (kX12_init_19 17 rfl) (by decide)
theorem dX12_init_626 : decode cX12_init 626 = .ok (.newarray .int, 2) := dq_188_10 (kX12_init_19 18 rfl) (kX12_init_19 19 rfl)
theorem dX12_init_628 : decode cX12_init 628 = .ok (.putfield 238, 3) := dq_181 (kX12_init_19 20 rfl) (kX12_init_19 21 rfl) (kX12_init_19 22 rfl) rfl
theorem dX12_init_631 : decode cX12_init 631 = .ok (.aload_n 0, 1) := dq_42 (kX12_init_19 23 rfl)
theorem dX12_init_632 : decode cX12_init 632 = .ok (.bipush 48, 2) := dq_16 (kX12_init_19 24 rfl) (kX12_init_19 25 rfl) (by decide)
theorem dX12_init_634 : decode cX12_init 634 = .ok (.newarray .int, 2) := dq_188_10 (kX12_init_19 26 rfl) (kX12_init_19 27 rfl)
theorem dX12_init_636 : decode cX12_init 636 = .ok (.putfield 241, 3) := dq_181 (kX12_init_19 28 rfl) (kX12_init_19 29 rfl) (kX12_init_19 30 rfl) rfl
theorem dX12_init_639 : decode cX12_init 639 = .ok (.aload_n 0, 1) := dq_42 (kX12_init_19 31 rfl)
theorem dX12_init_640 : decode cX12_init 640 = .ok (.iconst 4, 1) := dq_7 (kX12_init_20 0 rfl)
theorem dX12_init_641 : decode cX12_init 641 = .ok (.newarray .int, 2) := dq_188_10 (kX12_init_20 1 rfl) (kX12_init_20 2 rfl)
theorem dX12_init_643 : decode cX12_init 643 = .ok (.putfield 244, 3) := dq_181 (kX12_init_20 3 rfl) (kX12_init_20 4 rfl) (kX12_init_20 5 rfl) rfl
theorem dX12_init_646 : decode cX12_init 646 = .ok (.aload_n 0, 1) := dq_42 (kX12_init_20 6 rfl)
theorem dX12_init_647 : decode cX12_init 647 = .ok (.bipush 40, 2) := dq_16 (kX12_init_20 7 rfl) (kX12_init_20 8 rfl) (by decide)
theorem dX12_init_649 : decode cX12_init 649 = .ok (.newarray .int, 2) := dq_188_10 (kX12_init_20 9 rfl) (kX12_init_20 10 rfl)
theorem dX12_init_651 : decode cX12_init 651 = .ok (.putfield 247, 3) := dq_181 (kX12_init_20 11 rfl) (kX12_init_20 12 rfl) (kX12_init_20 13 rfl) rfl
theorem dX12_init_654 : decode cX12_init 654 = .ok (.aload_n 0, 1) := dq_42 (kX12_init_20 14 rfl)
theorem dX12_init_655 : decode cX12_init 655 = .ok (.bipush 40, 2) := dq_16 (kX12_init_20 15 rfl) (kX12_init_20 16 rfl) (by decide)
theorem dX12_init_657 : decode cX12_init 657 = .ok (.newarray .int, 2) := dq_188_10 (kX12_init_20 17 rfl) (kX12_init_20 18 rfl)
theorem dX12_init_659 : decode cX12_init 659 = .ok (.putfield 250, 3) := dq_181 (kX12_init_20 19 rfl) (kX12_init_20 20 rfl) (kX12_init_20 21 rfl) rfl
theorem dX12_init_662 : decode cX12_init 662 = .ok (.aload_n 0, 1) := dq_42 (kX12_init_20 22 rfl)
theorem dX12_init_663 : decode cX12_init 663 = .ok (.bipush 40, 2) := dq_16 (kX12_init_20 23 rfl) (kX12_init_20 24 rfl) (by decide)
theorem dX12_init_665 : decode cX12_init 665 = .ok (.newarray .int, 2) := dq_188_10 (kX12_init_20 25 rfl) (kX12_init_20 26 rfl)
theorem dX12_init_667 : decode cX12_init 667 = .ok (.putfield 253, 3) := dq_181 (kX12_init_20 27 rfl) (kX12_init_20 28 rfl) (kX12_init_20 29 rfl) rfl
theorem dX12_init_670 : decode cX12_init 670 = .ok (.aload_n 0, 1) := dq_42 (kX12_init_20 30 rfl)
theorem dX12_init_671 : decode cX12_init 671 = .ok (.bipush 40, 2) := dq_16 (kX12_init_20 31 rfl) (kX12_init_21 0 rfl) (by decide)
theorem dX12_init_673 : decode cX12_init 673 = .ok (.newarray .int, 2) := dq_188_10 (kX12_init_21 1 rfl) (kX12_init_21 2 rfl)
theorem dX12_init_675 : decode cX12_init 675 = .ok (.putfield 256, 3) := dq_181 (kX12_init_21 3 rfl) (kX12_init_21 4 rfl) (kX12_init_21 5 rfl) rfl
theorem dX12_init_678 : decode cX12_init 678 = .ok (.aload_n 0, 1) := dq_42 (kX12_init_21 6 rfl)
theorem dX12_init_679 : decode cX12_init 679 = .ok (.bipush 40, 2) := dq_16 (kX12_init_21 7 rfl) (kX12_init_21 8 rfl) (by decide)
theorem dX12_init_681 : decode cX12_init 681 = .ok (.newarray .boolean, 2) := dq_188_4 (kX12_init_21 9 rfl) (kX12_init_21 10 rfl)
theorem dX12_init_683 : decode cX12_init 683 = .ok (.putfield 259, 3) := dq_181 (kX12_init_21 11 rfl) (kX12_init_21 12 rfl) (kX12_init_21 13 rfl) rfl
theorem dX12_init_686 : decode cX12_init 686 = .ok (.aload_n 0, 1) := dq_42 (kX12_init_21 14 rfl)
theorem dX12_init_687 : decode cX12_init 687 = .ok (.bipush 60, 2) := dq_16 (kX12_init_21 15 rfl) (kX12_init_21 16 rfl) (by decide)
theorem dX12_init_689 : decode cX12_init 689 = .ok (.newarray .int, 2) := dq_188_10 (kX12_init_21 17 rfl) (kX12_init_21 18 rfl)
theorem dX12_init_691 : decode cX12_init 691 = .ok (.putfield 262, 3) := dq_181 (kX12_init_21 19 rfl) (kX12_init_21 20 rfl) (kX12_init_21 21 rfl) rfl
theorem dX12_init_694 : decode cX12_init 694 = .ok (.aload_n 0, 1) := dq_42 (kX12_init_21 22 rfl)
theorem dX12_init_695 : decode cX12_init 695 = .ok (.bipush 60, 2) := dq_16 (kX12_init_21 23 rfl) (kX12_init_21 24 rfl) (by decide)
theorem dX12_init_697 : decode cX12_init 697 = .ok (.newarray .int, 2) := dq_188_10 (kX12_init_21 25 rfl) (kX12_init_21 26 rfl)
theorem dX12_init_699 : decode cX12_init 699 = .ok (.putfield 265, 3) := dq_181 (kX12_init_21 27 rfl) (kX12_init_21 28 rfl) (kX12_init_21 29 rfl) rfl
theorem dX12_init_702 : decode cX12_init 702 = .ok (.aload_n 0, 1) := dq_42 (kX12_init_21 30 rfl)
theorem dX12_init_703 : decode cX12_init 703 = .ok (.bipush 60, 2) := dq_16 (kX12_init_21 31 rfl) (kX12_init_22 0 rfl) (by decide)
theorem dX12_init_705 : decode cX12_init 705 = .ok (.newarray .int, 2) := dq_188_10 (kX12_init_22 1 rfl) (kX12_init_22 2 rfl)
theorem dX12_init_707 : decode cX12_init 707 = .ok (.putfield 268, 3) := dq_181 (kX12_init_22 3 rfl) (kX12_init_22 4 rfl) (kX12_init_22 5 rfl) rfl
theorem dX12_init_710 : decode cX12_init 710 = .ok (.aload_n 0, 1) := dq_42 (kX12_init_22 6 rfl)
theorem dX12_init_711 : decode cX12_init 711 = .ok (.bipush 60, 2) := dq_16 (kX12_init_22 7 rfl) (kX12_init_22 8 rfl) (by decide)
theorem dX12_init_713 : decode cX12_init 713 = .ok (.newarray .int, 2) := dq_188_10 (kX12_init_22 9 rfl) (kX12_init_22 10 rfl)
theorem dX12_init_715 : decode cX12_init 715 = .ok (.putfield 271, 3) := dq_181 (kX12_init_22 11 rfl) (kX12_init_22 12 rfl) (kX12_init_22 13 rfl) rfl
theorem dX12_init_718 : decode cX12_init 718 = .ok (.aload_n 0, 1) := dq_42 (kX12_init_22 14 rfl)
theorem dX12_init_719 : decode cX12_init 719 = .ok (.bipush 60, 2) := dq_16 (kX12_init_22 15 rfl) (kX12_init_22 16 rfl) (by decide)
theorem dX12_init_721 : decode cX12_init 721 = .ok (.newarray .int, 2) := dq_188_10 (kX12_init_22 17 rfl) (kX12_init_22 18 rfl)
theorem dX12_init_723 : decode cX12_init 723 = .ok (.putfield 274, 3) := dq_181 (kX12_init_22 19 rfl) (kX12_init_22 20 rfl) (kX12_init_22 21 rfl) rfl
theorem dX12_init_726 : decode cX12_init 726 = .ok (.aload_n 0, 1) := dq_42 (kX12_init_22 22 rfl)
theorem dX12_init_727 : decode cX12_init 727 = .ok (.sipush 144, 3) := dq_17 (kX12_init_22 23 rfl) (kX12_init_22 24 rfl) (kX12_init_22 25 rfl) (by decide)
theorem dX12_init_730 : decode cX12_init 730 = .ok (.newarray .int, 2) := dq_188_10 (kX12_init_22 26 rfl) (kX12_init_22 27 rfl)
theorem dX12_init_732 : decode cX12_init 732 = .ok (.putfield 277, 3) := dq_181 (kX12_init_22 28 rfl) (kX12_init_22 29 rfl) (kX12_init_22 30 rfl) rfl
theorem dX12_init_735 : decode cX12_init 735 = .ok (.aload_n 0, 1) := dq_42 (kX12_init_22 31 rfl)
theorem dX12_init_736 : decode cX12_init 736 = .ok (.bipush 100, 2) := dq_16 (kX12_init_23 0 rfl) (kX12_init_23 1 rfl) (by decide)
theorem dX12_init_738 : decode cX12_init 738 = .ok (.putfield 280, 3) := dq_181 (kX12_init_23 2 rfl) (kX12_init_23 3 rfl) (kX12_init_23 4 rfl) rfl
theorem dX12_init_741 : decode cX12_init 741 = .ok (.aload_n 0, 1) := dq_42 (kX12_init_23 5 rfl)
theorem dX12_init_742 : decode cX12_init 742 = .ok (.bipush 60, 2) := dq_16 (kX12_init_23 6 rfl) (kX12_init_23 7 rfl) (by decide)
theorem dX12_init_744 : decode cX12_init 744 = .ok (.newarray .int, 2) := dq_188_10 (kX12_init_23 8 rfl) (kX12_init_23 9 rfl)
theorem dX12_init_746 : decode cX12_init 746 = .ok (.putfield 283, 3) := dq_181 (kX12_init_23 10 rfl) (kX12_init_23 11 rfl) (kX12_init_23 12 rfl) rfl
theorem dX12_init_749 : decode cX12_init 749 = .ok (.aload_n 0, 1) := dq_42 (kX12_init_23 13 rfl)
theorem dX12_init_750 : decode cX12_init 750 = .ok (.sipush 480, 3) := dq_17 (kX12_init_23 14 rfl) (kX12_init_23 15 rfl) (kX12_init_23 16 rfl) (by decide)
theorem dX12_init_753 : decode cX12_init 753 = .ok (.newarray .int, 2) := dq_188_10 (kX12_init_23 17 rfl) (kX12_init_23 18 rfl)
theorem dX12_init_755 : decode cX12_init 755 = .ok (.putfield 286, 3) := dq_181 (kX12_init_23 19 rfl) (kX12_init_23 20 rfl) (kX12_init_23 21 rfl) rfl
theorem dX12_init_758 : decode cX12_init 758 = .ok (.aload_n 0, 1) := dq_42 (kX12_init_23 22 rfl)
theorem dX12_init_759 : decode cX12_init 759 = .ok (.sipush 480, 3) := dq_17 (kX12_init_23 23 rfl) (kX12_init_23 24 rfl) (kX12_init_23 25 rfl) (by decide)
theorem dX12_init_762 : decode cX12_init 762 = .ok (.newarray .int, 2) := dq_188_10 (kX12_init_23 26 rfl) (kX12_init_23 27 rfl)
theorem dX12_init_764 : decode cX12_init 764 = .ok (.putfield 289, 3) := dq_181 (kX12_init_23 28 rfl) (kX12_init_23 29 rfl) (kX12_init_23 30 rfl) rfl
theorem dX12_init_767 : decode cX12_init 767 = .ok (.aload_n 0, 1) := dq_42 (kX12_init_23 31 rfl)
theorem dX12_init_768 : decode cX12_init 768 = .ok (.bipush 10, 2) := dq_16 (kX12_init_24 0 rfl) (kX12_init_24 1 rfl) (by decide)
theorem dX12_init_770 : decode cX12_init 770 = .ok (.newarray .int, 2) := dq_188_10 (kX12_init_24 2 rfl) (kX12_init_24 3 rfl)
theorem dX12_init_772 : decode cX12_init 772 = .ok (.putfield 292, 3) := dq_181 (kX12_init_24 4 rfl) (kX12_init_24 5 rfl) (kX12_init_24 6 rfl) rfl
theorem dX12_init_775 : decode cX12_init 775 = .ok (.aload_n 0, 1) := dq_42 (kX12_init_24 7 rfl)
theorem dX12_init_776 : decode cX12_init 776 = .ok (.bipush 10, 2) := dq_16 (kX12_init_24 8 rfl) (kX12_init_24 9 rfl) (by decide)
theorem dX12_init_778 : decode cX12_init 778 = .ok (.newarray .int, 2) := dq_188_10 (kX12_init_24 10 rfl) (kX12_init_24 11 rfl)
theorem dX12_init_780 : decode cX12_init 780 = .ok (.putfield 295, 3) := dq_181 (kX12_init_24 12 rfl) (kX12_init_24 13 rfl) (kX12_init_24 14 rfl) rfl
theorem dX12_init_783 : decode cX12_init 783 = .ok (.aload_n 0, 1) := dq_42 (kX12_init_24 15 rfl)
theorem dX12_init_784 : decode cX12_init 784 = .ok (.bipush 10, 2) := dq_16 (kX12_init_24 16 rfl) (kX12_init_24 17 rfl) (by decide)
theorem dX12_init_786 : decode cX12_init 786 = .ok (.newarray .int, 2) := dq_188_10 (kX12_init_24 18 rfl) (kX12_init_24 19 rfl)
theorem dX12_init_788 : decode cX12_init 788 = .ok (.putfield 298, 3) := dq_181 (kX12_init_24 20 rfl) (kX12_init_24 21 rfl) (kX12_init_24 22 rfl) rfl
theorem dX12_init_791 : decode cX12_init 791 = .ok (.aload_n 0, 1) := dq_42 (kX12_init_24 23 rfl)
theorem dX12_init_792 : decode cX12_init 792 = .ok (.bipush 10, 2) := dq_16 (kX12_init_24 24 rfl) (kX12_init_24 25 rfl) (by decide)
theorem dX12_init_794 : decode cX12_init 794 = .ok (.newarray .int, 2) := dq_188_10 (kX12_init_24 26 rfl) (kX12_init_24 27 rfl)
theorem dX12_init_796 : decode cX12_init 796 = .ok (.putfield 301, 3) := dq_181 (kX12_init_24 28 rfl) (kX12_init_24 29 rfl) (kX12_init_24 30 rfl) rfl
theorem dX12_init_799 : decode cX12_init 799 = .ok (.aload_n 0, 1) := dq_42 (kX12_init_24 31 rfl)
theorem dX12_init_800 : decode cX12_init 800 = .ok (.sipush 200, 3) := dq_17 (kX12_init_25 0 rfl) (kX12_init_25 1 rfl) (kX12_init_25 2 rfl) (by decide)
theorem dX12_init_803 : decode cX12_init 803 = .ok (.newarray .int, 2) := dq_188_10 (kX12_init_25 3 rfl) (kX12_init_25 4 rfl)
theorem dX12_init_805 : decode cX12_init 805 = .ok (.putfield 304, 3) := dq_181 (kX12_init_25 5 rfl) (kX12_init_25 6 rfl) (kX12_init_25 7 rfl) rfl
theorem dX12_init_808 : decode cX12_init 808 = .ok (.aload_n 0, 1) := dq_42 (kX12_init_25 8 rfl)
theorem dX12_init_809 : decode cX12_init 809 = .ok (.sipush 200, 3) := dq_17 (kX12_init_25 9 rfl) (kX12_init_25 10 rfl) (kX12_init_25 11 rfl) (by decide)
theorem dX12_init_812 : decode cX12_init 812 = .ok (.newarray .int, 2) := dq_188_10 (kX12_init_25 12 rfl) (kX12_init_25 13 rfl)
theorem dX12_init_814 : decode cX12_init 814 = .ok (.putfield 307, 3) := dq_181 (kX12_init_25 14 rfl) (kX12_init_25 15 rfl) (kX12_init_25 16 rfl) rfl
theorem dX12_init_817 : decode cX12_init 817 = .ok (.aload_n 0, 1) := dq_42 (kX12_init_25 17 rfl)
theorem dX12_init_818 : decode cX12_init 818 = .ok (.sipush 200, 3) := dq_17 (kX12_init_25 18 rfl) (kX12_init_25 19 rfl) (kX12_init_25 20 rfl) (by decide)
theorem dX12_init_821 : decode cX12_init 821 = .ok (.newarray .int, 2) := dq_188_10 (kX12_init_25 21 rfl) (kX12_init_25 22 rfl)
theorem dX12_init_823 : decode cX12_init 823 = .ok (.putfield 310, 3) := dq_181 (kX12_init_25 23 rfl) (kX12_init_25 24 rfl) (kX12_init_25 25 rfl) rfl
theorem dX12_init_826 : decode cX12_init 826 = .ok (.aload_n 0, 1) := dq_42 (kX12_init_25 26 rfl)
theorem dX12_init_827 : decode cX12_init 827 = .ok (.sipush 200, 3) := dq_17 (kX12_init_25 27 rfl) (kX12_init_25 28 rfl) (kX12_init_25 29 rfl) (by decide)
theorem dX12_init_830 : decode cX12_init 830 = .ok (.newarray .int, 2) := dq_188_10 (kX12_init_25 30 rfl) (kX12_init_25 31 rfl)
theorem dX12_init_832 : decode cX12_init 832 = .ok (.putfield 313, 3) := dq_181 (kX12_init_26 0 rfl) (kX12_init_26 1 rfl) (kX12_init_26 2 rfl) rfl
theorem dX12_init_835 : decode cX12_init 835 = .ok (.aload_n 0, 1) := dq_42 (kX12_init_26 3 rfl)
theorem dX12_init_836 : decode cX12_init 836 = .ok (.sipush 200, 3) := dq_17 (kX12_init_26 4 rfl) (kX12_init_26 5 rfl) (kX12_init_26 6 rfl) (by decide)
theorem dX12_init_839 : decode cX12_init 839 = .ok (.newarray .int, 2) := dq_188_10 (kX12_init_26 7 rfl) (kX12_init_26 8 rfl)
theorem dX12_init_841 : decode cX12_init 841 = .ok (.putfield 316, 3) := dq_181 (kX12_init_26 9 rfl) (kX12_init_26 10 rfl) (kX12_init_26 11 rfl) rfl
theorem dX12_init_844 : decode cX12_init 844 = .ok (.aload_n 0, 1) := dq_42 (kX12_init_26 12 rfl)
theorem dX12_init_845 : decode cX12_init 845 = .ok (.bipush 7, 2) := dq_16 (kX12_init_26 13 rfl) (kX12_init_26 14 rfl) (by decide)
theorem dX12_init_847 : decode cX12_init 847 = .ok (.newarray .int, 2) := dq_188_10 (kX12_init_26 15 rfl) (kX12_init_26 16 rfl)
theorem dX12_init_849 : decode cX12_init 849 = .ok (.putfield 319, 3) := dq_181 (kX12_init_26 17 rfl) (kX12_init_26 18 rfl) (kX12_init_26 19 rfl) rfl
theorem dX12_init_852 : decode cX12_init 852 = .ok (.aload_n 0, 1) := dq_42 (kX12_init_26 20 rfl)
theorem dX12_init_853 : decode cX12_init 853 = .ok (.bipush 63, 2) := dq_16 (kX12_init_26 21 rfl) (kX12_init_26 22 rfl) (by decide)
theorem dX12_init_855 : decode cX12_init 855 = .ok (.newarray .boolean, 2) := dq_188_4 (kX12_init_26 23 rfl) (kX12_init_26 24 rfl)
theorem dX12_init_857 : decode cX12_init 857 = .ok (.putfield 322, 3) := dq_181 (kX12_init_26 25 rfl) (kX12_init_26 26 rfl) (kX12_init_26 27 rfl) rfl
theorem dX12_init_860 : decode cX12_init 860 = .ok (.aload_n 0, 1) := dq_42 (kX12_init_26 28 rfl)
theorem dX12_init_861 : decode cX12_init 861 = .ok (.sipush 441, 3) := dq_17 (kX12_init_26 29 rfl) (kX12_init_26 30 rfl) (kX12_init_26 31 rfl) (by decide)
theorem dX12_init_864 : decode cX12_init 864 = .ok (.newarray .boolean, 2) := dq_188_4 (kX12_init_27 0 rfl) (kX12_init_27 1 rfl)
theorem dX12_init_866 : decode cX12_init 866 = .ok (.putfield 325, 3) := dq_181 (kX12_init_27 2 rfl) (kX12_init_27 3 rfl) (kX12_init_27 4 rfl) rfl
theorem dX12_init_869 : decode cX12_init 869 = .ok (.aload_n 0, 1) := dq_42 (kX12_init_27 5 rfl)
theorem dX12_init_870 : decode cX12_init 870 = .ok (.bipush 8, 2) := dq_16 (kX12_init_27 6 rfl) (kX12_init_27 7 rfl) (by decide)
theorem dX12_init_872 : decode cX12_init 872 = .ok (.newarray .int, 2) := dq_188_10 (kX12_init_27 8 rfl) (kX12_init_27 9 rfl)
theorem dX12_init_874 : decode cX12_init 874 = .ok (.putfield 328, 3) := dq_181 (kX12_init_27 10 rfl) (kX12_init_27 11 rfl) (kX12_init_27 12 rfl) rfl
theorem dX12_init_877 : decode cX12_init 877 = .ok (.aload_n 0, 1) := dq_42 (kX12_init_27 13 rfl)
theorem dX12_init_878 : decode cX12_init 878 = .ok (.bipush 8, 2) := dq_16 (kX12_init_27 14 rfl) (kX12_init_27 15 rfl) (by decide)
theorem dX12_init_880 : decode cX12_init 880 = .ok (.newarray .int, 2) := dq_188_10 (kX12_init_27 16 rfl) (kX12_init_27 17 rfl)
theorem dX12_init_882 : decode cX12_init 882 = .ok (.putfield 331, 3) := dq_181 (kX12_init_27 18 rfl) (kX12_init_27 19 rfl) (kX12_init_27 20 rfl) rfl
theorem dX12_init_885 : decode cX12_init 885 = .ok (.aload_n 0, 1) := dq_42 (kX12_init_27 21 rfl)
theorem dX12_init_886 : decode cX12_init 886 = .ok (.bipush 24, 2) := dq_16 (kX12_init_27 22 rfl) (kX12_init_27 23 rfl) (by decide)
theorem dX12_init_888 : decode cX12_init 888 = .ok (.newarray .int, 2) := dq_188_10 (kX12_init_27 24 rfl) (kX12_init_27 25 rfl)
theorem dX12_init_890 : decode cX12_init 890 = .ok (.putfield 334, 3) := dq_181 (kX12_init_27 26 rfl) (kX12_init_27 27 rfl) (kX12_init_27 28 rfl) rfl
theorem dX12_init_893 : decode cX12_init 893 = .ok (.aload_n 0, 1) := dq_42 (kX12_init_27 29 rfl)
theorem dX12_init_894 : decode cX12_init 894 = .ok (.bipush 24, 2) := dq_16 (kX12_init_27 30 rfl) (kX12_init_27 31 rfl) (by decide)
theorem dX12_init_896 : decode cX12_init 896 = .ok (.newarray .int, 2) := dq_188_10 (kX12_init_28 0 rfl) (kX12_init_28 1 rfl)
theorem dX12_init_898 : decode cX12_init 898 = .ok (.putfield 337, 3) := dq_181 (kX12_init_28 2 rfl) (kX12_init_28 3 rfl) (kX12_init_28 4 rfl) rfl
theorem dX12_init_901 : decode cX12_init 901 = .ok (.aload_n 0, 1) := dq_42 (kX12_init_28 5 rfl)
theorem dX12_init_902 : decode cX12_init 902 = .ok (.bipush 8, 2) := dq_16 (kX12_init_28 6 rfl) (kX12_init_28 7 rfl) (by decide)
theorem dX12_init_904 : decode cX12_init 904 = .ok (.newarray .int, 2) := dq_188_10 (kX12_init_28 8 rfl) (kX12_init_28 9 rfl)
theorem dX12_init_906 : decode cX12_init 906 = .ok (.putfield 340, 3) := dq_181 (kX12_init_28 10 rfl) (kX12_init_28 11 rfl) (kX12_init_28 12 rfl) rfl
theorem dX12_init_909 : decode cX12_init 909 = .ok (.aload_n 0, 1) := dq_42 (kX12_init_28 13 rfl)
theorem dX12_init_910 : decode cX12_init 910 = .ok (.bipush 8, 2) := dq_16 (kX12_init_28 14 rfl) (kX12_init_28 15 rfl) (by decide)
theorem dX12_init_912 : decode cX12_init 912 = .ok (.newarray .int, 2) := dq_188_10 (kX12_init_28 16 rfl) (kX12_init_28 17 rfl)
theorem dX12_init_914 : decode cX12_init 914 = .ok (.putfield 343, 3) := dq_181 (kX12_init_28 18 rfl) (kX12_init_28 19 rfl) (kX12_init_28 20 rfl) rfl
theorem dX12_init_917 : decode cX12_init 917 = .ok (.aload_n 0, 1) := dq_42 (kX12_init_28 21 rfl)
theorem dX12_init_918 : decode cX12_init 918 = .ok (.sipush 200, 3) := dq_17 (kX12_init_28 22 rfl) (kX12_init_28 23 rfl) (kX12_init_28 24 rfl) (by decide)
theorem dX12_init_921 : decode cX12_init 921 = .ok (.newarray .int, 2) := dq_188_10 (kX12_init_28 25 rfl) (kX12_init_28 26 rfl)
theorem dX12_init_923 : decode cX12_init 923 = .ok (.putfield 346, 3) := dq_181 (kX12_init_28 27 rfl) (kX12_init_28 28 rfl) (kX12_init_28 29 rfl) rfl
theorem dX12_init_926 : decode cX12_init 926 = .ok (.aload_n 0, 1) := dq_42 (kX12_init_28 30 rfl)
theorem dX12_init_927 : decode cX12_init 927 = .ok (.sipush 200, 3) := dq_17 (kX12_init_28 31 rfl) (kX12_init_29 0 rfl) (kX12_init_29 1 rfl) (by decide)
theorem dX12_init_930 : decode cX12_init 930 = .ok (.newarray .int, 2) := dq_188_10 (kX12_init_29 2 rfl) (kX12_init_29 3 rfl)
theorem dX12_init_932 : decode cX12_init 932 = .ok (.putfield 349, 3) := dq_181 (kX12_init_29 4 rfl) (kX12_init_29 5 rfl) (kX12_init_29 6 rfl) rfl
theorem dX12_init_935 : decode cX12_init 935 = .ok (.aload_n 0, 1) := dq_42 (kX12_init_29 7 rfl)
theorem dX12_init_936 : decode cX12_init 936 = .ok (.sipush 200, 3) := dq_17 (kX12_init_29 8 rfl) (kX12_init_29 9 rfl) (kX12_init_29 10 rfl) (by decide)
theorem dX12_init_939 : decode cX12_init 939 = .ok (.newarray .int, 2) := dq_188_10 (kX12_init_29 11 rfl) (kX12_init_29 12 rfl)
theorem dX12_init_941 : decode cX12_init 941 = .ok (.putfield 352, 3) := dq_181 (kX12_init_29 13 rfl) (kX12_init_29 14 rfl) (kX12_init_29 15 rfl) rfl
theorem dX12_init_944 : decode cX12_init 944 = .ok (.aload_n 0, 1) := dq_42 (kX12_init_29 16 rfl)
theorem dX12_init_945 : decode cX12_init 945 = .ok (.sipush 200, 3) := dq_17 (kX12_init_29 17 rfl) (kX12_init_29 18 rfl) (kX12_init_29 19 rfl) (by decide)
theorem dX12_init_948 : decode cX12_init 948 = .ok (.newarray .int, 2) := dq_188_10 (kX12_init_29 20 rfl) (kX12_init_29 21 rfl)
theorem dX12_init_950 : decode cX12_init 950 = .ok (.putfield 355, 3) := dq_181 (kX12_init_29 22 rfl) (kX12_init_29 23 rfl) (kX12_init_29 24 rfl) rfl
theorem dX12_init_953 : decode cX12_init 953 = .ok (.aload_n 0, 1) := dq_42 (kX12_init_29 25 rfl)
theorem dX12_init_954 : decode cX12_init 954 = .ok (.sipush 200, 3) := dq_17 (kX12_init_29 26 rfl) (kX12_init_29 27 rfl) (kX12_init_29 28 rfl) (by decide)
theorem dX12_init_957 : decode cX12_init 957 = .ok (.newarray .boolean, 2) := dq_188_4 (kX12_init_29 29 rfl) (kX12_init_29 30 rfl)
theorem dX12_init_959 : decode cX12_init 959 = .ok (.putfield 358, 3) := dq_181 (kX12_init_29 31 rfl) (kX12_init_30 0 rfl) (kX12_init_30 1 rfl) rfl
theorem dX12_init_962 : decode cX12_init 962 = .ok (.aload_n 0, 1) := dq_42 (kX12_init_30 2 rfl)
theorem dX12_init_963 : decode cX12_init 963 = .ok (.bipush 8, 2) := dq_16 (kX12_init_30 3 rfl) (kX12_init_30 4 rfl) (by decide)
theorem dX12_init_965 : decode cX12_init 965 = .ok (.bipush 8, 2) := dq_16 (kX12_init_30 5 rfl) (kX12_init_30 6 rfl) (by decide)
theorem dX12_init_967 : decode cX12_init 967 = .ok (.invokevirtual 361, 3) := dq_182 (kX12_init_30 7 rfl) (kX12_init_30 8 rfl) (kX12_init_30 9 rfl) rfl
theorem dX12_init_970 : decode cX12_init 970 = .ok (.iconst 0, 1) := dq_3 (kX12_init_30 10 rfl)
theorem dX12_init_971 : decode cX12_init 971 = .ok (.istore_n 1, 1) := dq_60 (kX12_init_30 11 rfl)
theorem dX12_init_972 : decode cX12_init 972 = .ok (.iload_n 1, 1) := dq_27 (kX12_init_30 12 rfl)
theorem dX12_init_973 : decode cX12_init 973 = .ok (.iconst 4, 1) := dq_7 (kX12_init_30 13 rfl)
theorem dX12_init_974 : decode cX12_init 974 = .ok (.if_icmp .ge 17, 3) := dq_162 (kX12_init_30 14 rfl) (kX12_init_30 15 rfl) (kX12_init_30 16 rfl) (by decide)
theorem dX12_init_977 : decode cX12_init 977 = .ok (.aload_n 0, 1) := dq_42 (kX12_init_30 17 rfl)
theorem dX12_init_978 : decode cX12_init 978 = .ok (.getfield 244, 3) := dq_180 (kX12_init_30 18 rfl) (kX12_init_30 19 rfl) (kX12_init_30 20 rfl) rfl
theorem dX12_init_981 : decode cX12_init 981 = .ok (.iload_n 1, 1) := dq_27 (kX12_init_30 21 rfl)
theorem dX12_init_982 : decode cX12_init 982 = .ok (.bipush 10, 2) := dq_16 (kX12_init_30 22 rfl) (kX12_init_30 23 rfl) (by decide)
theorem dX12_init_984 : decode cX12_init 984 = .ok (.iastore, 1) := dq_79 (kX12_init_30 24 rfl)
theorem dX12_init_985 : decode cX12_init 985 = .ok (.iinc 1 1, 3) := dq_132 (kX12_init_30 25 rfl) (kX12_init_30 26 rfl) (kX12_init_30 27 rfl) rfl (by decide)
theorem dX12_init_988 : decode cX12_init 988 = .ok (.goto (-16), 3) := dq_167 (kX12_init_30 28 rfl) (kX12_init_30 29 rfl) (kX12_init_30 30 rfl) (by decide)
theorem dX12_init_991 : decode cX12_init 991 = .ok (.iconst 0, 1) := dq_3 (kX12_init_30 31 rfl)
theorem dX12_init_992 : decode cX12_init 992 = .ok (.istore_n 1, 1) := dq_60 (kX12_init_31 0 rfl)
theorem dX12_init_993 : decode cX12_init 993 = .ok (.iload_n 1, 1) := dq_27 (kX12_init_31 1 rfl)
theorem dX12_init_994 : decode cX12_init 994 = .ok (.bipush 10, 2) := dq_16 (kX12_init_31 2 rfl) (kX12_init_31 3 rfl) (by decide)
theorem dX12_init_996 : decode cX12_init 996 = .ok (.if_icmp .ge 17, 3) := dq_162 (kX12_init_31 4 rfl) (kX12_init_31 5 rfl) (kX12_init_31 6 rfl) (by decide)
theorem dX12_init_999 : decode cX12_init 999 = .ok (.aload_n 0, 1) := dq_42 (kX12_init_31 7 rfl)
theorem dX12_init_1000 : decode cX12_init 1000 = .ok (.getfield 301, 3) := dq_180 (kX12_init_31 8 rfl) (kX12_init_31 9 rfl) (kX12_init_31 10 rfl) rfl
theorem dX12_init_1003 : decode cX12_init 1003 = .ok (.iload_n 1, 1) := dq_27 (kX12_init_31 11 rfl)
theorem dX12_init_1004 : decode cX12_init 1004 = .ok (.bipush 50, 2) := dq_16 (kX12_init_31 12 rfl) (kX12_init_31 13 rfl) (by decide)
theorem dX12_init_1006 : decode cX12_init 1006 = .ok (.iastore, 1) := dq_79 (kX12_init_31 14 rfl)
theorem dX12_init_1007 : decode cX12_init 1007 = .ok (.iinc 1 1, 3) := dq_132 (kX12_init_31 15 rfl) (kX12_init_31 16 rfl) (kX12_init_31 17 rfl) rfl (by decide)
theorem dX12_init_1010 : decode cX12_init 1010 = .ok (.goto (-17), 3) := dq_167 (kX12_init_31 18 rfl) (kX12_init_31 19 rfl) (kX12_init_31 20 rfl) (by decide)
theorem dX12_init_1013 : decode cX12_init 1013 = .ok (.iconst 0, 1) := dq_3 (kX12_init_31 21 rfl)
theorem dX12_init_1014 : decode cX12_init 1014 = .ok (.istore_n 1, 1) := dq_60 (kX12_init_31 22 rfl)
theorem dX12_init_1015 : decode cX12_init 1015 = .ok (.iload_n 1, 1) := dq_27 (kX12_init_31 23 rfl)
theorem dX12_init_1016 : decode cX12_init 1016 = .ok (.bipush 24, 2) := dq_16 (kX12_init_31 24 rfl) (kX12_init_31 25 rfl) (by decide)
theorem dX12_init_1018 : decode cX12_init 1018 = .ok (.if_icmp .ge 18, 3) := dq_162 (kX12_init_31 26 rfl) (kX12_init_31 27 rfl) (kX12_init_31 28 rfl) (by decide)
theorem dX12_init_1021 : decode cX12_init 1021 = .ok (.aload_n 0, 1) := dq_42 (kX12_init_31 29 rfl)
theorem dX12_init_1022 : decode cX12_init 1022 = .ok (.getfield 337, 3) := dq_180 (kX12_init_31 30 rfl) (kX12_init_31 31 rfl) (kX12_init_32 0 rfl) rfl
theorem dX12_init_1025 : decode cX12_init 1025 = .ok (.iload_n 1, 1) := dq_27 (kX12_init_32 1 rfl)
theorem dX12_init_1026 : decode cX12_init 1026 = .ok (.sipush 359, 3) := dq_17 (kX12_init_32 2 rfl) (kX12_init_32 3 rfl) (kX12_init_32 4 rfl) (by decide)
theorem dX12_init_1029 : decode cX12_init 1029 = .ok (.iastore, 1) := dq_79 (kX12_init_32 5 rfl)
theorem dX12_init_1030 : decode cX12_init 1030 = .ok (.iinc 1 1, 3) := dq_132 (kX12_init_32 6 rfl) (kX12_init_32 7 rfl) (kX12_init_32 8 rfl) rfl (by decide)
theorem dX12_init_1033 : decode cX12_init 1033 = .ok (.goto (-18), 3) := dq_167 (kX12_init_32 9 rfl) (kX12_init_32 10 rfl) (kX12_init_32 11 rfl) (by decide)
theorem dX12_init_1036 : decode cX12_init 1036 = .ok (.iconst 0, 1) := dq_3 (kX12_init_32 12 rfl)
theorem dX12_init_1037 : decode cX12_init 1037 = .ok (.istore_n 1, 1) := dq_60 (kX12_init_32 13 rfl)
theorem dX12_init_1038 : decode cX12_init 1038 = .ok (.iload_n 1, 1) := dq_27 (kX12_init_32 14 rfl)
theorem dX12_init_1039 : decode cX12_init 1039 = .ok (.sipush 600, 3) := dq_17 (kX12_init_32 15 rfl) (kX12_init_32 16 rfl) (kX12_init_32 17 rfl) (by decide)
theorem dX12_init_1042 : decode cX12_init 1042 = .ok (.if_icmp .ge 16, 3) := dq_162 (kX12_init_32 18 rfl) (kX12_init_32 19 rfl) (kX12_init_32 20 rfl) (by decide)
theorem dX12_init_1045 : decode cX12_init 1045 = .ok (.aload_n 0, 1) := dq_42 (kX12_init_32 21 rfl)
theorem dX12_init_1046 : decode cX12_init 1046 = .ok (.getfield 77, 3) := dq_180 (kX12_init_32 22 rfl) (kX12_init_32 23 rfl) (kX12_init_32 24 rfl) rfl
theorem dX12_init_1049 : decode cX12_init 1049 = .ok (.iload_n 1, 1) := dq_27 (kX12_init_32 25 rfl)
theorem dX12_init_1050 : decode cX12_init 1050 = .ok (.iconst (-1), 1) := dq_2 (kX12_init_32 26 rfl)
theorem dX12_init_1051 : decode cX12_init 1051 = .ok (.iastore, 1) := dq_79 (kX12_init_32 27 rfl)
theorem dX12_init_1052 : decode cX12_init 1052 = .ok (.iinc 1 1, 3) := dq_132 (kX12_init_32 28 rfl) (kX12_init_32 29 rfl) (kX12_init_32 30 rfl) rfl (by decide)
theorem dX12_init_1055 : decode cX12_init 1055 = .ok (.goto (-17), 3) := dq_167 (kX12_init_32 31 rfl) (kX12_init_33 0 rfl) (kX12_init_33 1 rfl) (by decide)
theorem dX12_init_1058 : decode cX12_init 1058 = .ok (.return_, 1) := dq_177 (kX12_init_33 2 rfl)

def bX12_in_0 : List UInt8 := [26, 27, 161, 0, 12, 26, 28, 163, 0, 7, 4, 167, 0, 4, 3, 172]
theorem kX12_in_0 (j : Nat) {b : UInt8} (hj : bX12_in_0[j]? = some b) : AtB cX12_in (0 + j) b := at_of32 (by decide +kernel) j hj
theorem dX12_in_0 : decode cX12_in 0 = .ok (.iload_n 0, 1) := dq_26 (kX12_in_0 0 rfl)
theorem dX12_in_1 : decode cX12_in 1 = .ok (.iload_n 1, 1) := dq_27 (kX12_in_0 1 rfl)
theorem dX12_in_2 : decode cX12_in 2 = .ok (.if_icmp .lt 12, 3) := dq_161 (kX12_in_0 2 rfl) (kX12_in_0 3 rfl) (kX12_in_0 4 rfl) (by decide)
theorem dX12_in_5 : decode cX12_in 5 = .ok (.iload_n 0, 1) := dq_26 (kX12_in_0 5 rfl)
theorem dX12_in_6 : decode cX12_in 6 = .ok (.iload_n 2, 1) := dq_28 (kX12_in_0 6 rfl)
theorem dX12_in_7 : decode cX12_in 7 = .ok (.if_icmp .gt 7, 3) := dq_163 (kX12_in_0 7 rfl) (kX12_in_0 8 rfl) (kX12_in_0 9 rfl) (by decide)
theorem dX12_in_10 : decode cX12_in 10 = .ok (.iconst 1, 1) := dq_4 (kX12_in_0 10 rfl)
theorem dX12_in_11 : decode cX12_in 11 = .ok (.goto 4, 3) := dq_167 (kX12_in_0 11 rfl) (kX12_in_0 12 rfl) (kX12_in_0 13 rfl) (by decide)
theorem dX12_in_14 : decode cX12_in 14 = .ok (.iconst 0, 1) := dq_3 (kX12_in_0 14 rfl)
theorem dX12_in_15 : decode cX12_in 15 = .ok (.ireturn, 1) := dq_172 (kX12_in_0 15 rfl)

def bX12_size_0 : List UInt8 := [26, 156, 0, 8, 26, 116, 167, 0, 4, 26, 172]
theorem kX12_size_0 (j : Nat) {b : UInt8} (hj : bX12_size_0[j]? = some b) : AtB cX12_size (0 + j) b := at_of32 (by decide +kernel) j hj
theorem dX12_size_0 : decode cX12_size 0 = .ok (.iload_n 0, 1) := dq_26 (kX12_size_0 0 rfl)
theorem dX12_size_1 : decode cX12_size 1 = .ok (.ifCond .ge 8, 3) := dq_156 (kX12_size_0 1 rfl) (kX12_size_0 2 rfl) (kX12_size_0 3 rfl) (by decide)
theorem dX12_size_4 : decode cX12_size 4 = .ok (.iload_n 0, 1) := dq_26 (kX12_size_0 4 rfl)
theorem dX12_size_5 : decode cX12_size 5 = .ok (.ineg, 1) := dq_116 (kX12_size_0 5 rfl)
theorem dX12_size_6 : decode cX12_size 6 = .ok (.goto 4, 3) := dq_167 (kX12_size_0 6 rfl) (kX12_size_0 7 rfl) (kX12_size_0 8 rfl) (by decide)
theorem dX12_size_9 : decode cX12_size 9 = .ok (.iload_n 0, 1) := dq_26 (kX12_size_0 9 rfl)
theorem dX12_size_10 : decode cX12_size 10 = .ok (.ireturn, 1) := dq_172 (kX12_size_0 10 rfl)

def bX12_begins_0 : List UInt8 := [42, 27, 181, 1, 109, 42, 28, 181, 1, 112, 3, 62, 29, 17, 0, 144, 162, 0, 37, 42, 180, 0, 16, 29, 3, 79, 42, 180, 0, 20, 29, 3]
theorem kX12_begins_0 (j : Nat) {b : UInt8} (hj : bX12_begins_0[j]? = some b) : AtB cX12_begins (0 + j) b := at_of32 (by decide +kernel) j hj
def bX12_begins_1 : List UInt8 := [79, 42, 180, 0, 23, 29, 2, 79, 42, 180, 0, 26, 29, 3, 79, 132, 3, 1, 167, 255, 218, 177]
theorem kX12_begins_1 (j : Nat) {b : UInt8} (hj : bX12_begins_1[j]? = some b) : AtB cX12_begins (32 + j) b := at_of32 (by decide +kernel) j hj
theorem dX12_begins_0 : decode cX12_begins 0 = .ok (.aload_n 0, 1) := dq_42 (kX12_begins_0 0 rfl)
theorem dX12_begins_1 : decode cX12_begins 1 = .ok (.iload_n 1, 1) := dq_27 (kX12_begins_0 1 rfl)
theorem dX12_begins_2 : decode cX12_begins 2 = .ok (.putfield 365, 3) := dq_181 (kX12_begins_0 2 rfl) (kX12_begins_0 3 rfl) (kX12_begins_0 4 rfl) rfl
theorem dX12_begins_5 : decode cX12_begins 5 = .ok (.aload_n 0, 1) := dq_42 (kX12_begins_0 5 rfl)
theorem dX12_begins_6 : decode cX12_begins 6 = .ok (.iload_n 2, 1) := dq_28 (kX12_begins_0 6 rfl)
theorem dX12_begins_7 : decode cX12_begins 7 = .ok (.putfield 368, 3) := dq_181 (kX12_begins_0 7 rfl) (kX12_begins_0 8 rfl) (kX12_begins_0 9 rfl) rfl
theorem dX12_begins_10 : decode cX12_begins 10 = .ok (.iconst 0, 1) := dq_3 (kX12_begins_0 10 rfl)
theorem dX12_begins_11 : decode cX12_begins 11 = .ok (.istore_n 3, 1) := dq_62 (kX12_begins_0 11 rfl)
theorem dX12_begins_12 : decode cX12_begins 12 = .ok (.iload_n 3, 1) := dq_29 (kX12_begins_0 12 rfl)
theorem dX12_begins_13 : decode cX12_begins 13 = .ok (.sipush 144, 3) := dq_17 (kX12_begins_0 13 rfl) (kX12_begins_0 14 rfl) (kX12_begins_0 15 rfl) (by decide)
theorem dX12_begins_16 : decode cX12_begins 16 = .ok (.if_icmp .ge 37, 3) := dq_162 (kX12_begins_0 16 rfl) (kX12_begins_0 17 rfl) (kX12_begins_0 18 rfl) (by decide)
theorem dX12_begins_19 : decode cX12_begins 19 = .ok (.aload_n 0, 1) := dq_42 (kX12_begins_0 19 rfl)
theorem dX12_begins_20 : decode cX12_begins 20 = .ok (.getfield 16, 3) := dq_180 (kX12_begins_0 20 rfl) (kX12_begins_0 21 rfl) (kX12_begins_0 22 rfl) rfl
theorem dX12_begins_23 : decode cX12_begins 23 = .ok (.iload_n 3, 1) := dq_29 (kX12_begins_0 23 rfl)
theorem dX12_begins_24 : decode cX12_begins 24 = .ok (.iconst 0, 1) := dq_3 (kX12_begins_0 24 rfl)
theorem dX12_begins_25 : decode cX12_begins 25 = .ok (.iastore, 1) := dq_79 (kX12_begins_0 25 rfl)
theorem dX12_begins_26 : decode cX12_begins 26 = .ok (.aload_n 0, 1) := dq_42 (kX12_begins_0 26 rfl)
theorem dX12_begins_27 : decode cX12_begins 27 = .ok (.getfield 20, 3) := dq_180 (kX12_begins_0 27 rfl) (kX12_begins_0 28 rfl) (kX12_begins_0 29 rfl) rfl
theorem dX12_begins_30 : decode cX12_begins 30 = .ok (.iload_n 3, 1) := dq_29 (kX12_begins_0 30 rfl)
theorem dX12_begins_31 : decode cX12_begins 31 = .ok (.iconst 0, 1) := dq_3 (kX12_begins_0 31 rfl)
theorem dX12_begins_32 : decode cX12_begins 32 = .ok (.iastore, 1) := dq_79 (kX12_begins_1 0 rfl)
theorem dX12_begins_33 : decode cX12_begins 33 = .ok (.aload_n 0, 1) := dq_42 (kX12_begins_1 1 rfl)
theorem dX12_begins_34 : decode cX12_begins 34 = .ok (.getfield 23, 3) := dq_180 (kX12_begins_1 2 rfl) (kX12_begins_1 3 rfl) (kX12_begins_1 4 rfl) rfl
theorem dX12_begins_37 : decode cX12_begins 37 = .ok (.iload_n 3, 1) := dq_29 (kX12_begins_1 5 rfl)
theorem dX12_begins_38 : decode cX12_begins 38 = .ok (.iconst (-1), 1) := dq_2 (kX12_begins_1 6 rfl)
theorem dX12_begins_39 : decode cX12_begins 39 = .ok (.iastore, 1) := dq_79 (kX12_begins_1 7 rfl)
theorem dX12_begins_40 : decode cX12_begins 40 = .ok (.aload_n 0, 1) := dq_42 (kX12_begins_1 8 rfl)
theorem dX12_begins_41 : decode cX12_begins 41 = .ok (.getfield 26, 3) := dq_180 (kX12_begins_1 9 rfl) (kX12_begins_1 10 rfl) (kX12_begins_1 11 rfl) rfl
theorem dX12_begins_44 : decode cX12_begins 44 = .ok (.iload_n 3, 1) := dq_29 (kX12_begins_1 12 rfl)
theorem dX12_begins_45 : decode cX12_begins 45 = .ok (.iconst 0, 1) := dq_3 (kX12_begins_1 13 rfl)
theorem dX12_begins_46 : decode cX12_begins 46 = .ok (.iastore, 1) := dq_79 (kX12_begins_1 14 rfl)
theorem dX12_begins_47 : decode cX12_begins 47 = .ok (.iinc 3 1, 3) := dq_132 (kX12_begins_1 15 rfl) (kX12_begins_1 16 rfl) (kX12_begins_1 17 rfl) rfl (by decide)
theorem dX12_begins_50 : decode cX12_begins 50 = .ok (.goto (-38), 3) := dq_167 (kX12_begins_1 18 rfl) (kX12_begins_1 19 rfl) (kX12_begins_1 20 rfl) (by decide)
theorem dX12_begins_53 : decode cX12_begins 53 = .ok (.return_, 1) := dq_177 (kX12_begins_1 21 rfl)

def bX12_isCell_0 : List UInt8 := [27, 155, 0, 20, 27, 42, 180, 1, 109, 42, 180, 1, 112, 104, 162, 0, 7, 4, 167, 0, 4, 3, 172]
theorem kX12_isCell_0 (j : Nat) {b : UInt8} (hj : bX12_isCell_0[j]? = some b) : AtB cX12_isCell (0 + j) b := at_of32 (by decide +kernel) j hj
theorem dX12_isCell_0 : decode cX12_isCell 0 = .ok (.iload_n 1, 1) := dq_27 (kX12_isCell_0 0 rfl)
theorem dX12_isCell_1 : decode cX12_isCell 1 = .ok (.ifCond .lt 20, 3) := dq_155 (kX12_isCell_0 1 rfl) (kX12_isCell_0 2 rfl) (kX12_isCell_0 3 rfl) (by decide)
theorem dX12_isCell_4 : decode cX12_isCell 4 = .ok (.iload_n 1, 1) := dq_27 (kX12_isCell_0 4 rfl)
theorem dX12_isCell_5 : decode cX12_isCell 5 = .ok (.aload_n 0, 1) := dq_42 (kX12_isCell_0 5 rfl)
theorem dX12_isCell_6 : decode cX12_isCell 6 = .ok (.getfield 365, 3) := dq_180 (kX12_isCell_0 6 rfl) (kX12_isCell_0 7 rfl) (kX12_isCell_0 8 rfl) rfl
theorem dX12_isCell_9 : decode cX12_isCell 9 = .ok (.aload_n 0, 1) := dq_42 (kX12_isCell_0 9 rfl)
theorem dX12_isCell_10 : decode cX12_isCell 10 = .ok (.getfield 368, 3) := dq_180 (kX12_isCell_0 10 rfl) (kX12_isCell_0 11 rfl) (kX12_isCell_0 12 rfl) rfl
theorem dX12_isCell_13 : decode cX12_isCell 13 = .ok (.imul, 1) := dq_104 (kX12_isCell_0 13 rfl)
theorem dX12_isCell_14 : decode cX12_isCell 14 = .ok (.if_icmp .ge 7, 3) := dq_162 (kX12_isCell_0 14 rfl) (kX12_isCell_0 15 rfl) (kX12_isCell_0 16 rfl) (by decide)
theorem dX12_isCell_17 : decode cX12_isCell 17 = .ok (.iconst 1, 1) := dq_4 (kX12_isCell_0 17 rfl)
theorem dX12_isCell_18 : decode cX12_isCell 18 = .ok (.goto 4, 3) := dq_167 (kX12_isCell_0 18 rfl) (kX12_isCell_0 19 rfl) (kX12_isCell_0 20 rfl) (by decide)
theorem dX12_isCell_21 : decode cX12_isCell 21 = .ok (.iconst 0, 1) := dq_3 (kX12_isCell_0 21 rfl)
theorem dX12_isCell_22 : decode cX12_isCell 22 = .ok (.ireturn, 1) := dq_172 (kX12_isCell_0 22 rfl)

def bX12_isDay_0 : List UInt8 := [26, 155, 0, 14, 26, 17, 14, 15, 163, 0, 7, 4, 167, 0, 4, 3, 172]
theorem kX12_isDay_0 (j : Nat) {b : UInt8} (hj : bX12_isDay_0[j]? = some b) : AtB cX12_isDay (0 + j) b := at_of32 (by decide +kernel) j hj
theorem dX12_isDay_0 : decode cX12_isDay 0 = .ok (.iload_n 0, 1) := dq_26 (kX12_isDay_0 0 rfl)
theorem dX12_isDay_1 : decode cX12_isDay 1 = .ok (.ifCond .lt 14, 3) := dq_155 (kX12_isDay_0 1 rfl) (kX12_isDay_0 2 rfl) (kX12_isDay_0 3 rfl) (by decide)
theorem dX12_isDay_4 : decode cX12_isDay 4 = .ok (.iload_n 0, 1) := dq_26 (kX12_isDay_0 4 rfl)
theorem dX12_isDay_5 : decode cX12_isDay 5 = .ok (.sipush 3599, 3) := dq_17 (kX12_isDay_0 5 rfl) (kX12_isDay_0 6 rfl) (kX12_isDay_0 7 rfl) (by decide)
theorem dX12_isDay_8 : decode cX12_isDay 8 = .ok (.if_icmp .gt 7, 3) := dq_163 (kX12_isDay_0 8 rfl) (kX12_isDay_0 9 rfl) (kX12_isDay_0 10 rfl) (by decide)
theorem dX12_isDay_11 : decode cX12_isDay 11 = .ok (.iconst 1, 1) := dq_4 (kX12_isDay_0 11 rfl)
theorem dX12_isDay_12 : decode cX12_isDay 12 = .ok (.goto 4, 3) := dq_167 (kX12_isDay_0 12 rfl) (kX12_isDay_0 13 rfl) (kX12_isDay_0 14 rfl) (by decide)
theorem dX12_isDay_15 : decode cX12_isDay 15 = .ok (.iconst 0, 1) := dq_3 (kX12_isDay_0 15 rfl)
theorem dX12_isDay_16 : decode cX12_isDay 16 = .ok (.ireturn, 1) := dq_172 (kX12_isDay_0 16 rfl)

def bX12_ice_0 : List UInt8 := [27, 7, 16, 12, 184, 1, 115, 153, 0, 27, 28, 7, 16, 12, 184, 1, 115, 153, 0, 17, 42, 180, 1, 119, 157, 0, 10, 42, 180, 1, 122, 158]
theorem kX12_ice_0 (j : Nat) {b : UInt8} (hj : bX12_ice_0[j]? = some b) : AtB cX12_ice (0 + j) b := at_of32 (by decide +kernel) j hj
def bX12_ice_1 : List UInt8 := [0, 5, 3, 172, 42, 27, 28, 182, 1, 105, 4, 172]
theorem kX12_ice_1 (j : Nat) {b : UInt8} (hj : bX12_ice_1[j]? = some b) : AtB cX12_ice (32 + j) b := at_of32 (by decide +kernel) j hj
theorem dX12_ice_0 : decode cX12_ice 0 = .ok (.iload_n 1, 1) := dq_27 (kX12_ice_0 0 rfl)
theorem dX12_ice_1 : decode cX12_ice 1 = .ok (.iconst 4, 1) := dq_7 (kX12_ice_0 1 rfl)
theorem dX12_ice_2 : decode cX12_ice 2 = .ok (.bipush 12, 2) := dq_16 (kX12_ice_0 2 rfl) (kX12_ice_0 3 rfl) (by decide)
theorem dX12_ice_4 : decode cX12_ice 4 = .ok (.invokestatic 371, 3) := dq_184 (kX12_ice_0 4 rfl) (kX12_ice_0 5 rfl) (kX12_ice_0 6 rfl) rfl
theorem dX12_ice_7 : decode cX12_ice 7 = .ok (.ifCond .eq 27, 3) := dq_153 (kX12_ice_0 7 rfl) (kX12_ice_0 8 rfl) (kX12_ice_0 9 rfl) (by decide)
theorem dX12_ice_10 : decode cX12_ice 10 = .ok (.iload_n 2, 1) := dq_28 (kX12_ice_0 10 rfl)
theorem dX12_ice_11 : decode cX12_ice 11 = .ok (.iconst 4, 1) := dq_7 (kX12_ice_0 11 rfl)
theorem dX12_ice_12 : decode cX12_ice 12 = .ok (.bipush 12, 2) := dq_16 (kX12_ice_0 12 rfl) (kX12_ice_0 13 rfl) (by decide)
theorem dX12_ice_14 : decode cX12_ice 14 = .ok (.invokestatic 371, 3) := dq_184 (kX12_ice_0 14 rfl) (kX12_ice_0 15 rfl) (kX12_ice_0 16 rfl) rfl
theorem dX12_ice_17 : decode cX12_ice 17 = .ok (.ifCond .eq 17, 3) := dq_153 (kX12_ice_0 17 rfl) (kX12_ice_0 18 rfl) (kX12_ice_0 19 rfl) (by decide)
theorem dX12_ice_20 : decode cX12_ice 20 = .ok (.aload_n 0, 1) := dq_42 (kX12_ice_0 20 rfl)
theorem dX12_ice_21 : decode cX12_ice 21 = .ok (.getfield 375, 3) := dq_180 (kX12_ice_0 21 rfl) (kX12_ice_0 22 rfl) (kX12_ice_0 23 rfl) rfl
theorem dX12_ice_24 : decode cX12_ice 24 = .ok (.ifCond .gt 10, 3) := dq_157 (kX12_ice_0 24 rfl) (kX12_ice_0 25 rfl) (kX12_ice_0 26 rfl) (by decide)
theorem dX12_ice_27 : decode cX12_ice 27 = .ok (.aload_n 0, 1) := dq_42 (kX12_ice_0 27 rfl)
theorem dX12_ice_28 : decode cX12_ice 28 = .ok (.getfield 378, 3) := dq_180 (kX12_ice_0 28 rfl) (kX12_ice_0 29 rfl) (kX12_ice_0 30 rfl) rfl
theorem dX12_ice_31 : decode cX12_ice 31 = .ok (.ifCond .le 5, 3) := dq_158 (kX12_ice_0 31 rfl) (kX12_ice_1 0 rfl) (kX12_ice_1 1 rfl) (by decide)
theorem dX12_ice_34 : decode cX12_ice 34 = .ok (.iconst 0, 1) := dq_3 (kX12_ice_1 2 rfl)
theorem dX12_ice_35 : decode cX12_ice 35 = .ok (.ireturn, 1) := dq_172 (kX12_ice_1 3 rfl)
theorem dX12_ice_36 : decode cX12_ice 36 = .ok (.aload_n 0, 1) := dq_42 (kX12_ice_1 4 rfl)
theorem dX12_ice_37 : decode cX12_ice 37 = .ok (.iload_n 1, 1) := dq_27 (kX12_ice_1 5 rfl)
theorem dX12_ice_38 : decode cX12_ice 38 = .ok (.iload_n 2, 1) := dq_28 (kX12_ice_1 6 rfl)
theorem dX12_ice_39 : decode cX12_ice 39 = .ok (.invokevirtual 361, 3) := dq_182 (kX12_ice_1 7 rfl) (kX12_ice_1 8 rfl) (kX12_ice_1 9 rfl) rfl
theorem dX12_ice_42 : decode cX12_ice 42 = .ok (.iconst 1, 1) := dq_4 (kX12_ice_1 10 rfl)
theorem dX12_ice_43 : decode cX12_ice 43 = .ok (.ireturn, 1) := dq_172 (kX12_ice_1 11 rfl)

def bX12_cell_0 : List UInt8 := [42, 27, 182, 1, 125, 153, 0, 33, 28, 3, 16, 40, 184, 1, 115, 153, 0, 23, 29, 3, 6, 184, 1, 115, 153, 0, 14, 21, 4, 2, 16, 7]
theorem kX12_cell_0 (j : Nat) {b : UInt8} (hj : bX12_cell_0[j]? = some b) : AtB cX12_cell (0 + j) b := at_of32 (by decide +kernel) j hj
def bX12_cell_1 : List UInt8 := [184, 1, 115, 154, 0, 5, 3, 172, 21, 4, 2, 160, 0, 11, 21, 5, 153, 0, 21, 167, 0, 16, 21, 5, 16, 10, 17, 14, 16, 184, 1, 115]
theorem kX12_cell_1 (j : Nat) {b : UInt8} (hj : bX12_cell_1[j]? = some b) : AtB cX12_cell (32 + j) b := at_of32 (by decide +kernel) j hj
def bX12_cell_2 : List UInt8 := [154, 0, 5, 3, 172, 42, 180, 0, 16, 27, 28, 79, 42, 180, 0, 20, 27, 29, 79, 42, 180, 0, 23, 27, 21, 4, 79, 42, 180, 0, 26, 27]
theorem kX12_cell_2 (j : Nat) {b : UInt8} (hj : bX12_cell_2[j]? = some b) : AtB cX12_cell (64 + j) b := at_of32 (by decide +kernel) j hj
def bX12_cell_3 : List UInt8 := [21, 5, 79, 4, 172]
theorem kX12_cell_3 (j : Nat) {b : UInt8} (hj : bX12_cell_3[j]? = some b) : AtB cX12_cell (96 + j) b := at_of32 (by decide +kernel) j hj
theorem dX12_cell_0 : decode cX12_cell 0 = .ok (.aload_n 0, 1) := dq_42 (kX12_cell_0 0 rfl)
theorem dX12_cell_1 : decode cX12_cell 1 = .ok (.iload_n 1, 1) := dq_27 (kX12_cell_0 1 rfl)
theorem dX12_cell_2 : decode cX12_cell 2 = .ok (.invokevirtual 381, 3) := dq_182 (kX12_cell_0 2 rfl) (kX12_cell_0 3 rfl) (kX12_cell_0 4 rfl) rfl
theorem dX12_cell_5 : decode cX12_cell 5 = .ok (.ifCond .eq 33, 3) := dq_153 (kX12_cell_0 5 rfl) (kX12_cell_0 6 rfl) (kX12_cell_0 7 rfl) (by decide)
theorem dX12_cell_8 : decode cX12_cell 8 = .ok (.iload_n 2, 1) := dq_28 (kX12_cell_0 8 rfl)
theorem dX12_cell_9 : decode cX12_cell 9 = .ok (.iconst 0, 1) := dq_3 (kX12_cell_0 9 rfl)
theorem dX12_cell_10 : decode cX12_cell 10 = .ok (.bipush 40, 2) := dq_16 (kX12_cell_0 10 rfl) (kX12_cell_0 11 rfl) (by decide)
theorem dX12_cell_12 : decode cX12_cell 12 = .ok (.invokestatic 371, 3) := dq_184 (kX12_cell_0 12 rfl) (kX12_cell_0 13 rfl) (kX12_cell_0 14 rfl) rfl
theorem dX12_cell_15 : decode cX12_cell 15 = .ok (.ifCond .eq 23, 3) := dq_153 (kX12_cell_0 15 rfl) (kX12_cell_0 16 rfl) (kX12_cell_0 17 rfl) (by decide)
theorem dX12_cell_18 : decode cX12_cell 18 = .ok (.iload_n 3, 1) := dq_29 (kX12_cell_0 18 rfl)
theorem dX12_cell_19 : decode cX12_cell 19 = .ok (.iconst 0, 1) := dq_3 (kX12_cell_0 19 rfl)
theorem dX12_cell_20 : decode cX12_cell 20 = .ok (.iconst 3, 1) := dq_6 (kX12_cell_0 20 rfl)
theorem dX12_cell_21 : decode cX12_cell 21 = .ok (.invokestatic 371, 3) := dq_184 (kX12_cell_0 21 rfl) (kX12_cell_0 22 rfl) (kX12_cell_0 23 rfl) rfl
theorem dX12_cell_24 : decode cX12_cell 24 = .ok (.ifCond .eq 14, 3) := dq_153 (kX12_cell_0 24 rfl) (kX12_cell_0 25 rfl) (kX12_cell_0 26 rfl) (by decide)
theorem dX12_cell_27 : decode cX12_cell 27 = .ok (.iload 4, 2) := dq_21 (kX12_cell_0 27 rfl) (kX12_cell_0 28 rfl) rfl
theorem dX12_cell_29 : decode cX12_cell 29 = .ok (.iconst (-1), 1) := dq_2 (kX12_cell_0 29 rfl)
theorem dX12_cell_30 : decode cX12_cell 30 = .ok (.bipush 7, 2) := dq_16 (kX12_cell_0 30 rfl) (kX12_cell_0 31 rfl) (by decide)
theorem dX12_cell_32 : decode cX12_cell 32 = .ok (.invokestatic 371, 3) := dq_184 (kX12_cell_1 0 rfl) (kX12_cell_1 1 rfl) (kX12_cell_1 2 rfl) rfl
theorem dX12_cell_35 : decode cX12_cell 35 = .ok (.ifCond .ne 5, 3) := dq_154 (kX12_cell_1 3 rfl) (kX12_cell_1 4 rfl) (kX12_cell_1 5 rfl) (by decide)
theorem dX12_cell_38 : decode cX12_cell 38 = .ok (.iconst 0, 1) := dq_3 (kX12_cell_1 6 rfl)
theorem dX12_cell_39 : decode cX12_cell 39 = .ok (.ireturn, 1) := dq_172 (kX12_cell_1 7 rfl)
theorem dX12_cell_40 : decode cX12_cell 40 = .ok (.iload 4, 2) := dq_21 (kX12_cell_1 8 rfl) (kX12_cell_1 9 rfl) rfl
theorem dX12_cell_42 : decode cX12_cell 42 = .ok (.iconst (-1), 1) := dq_2 (kX12_cell_1 10 rfl)
theorem dX12_cell_43 : decode cX12_cell 43 = .ok (.if_icmp .ne 11, 3) := dq_160 (kX12_cell_1 11 rfl) (kX12_cell_1 12 rfl) (kX12_cell_1 13 rfl) (by decide)
theorem dX12_cell_46 : decode cX12_cell 46 = .ok (.iload 5, 2) := dq_21 (kX12_cell_1 14 rfl) (kX12_cell_1 15 rfl) rfl
theorem dX12_cell_48 : decode cX12_cell 48 = .ok (.ifCond .eq 21, 3) := dq_153 (kX12_cell_1 16 rfl) (kX12_cell_1 17 rfl) (kX12_cell_1 18 rfl) (by decide)
theorem dX12_cell_51 : decode cX12_cell 51 = .ok (.goto 16, 3) := dq_167 (kX12_cell_1 19 rfl) (kX12_cell_1 20 rfl) (kX12_cell_1 21 rfl) (by decide)
theorem dX12_cell_54 : decode cX12_cell 54 = .ok (.iload 5, 2) := dq_21 (kX12_cell_1 22 rfl) (kX12_cell_1 23 rfl) rfl
theorem dX12_cell_56 : decode cX12_cell 56 = .ok (.bipush 10, 2) := dq_16 (kX12_cell_1 24 rfl) (kX12_cell_1 25 rfl) (by decide)
theorem dX12_cell_58 : decode cX12_cell 58 = .ok (.sipush 3600, 3) := dq_17 (kX12_cell_1 26 rfl) (kX12_cell_1 27 rfl) (kX12_cell_1 28 rfl) (by decide)
theorem dX12_cell_61 : decode cX12_cell 61 = .ok (.invokestatic 371, 3) := dq_184 (kX12_cell_1 29 rfl) (kX12_cell_1 30 rfl) (kX12_cell_1 31 rfl) rfl
theorem dX12_cell_64 : decode cX12_cell 64 = .ok (.ifCond .ne 5, 3) := dq_154 (kX12_cell_2 0 rfl) (kX12_cell_2 1 rfl) (kX12_cell_2 2 rfl) (by decide)
theorem dX12_cell_67 : decode cX12_cell 67 = .ok (.iconst 0, 1) := dq_3 (kX12_cell_2 3 rfl)
theorem dX12_cell_68 : decode cX12_cell 68 = .ok (.ireturn, 1) := dq_172 (kX12_cell_2 4 rfl)
theorem dX12_cell_69 : decode cX12_cell 69 = .ok (.aload_n 0, 1) := dq_42 (kX12_cell_2 5 rfl)
theorem dX12_cell_70 : decode cX12_cell 70 = .ok (.getfield 16, 3) := dq_180 (kX12_cell_2 6 rfl) (kX12_cell_2 7 rfl) (kX12_cell_2 8 rfl) rfl
theorem dX12_cell_73 : decode cX12_cell 73 = .ok (.iload_n 1, 1) := dq_27 (kX12_cell_2 9 rfl)
theorem dX12_cell_74 : decode cX12_cell 74 = .ok (.iload_n 2, 1) := dq_28 (kX12_cell_2 10 rfl)
theorem dX12_cell_75 : decode cX12_cell 75 = .ok (.iastore, 1) := dq_79 (kX12_cell_2 11 rfl)
theorem dX12_cell_76 : decode cX12_cell 76 = .ok (.aload_n 0, 1) := dq_42 (kX12_cell_2 12 rfl)
theorem dX12_cell_77 : decode cX12_cell 77 = .ok (.getfield 20, 3) := dq_180 (kX12_cell_2 13 rfl) (kX12_cell_2 14 rfl) (kX12_cell_2 15 rfl) rfl
theorem dX12_cell_80 : decode cX12_cell 80 = .ok (.iload_n 1, 1) := dq_27 (kX12_cell_2 16 rfl)
theorem dX12_cell_81 : decode cX12_cell 81 = .ok (.iload_n 3, 1) := dq_29 (kX12_cell_2 17 rfl)
theorem dX12_cell_82 : decode cX12_cell 82 = .ok (.iastore, 1) := dq_79 (kX12_cell_2 18 rfl)
theorem dX12_cell_83 : decode cX12_cell 83 = .ok (.aload_n 0, 1) := dq_42 (kX12_cell_2 19 rfl)
theorem dX12_cell_84 : decode cX12_cell 84 = .ok (.getfield 23, 3) := dq_180 (kX12_cell_2 20 rfl) (kX12_cell_2 21 rfl) (kX12_cell_2 22 rfl) rfl
theorem dX12_cell_87 : decode cX12_cell 87 = .ok (.iload_n 1, 1) := dq_27 (kX12_cell_2 23 rfl)
theorem dX12_cell_88 : decode cX12_cell 88 = .ok (.iload 4, 2) := dq_21 (kX12_cell_2 24 rfl) (kX12_cell_2 25 rfl) rfl
theorem dX12_cell_90 : decode cX12_cell 90 = .ok (.iastore, 1) := dq_79 (kX12_cell_2 26 rfl)
theorem dX12_cell_91 : decode cX12_cell 91 = .ok (.aload_n 0, 1) := dq_42 (kX12_cell_2 27 rfl)
theorem dX12_cell_92 : decode cX12_cell 92 = .ok (.getfield 26, 3) := dq_180 (kX12_cell_2 28 rfl) (kX12_cell_2 29 rfl) (kX12_cell_2 30 rfl) rfl
theorem dX12_cell_95 : decode cX12_cell 95 = .ok (.iload_n 1, 1) := dq_27 (kX12_cell_2 31 rfl)
theorem dX12_cell_96 : decode cX12_cell 96 = .ok (.iload 5, 2) := dq_21 (kX12_cell_3 0 rfl) (kX12_cell_3 1 rfl) rfl
theorem dX12_cell_98 : decode cX12_cell 98 = .ok (.iastore, 1) := dq_79 (kX12_cell_3 2 rfl)
theorem dX12_cell_99 : decode cX12_cell 99 = .ok (.iconst 1, 1) := dq_4 (kX12_cell_3 3 rfl)
theorem dX12_cell_100 : decode cX12_cell 100 = .ok (.ireturn, 1) := dq_172 (kX12_cell_3 4 rfl)

def bX12_dark_0 : List UInt8 := [27, 3, 17, 1, 103, 184, 1, 115, 153, 0, 14, 28, 27, 17, 1, 103, 184, 1, 115, 154, 0, 5, 3, 172, 42, 27, 181, 0, 7, 42, 28, 181]
theorem kX12_dark_0 (j : Nat) {b : UInt8} (hj : bX12_dark_0[j]? = some b) : AtB cX12_dark (0 + j) b := at_of32 (by decide +kernel) j hj
def bX12_dark_1 : List UInt8 := [0, 13, 4, 172]
theorem kX12_dark_1 (j : Nat) {b : UInt8} (hj : bX12_dark_1[j]? = some b) : AtB cX12_dark (32 + j) b := at_of32 (by decide +kernel) j hj
theorem dX12_dark_0 : decode cX12_dark 0 = .ok (.iload_n 1, 1) := dq_27 (kX12_dark_0 0 rfl)
theorem dX12_dark_1 : decode cX12_dark 1 = .ok (.iconst 0, 1) := dq_3 (kX12_dark_0 1 rfl)
theorem dX12_dark_2 : decode cX12_dark 2 = .ok (.sipush 359, 3) := dq_17 (kX12_dark_0 2 rfl) (kX12_dark_0 3 rfl) (kX12_dark_0 4 rfl) (by decide)
theorem dX12_dark_5 : decode cX12_dark 5 = .ok (.invokestatic 371, 3) := dq_184 (kX12_dark_0 5 rfl) (kX12_dark_0 6 rfl) (kX12_dark_0 7 rfl) rfl
theorem dX12_dark_8 : decode cX12_dark 8 = .ok (.ifCond .eq 14, 3) := dq_153 (kX12_dark_0 8 rfl) (kX12_dark_0 9 rfl) (kX12_dark_0 10 rfl) (by decide)
theorem dX12_dark_11 : decode cX12_dark 11 = .ok (.iload_n 2, 1) := dq_28 (kX12_dark_0 11 rfl)
theorem dX12_dark_12 : decode cX12_dark 12 = .ok (.iload_n 1, 1) := dq_27 (kX12_dark_0 12 rfl)
theorem dX12_dark_13 : decode cX12_dark 13 = .ok (.sipush 359, 3) := dq_17 (kX12_dark_0 13 rfl) (kX12_dark_0 14 rfl) (kX12_dark_0 15 rfl) (by decide)
theorem dX12_dark_16 : decode cX12_dark 16 = .ok (.invokestatic 371, 3) := dq_184 (kX12_dark_0 16 rfl) (kX12_dark_0 17 rfl) (kX12_dark_0 18 rfl) rfl
theorem dX12_dark_19 : decode cX12_dark 19 = .ok (.ifCond .ne 5, 3) := dq_154 (kX12_dark_0 19 rfl) (kX12_dark_0 20 rfl) (kX12_dark_0 21 rfl) (by decide)
theorem dX12_dark_22 : decode cX12_dark 22 = .ok (.iconst 0, 1) := dq_3 (kX12_dark_0 22 rfl)
theorem dX12_dark_23 : decode cX12_dark 23 = .ok (.ireturn, 1) := dq_172 (kX12_dark_0 23 rfl)
theorem dX12_dark_24 : decode cX12_dark 24 = .ok (.aload_n 0, 1) := dq_42 (kX12_dark_0 24 rfl)
theorem dX12_dark_25 : decode cX12_dark 25 = .ok (.iload_n 1, 1) := dq_27 (kX12_dark_0 25 rfl)
theorem dX12_dark_26 : decode cX12_dark 26 = .ok (.putfield 7, 3) := dq_181 (kX12_dark_0 26 rfl) (kX12_dark_0 27 rfl) (kX12_dark_0 28 rfl) rfl
theorem dX12_dark_29 : decode cX12_dark 29 = .ok (.aload_n 0, 1) := dq_42 (kX12_dark_0 29 rfl)
theorem dX12_dark_30 : decode cX12_dark 30 = .ok (.iload_n 2, 1) := dq_28 (kX12_dark_0 30 rfl)
theorem dX12_dark_31 : decode cX12_dark 31 = .ok (.putfield 13, 3) := dq_181 (kX12_dark_0 31 rfl) (kX12_dark_1 0 rfl) (kX12_dark_1 1 rfl) rfl
theorem dX12_dark_34 : decode cX12_dark 34 = .ok (.iconst 1, 1) := dq_4 (kX12_dark_1 2 rfl)
theorem dX12_dark_35 : decode cX12_dark 35 = .ok (.ireturn, 1) := dq_172 (kX12_dark_1 3 rfl)

def bX12_isDark_0 : List UInt8 := [27, 17, 1, 104, 112, 42, 180, 0, 7, 42, 180, 0, 13, 184, 1, 115, 172]
theorem kX12_isDark_0 (j : Nat) {b : UInt8} (hj : bX12_isDark_0[j]? = some b) : AtB cX12_isDark (0 + j) b := at_of32 (by decide +kernel) j hj
theorem dX12_isDark_0 : decode cX12_isDark 0 = .ok (.iload_n 1, 1) := dq_27 (kX12_isDark_0 0 rfl)
theorem dX12_isDark_1 : decode cX12_isDark 1 = .ok (.sipush 360, 3) := dq_17 (kX12_isDark_0 1 rfl) (kX12_isDark_0 2 rfl) (kX12_isDark_0 3 rfl) (by decide)
theorem dX12_isDark_4 : decode cX12_isDark 4 = .ok (.irem, 1) := dq_112 (kX12_isDark_0 4 rfl)
theorem dX12_isDark_5 : decode cX12_isDark 5 = .ok (.aload_n 0, 1) := dq_42 (kX12_isDark_0 5 rfl)
theorem dX12_isDark_6 : decode cX12_isDark 6 = .ok (.getfield 7, 3) := dq_180 (kX12_isDark_0 6 rfl) (kX12_isDark_0 7 rfl) (kX12_isDark_0 8 rfl) rfl
theorem dX12_isDark_9 : decode cX12_isDark 9 = .ok (.aload_n 0, 1) := dq_42 (kX12_isDark_0 9 rfl)
theorem dX12_isDark_10 : decode cX12_isDark 10 = .ok (.getfield 13, 3) := dq_180 (kX12_isDark_0 10 rfl) (kX12_isDark_0 11 rfl) (kX12_isDark_0 12 rfl) rfl
theorem dX12_isDark_13 : decode cX12_isDark 13 = .ok (.invokestatic 371, 3) := dq_184 (kX12_isDark_0 13 rfl) (kX12_isDark_0 14 rfl) (kX12_isDark_0 15 rfl) rfl
theorem dX12_isDark_16 : decode cX12_isDark 16 = .ok (.ireturn, 1) := dq_172 (kX12_isDark_0 16 rfl)

def bX12_far_0 : List UInt8 := [27, 42, 180, 1, 109, 108, 28, 42, 180, 1, 109, 108, 100, 184, 1, 129, 62, 27, 42, 180, 1, 109, 112, 28, 42, 180, 1, 109, 112, 100, 184, 1]
theorem kX12_far_0 (j : Nat) {b : UInt8} (hj : bX12_far_0[j]? = some b) : AtB cX12_far (0 + j) b := at_of32 (by decide +kernel) j hj
def bX12_far_1 : List UInt8 := [129, 54, 4, 29, 21, 4, 164, 0, 7, 29, 167, 0, 5, 21, 4, 172]
theorem kX12_far_1 (j : Nat) {b : UInt8} (hj : bX12_far_1[j]? = some b) : AtB cX12_far (32 + j) b := at_of32 (by decide +kernel) j hj
theorem dX12_far_0 : decode cX12_far 0 = .ok (.iload_n 1, 1) := dq_27 (kX12_far_0 0 rfl)
theorem dX12_far_1 : decode cX12_far 1 = .ok (.aload_n 0, 1) := dq_42 (kX12_far_0 1 rfl)
theorem dX12_far_2 : decode cX12_far 2 = .ok (.getfield 365, 3) := dq_180 (kX12_far_0 2 rfl) (kX12_far_0 3 rfl) (kX12_far_0 4 rfl) rfl
theorem dX12_far_5 : decode cX12_far 5 = .ok (.idiv, 1) := dq_108 (kX12_far_0 5 rfl)
theorem dX12_far_6 : decode cX12_far 6 = .ok (.iload_n 2, 1) := dq_28 (kX12_far_0 6 rfl)
theorem dX12_far_7 : decode cX12_far 7 = .ok (.aload_n 0, 1) := dq_42 (kX12_far_0 7 rfl)
theorem dX12_far_8 : decode cX12_far 8 = .ok (.getfield 365, 3) := dq_180 (kX12_far_0 8 rfl) (kX12_far_0 9 rfl) (kX12_far_0 10 rfl) rfl
theorem dX12_far_11 : decode cX12_far 11 = .ok (.idiv, 1) := dq_108 (kX12_far_0 11 rfl)
theorem dX12_far_12 : decode cX12_far 12 = .ok (.isub, 1) := dq_100 (kX12_far_0 12 rfl)
theorem dX12_far_13 : decode cX12_far 13 = .ok (.invokestatic 385, 3) := dq_184 (kX12_far_0 13 rfl) (kX12_far_0 14 rfl) (kX12_far_0 15 rfl) rfl
theorem dX12_far_16 : decode cX12_far 16 = .ok (.istore_n 3, 1) := dq_62 (kX12_far_0 16 rfl)
theorem dX12_far_17 : decode cX12_far 17 = .ok (.iload_n 1, 1) := dq_27 (kX12_far_0 17 rfl)
theorem dX12_far_18 : decode cX12_far 18 = .ok (.aload_n 0, 1) := dq_42 (kX12_far_0 18 rfl)
theorem dX12_far_19 : decode cX12_far 19 = .ok (.getfield 365, 3) := dq_180 (kX12_far_0 19 rfl) (kX12_far_0 20 rfl) (kX12_far_0 21 rfl) rfl
theorem dX12_far_22 : decode cX12_far 22 = .ok (.irem, 1) := dq_112 (kX12_far_0 22 rfl)
theorem dX12_far_23 : decode cX12_far 23 = .ok (.iload_n 2, 1) := dq_28 (kX12_far_0 23 rfl)
theorem dX12_far_24 : decode cX12_far 24 = .ok (.aload_n 0, 1) := dq_42 (kX12_far_0 24 rfl)
theorem dX12_far_25 : decode cX12_far 25 = .ok (.getfield 365, 3) := dq_180 (kX12_far_0 25 rfl) (kX12_far_0 26 rfl) (kX12_far_0 27 rfl) rfl
theorem dX12_far_28 : decode cX12_far 28 = .ok (.irem, 1) := dq_112 (kX12_far_0 28 rfl)
theorem dX12_far_29 : decode cX12_far 29 = .ok (.isub, 1) := dq_100 (kX12_far_0 29 rfl)
theorem dX12_far_30 : decode cX12_far 30 = .ok (.invokestatic 385, 3) := dq_184 (kX12_far_0 30 rfl) (kX12_far_0 31 rfl) (kX12_far_1 0 rfl) rfl
theorem dX12_far_33 : decode cX12_far 33 = .ok (.istore 4, 2) := dq_54 (kX12_far_1 1 rfl) (kX12_far_1 2 rfl) rfl
theorem dX12_far_35 : decode cX12_far 35 = .ok (.iload_n 3, 1) := dq_29 (kX12_far_1 3 rfl)
theorem dX12_far_36 : decode cX12_far 36 = .ok (.iload 4, 2) := dq_21 (kX12_far_1 4 rfl) (kX12_far_1 5 rfl) rfl
theorem dX12_far_38 : decode cX12_far 38 = .ok (.if_icmp .le 7, 3) := dq_164 (kX12_far_1 6 rfl) (kX12_far_1 7 rfl) (kX12_far_1 8 rfl) (by decide)
theorem dX12_far_41 : decode cX12_far 41 = .ok (.iload_n 3, 1) := dq_29 (kX12_far_1 9 rfl)
theorem dX12_far_42 : decode cX12_far 42 = .ok (.goto 5, 3) := dq_167 (kX12_far_1 10 rfl) (kX12_far_1 11 rfl) (kX12_far_1 12 rfl) (by decide)
theorem dX12_far_45 : decode cX12_far 45 = .ok (.iload 4, 2) := dq_21 (kX12_far_1 13 rfl) (kX12_far_1 14 rfl) rfl
theorem dX12_far_47 : decode cX12_far 47 = .ok (.ireturn, 1) := dq_172 (kX12_far_1 15 rfl)

def bX12_columnStep_0 : List UInt8 := [26, 4, 6, 184, 1, 115, 153, 0, 7, 4, 167, 0, 13, 26, 8, 161, 0, 7, 2, 167, 0, 4, 3, 172]
theorem kX12_columnStep_0 (j : Nat) {b : UInt8} (hj : bX12_columnStep_0[j]? = some b) : AtB cX12_columnStep (0 + j) b := at_of32 (by decide +kernel) j hj
theorem dX12_columnStep_0 : decode cX12_columnStep 0 = .ok (.iload_n 0, 1) := dq_26 (kX12_columnStep_0 0 rfl)
theorem dX12_columnStep_1 : decode cX12_columnStep 1 = .ok (.iconst 1, 1) := dq_4 (kX12_columnStep_0 1 rfl)
theorem dX12_columnStep_2 : decode cX12_columnStep 2 = .ok (.iconst 3, 1) := dq_6 (kX12_columnStep_0 2 rfl)
theorem dX12_columnStep_3 : decode cX12_columnStep 3 = .ok (.invokestatic 371, 3) := dq_184 (kX12_columnStep_0 3 rfl) (kX12_columnStep_0 4 rfl) (kX12_columnStep_0 5 rfl) rfl
theorem dX12_columnStep_6 : decode cX12_columnStep 6 = .ok (.ifCond .eq 7, 3) := dq_153 (kX12_columnStep_0 6 rfl) (kX12_columnStep_0 7 rfl) (kX12_columnStep_0 8 rfl) (by decide)
theorem dX12_columnStep_9 : decode cX12_columnStep 9 = .ok (.iconst 1, 1) := dq_4 (kX12_columnStep_0 9 rfl)
theorem dX12_columnStep_10 : decode cX12_columnStep 10 = .ok (.goto 13, 3) := dq_167 (kX12_columnStep_0 10 rfl) (kX12_columnStep_0 11 rfl) (kX12_columnStep_0 12 rfl) (by decide)
theorem dX12_columnStep_13 : decode cX12_columnStep 13 = .ok (.iload_n 0, 1) := dq_26 (kX12_columnStep_0 13 rfl)
theorem dX12_columnStep_14 : decode cX12_columnStep 14 = .ok (.iconst 5, 1) := dq_8 (kX12_columnStep_0 14 rfl)
theorem dX12_columnStep_15 : decode cX12_columnStep 15 = .ok (.if_icmp .lt 7, 3) := dq_161 (kX12_columnStep_0 15 rfl) (kX12_columnStep_0 16 rfl) (kX12_columnStep_0 17 rfl) (by decide)
theorem dX12_columnStep_18 : decode cX12_columnStep 18 = .ok (.iconst (-1), 1) := dq_2 (kX12_columnStep_0 18 rfl)
theorem dX12_columnStep_19 : decode cX12_columnStep 19 = .ok (.goto 4, 3) := dq_167 (kX12_columnStep_0 19 rfl) (kX12_columnStep_0 20 rfl) (kX12_columnStep_0 21 rfl) (by decide)
theorem dX12_columnStep_22 : decode cX12_columnStep 22 = .ok (.iconst 0, 1) := dq_3 (kX12_columnStep_0 22 rfl)
theorem dX12_columnStep_23 : decode cX12_columnStep 23 = .ok (.ireturn, 1) := dq_172 (kX12_columnStep_0 23 rfl)

def bX12_rowStep_0 : List UInt8 := [26, 153, 0, 14, 26, 4, 159, 0, 9, 26, 16, 7, 160, 0, 7, 2, 167, 0, 17, 26, 6, 8, 184, 1, 115, 153, 0, 7, 4, 167, 0, 4]
theorem kX12_rowStep_0 (j : Nat) {b : UInt8} (hj : bX12_rowStep_0[j]? = some b) : AtB cX12_rowStep (0 + j) b := at_of32 (by decide +kernel) j hj
def bX12_rowStep_1 : List UInt8 := [3, 172]
theorem kX12_rowStep_1 (j : Nat) {b : UInt8} (hj : bX12_rowStep_1[j]? = some b) : AtB cX12_rowStep (32 + j) b := at_of32 (by decide +kernel) j hj
theorem dX12_rowStep_0 : decode cX12_rowStep 0 = .ok (.iload_n 0, 1) := dq_26 (kX12_rowStep_0 0 rfl)
theorem dX12_rowStep_1 : decode cX12_rowStep 1 = .ok (.ifCond .eq 14, 3) := dq_153 (kX12_rowStep_0 1 rfl) (kX12_rowStep_0 2 rfl) (kX12_rowStep_0 3 rfl) (by decide)
theorem dX12_rowStep_4 : decode cX12_rowStep 4 = .ok (.iload_n 0, 1) := dq_26 (kX12_rowStep_0 4 rfl)
theorem dX12_rowStep_5 : decode cX12_rowStep 5 = .ok (.iconst 1, 1) := dq_4 (kX12_rowStep_0 5 rfl)
theorem dX12_rowStep_6 : decode cX12_rowStep 6 = .ok (.if_icmp .eq 9, 3) := dq_159 (kX12_rowStep_0 6 rfl) (kX12_rowStep_0 7 rfl) (kX12_rowStep_0 8 rfl) (by decide)
theorem dX12_rowStep_9 : decode cX12_rowStep 9 = .ok (.iload_n 0, 1) := dq_26 (kX12_rowStep_0 9 rfl)
theorem dX12_rowStep_10 : decode cX12_rowStep 10 = .ok (.bipush 7, 2) := dq_16 (kX12_rowStep_0 10 rfl) (kX12_rowStep_0 11 rfl) (by decide)
theorem dX12_rowStep_12 : decode cX12_rowStep 12 = .ok (.if_icmp .ne 7, 3) := dq_160 (kX12_rowStep_0 12 rfl) (kX12_rowStep_0 13 rfl) (kX12_rowStep_0 14 rfl) (by decide)
theorem dX12_rowStep_15 : decode cX12_rowStep 15 = .ok (.iconst (-1), 1) := dq_2 (kX12_rowStep_0 15 rfl)
theorem dX12_rowStep_16 : decode cX12_rowStep 16 = .ok (.goto 17, 3) := dq_167 (kX12_rowStep_0 16 rfl) (kX12_rowStep_0 17 rfl) (kX12_rowStep_0 18 rfl) (by decide)
theorem dX12_rowStep_19 : decode cX12_rowStep 19 = .ok (.iload_n 0, 1) := dq_26 (kX12_rowStep_0 19 rfl)
theorem dX12_rowStep_20 : decode cX12_rowStep 20 = .ok (.iconst 3, 1) := dq_6 (kX12_rowStep_0 20 rfl)
theorem dX12_rowStep_21 : decode cX12_rowStep 21 = .ok (.iconst 5, 1) := dq_8 (kX12_rowStep_0 21 rfl)
theorem dX12_rowStep_22 : decode cX12_rowStep 22 = .ok (.invokestatic 371, 3) := dq_184 (kX12_rowStep_0 22 rfl) (kX12_rowStep_0 23 rfl) (kX12_rowStep_0 24 rfl) rfl
theorem dX12_rowStep_25 : decode cX12_rowStep 25 = .ok (.ifCond .eq 7, 3) := dq_153 (kX12_rowStep_0 25 rfl) (kX12_rowStep_0 26 rfl) (kX12_rowStep_0 27 rfl) (by decide)
theorem dX12_rowStep_28 : decode cX12_rowStep 28 = .ok (.iconst 1, 1) := dq_4 (kX12_rowStep_0 28 rfl)
theorem dX12_rowStep_29 : decode cX12_rowStep 29 = .ok (.goto 4, 3) := dq_167 (kX12_rowStep_0 29 rfl) (kX12_rowStep_0 30 rfl) (kX12_rowStep_0 31 rfl) (by decide)
theorem dX12_rowStep_32 : decode cX12_rowStep 32 = .ok (.iconst 0, 1) := dq_3 (kX12_rowStep_1 0 rfl)
theorem dX12_rowStep_33 : decode cX12_rowStep 33 = .ok (.ireturn, 1) := dq_172 (kX12_rowStep_1 1 rfl)

def bX12_moved_0 : List UInt8 := [27, 42, 180, 1, 109, 112, 28, 96, 54, 4, 27, 42, 180, 1, 109, 108, 29, 96, 54, 5, 21, 4, 3, 42, 180, 1, 109, 4, 100, 184, 1, 115]
theorem kX12_moved_0 (j : Nat) {b : UInt8} (hj : bX12_moved_0[j]? = some b) : AtB cX12_moved (0 + j) b := at_of32 (by decide +kernel) j hj
def bX12_moved_1 : List UInt8 := [153, 0, 31, 21, 5, 3, 42, 180, 1, 112, 4, 100, 184, 1, 115, 153, 0, 16, 42, 180, 1, 109, 21, 5, 104, 21, 4, 96, 167, 0, 4, 2]
theorem kX12_moved_1 (j : Nat) {b : UInt8} (hj : bX12_moved_1[j]? = some b) : AtB cX12_moved (32 + j) b := at_of32 (by decide +kernel) j hj
def bX12_moved_2 : List UInt8 := [172]
theorem kX12_moved_2 (j : Nat) {b : UInt8} (hj : bX12_moved_2[j]? = some b) : AtB cX12_moved (64 + j) b := at_of32 (by decide +kernel) j hj
theorem dX12_moved_0 : decode cX12_moved 0 = .ok (.iload_n 1, 1) := dq_27 (kX12_moved_0 0 rfl)
theorem dX12_moved_1 : decode cX12_moved 1 = .ok (.aload_n 0, 1) := dq_42 (kX12_moved_0 1 rfl)
theorem dX12_moved_2 : decode cX12_moved 2 = .ok (.getfield 365, 3) := dq_180 (kX12_moved_0 2 rfl) (kX12_moved_0 3 rfl) (kX12_moved_0 4 rfl) rfl
theorem dX12_moved_5 : decode cX12_moved 5 = .ok (.irem, 1) := dq_112 (kX12_moved_0 5 rfl)
theorem dX12_moved_6 : decode cX12_moved 6 = .ok (.iload_n 2, 1) := dq_28 (kX12_moved_0 6 rfl)
theorem dX12_moved_7 : decode cX12_moved 7 = .ok (.iadd, 1) := dq_96 (kX12_moved_0 7 rfl)
theorem dX12_moved_8 : decode cX12_moved 8 = .ok (.istore 4, 2) := dq_54 (kX12_moved_0 8 rfl) (kX12_moved_0 9 rfl) rfl
theorem dX12_moved_10 : decode cX12_moved 10 = .ok (.iload_n 1, 1) := dq_27 (kX12_moved_0 10 rfl)
theorem dX12_moved_11 : decode cX12_moved 11 = .ok (.aload_n 0, 1) := dq_42 (kX12_moved_0 11 rfl)
theorem dX12_moved_12 : decode cX12_moved 12 = .ok (.getfield 365, 3) := dq_180 (kX12_moved_0 12 rfl) (kX12_moved_0 13 rfl) (kX12_moved_0 14 rfl) rfl
theorem dX12_moved_15 : decode cX12_moved 15 = .ok (.idiv, 1) := dq_108 (kX12_moved_0 15 rfl)
theorem dX12_moved_16 : decode cX12_moved 16 = .ok (.iload_n 3, 1) := dq_29 (kX12_moved_0 16 rfl)
theorem dX12_moved_17 : decode cX12_moved 17 = .ok (.iadd, 1) := dq_96 (kX12_moved_0 17 rfl)
theorem dX12_moved_18 : decode cX12_moved 18 = .ok (.istore 5, 2) := dq_54 (kX12_moved_0 18 rfl) (kX12_moved_0 19 rfl) rfl
theorem dX12_moved_20 : decode cX12_moved 20 = .ok (.iload 4, 2) := dq_21 (kX12_moved_0 20 rfl) (kX12_moved_0 21 rfl) rfl
theorem dX12_moved_22 : decode cX12_moved 22 = .ok (.iconst 0, 1) := dq_3 (kX12_moved_0 22 rfl)
theorem dX12_moved_23 : decode cX12_moved 23 = .ok (.aload_n 0, 1) := dq_42 (kX12_moved_0 23 rfl)
theorem dX12_moved_24 : decode cX12_moved 24 = .ok (.getfield 365, 3) := dq_180 (kX12_moved_0 24 rfl) (kX12_moved_0 25 rfl) (kX12_moved_0 26 rfl) rfl
theorem dX12_moved_27 : decode cX12_moved 27 = .ok (.iconst 1, 1) := dq_4 (kX12_moved_0 27 rfl)
theorem dX12_moved_28 : decode cX12_moved 28 = .ok (.isub, 1) := dq_100 (kX12_moved_0 28 rfl)
theorem dX12_moved_29 : decode cX12_moved 29 = .ok (.invokestatic 371, 3) := dq_184 (kX12_moved_0 29 rfl) (kX12_moved_0 30 rfl) (kX12_moved_0 31 rfl) rfl
theorem dX12_moved_32 : decode cX12_moved 32 = .ok (.ifCond .eq 31, 3) := dq_153 (kX12_moved_1 0 rfl) (kX12_moved_1 1 rfl) (kX12_moved_1 2 rfl) (by decide)
theorem dX12_moved_35 : decode cX12_moved 35 = .ok (.iload 5, 2) := dq_21 (kX12_moved_1 3 rfl) (kX12_moved_1 4 rfl) rfl
theorem dX12_moved_37 : decode cX12_moved 37 = .ok (.iconst 0, 1) := dq_3 (kX12_moved_1 5 rfl)
theorem dX12_moved_38 : decode cX12_moved 38 = .ok (.aload_n 0, 1) := dq_42 (kX12_moved_1 6 rfl)
theorem dX12_moved_39 : decode cX12_moved 39 = .ok (.getfield 368, 3) := dq_180 (kX12_moved_1 7 rfl) (kX12_moved_1 8 rfl) (kX12_moved_1 9 rfl) rfl
theorem dX12_moved_42 : decode cX12_moved 42 = .ok (.iconst 1, 1) := dq_4 (kX12_moved_1 10 rfl)
theorem dX12_moved_43 : decode cX12_moved 43 = .ok (.isub, 1) := dq_100 (kX12_moved_1 11 rfl)
theorem dX12_moved_44 : decode cX12_moved 44 = .ok (.invokestatic 371, 3) := dq_184 (kX12_moved_1 12 rfl) (kX12_moved_1 13 rfl) (kX12_moved_1 14 rfl) rfl
theorem dX12_moved_47 : decode cX12_moved 47 = .ok (.ifCond .eq 16, 3) := dq_153 (kX12_moved_1 15 rfl) (kX12_moved_1 16 rfl) (kX12_moved_1 17 rfl) (by decide)
theorem dX12_moved_50 : decode cX12_moved 50 = .ok (.aload_n 0, 1) := dq_42 (kX12_moved_1 18 rfl)
theorem dX12_moved_51 : decode cX12_moved 51 = .ok (.getfield 365, 3) := dq_180 (kX12_moved_1 19 rfl) (kX12_moved_1 20 rfl) (kX12_moved_1 21 rfl) rfl
theorem dX12_moved_54 : decode cX12_moved 54 = .ok (.iload 5, 2) := dq_21 (kX12_moved_1 22 rfl) (kX12_moved_1 23 rfl) rfl
theorem dX12_moved_56 : decode cX12_moved 56 = .ok (.imul, 1) := dq_104 (kX12_moved_1 24 rfl)
theorem dX12_moved_57 : decode cX12_moved 57 = .ok (.iload 4, 2) := dq_21 (kX12_moved_1 25 rfl) (kX12_moved_1 26 rfl) rfl
theorem dX12_moved_59 : decode cX12_moved 59 = .ok (.iadd, 1) := dq_96 (kX12_moved_1 27 rfl)
theorem dX12_moved_60 : decode cX12_moved 60 = .ok (.goto 4, 3) := dq_167 (kX12_moved_1 28 rfl) (kX12_moved_1 29 rfl) (kX12_moved_1 30 rfl) (by decide)
theorem dX12_moved_63 : decode cX12_moved 63 = .ok (.iconst (-1), 1) := dq_2 (kX12_moved_1 31 rfl)
theorem dX12_moved_64 : decode cX12_moved 64 = .ok (.ireturn, 1) := dq_172 (kX12_moved_2 0 rfl)

def bX12_isLand_0 : List UInt8 := [42, 180, 0, 20, 27, 46, 5, 162, 0, 7, 4, 167, 0, 4, 3, 172]
theorem kX12_isLand_0 (j : Nat) {b : UInt8} (hj : bX12_isLand_0[j]? = some b) : AtB cX12_isLand (0 + j) b := at_of32 (by decide +kernel) j hj
theorem dX12_isLand_0 : decode cX12_isLand 0 = .ok (.aload_n 0, 1) := dq_42 (kX12_isLand_0 0 rfl)
theorem dX12_isLand_1 : decode cX12_isLand 1 = .ok (.getfield 20, 3) := dq_180 (kX12_isLand_0 1 rfl) (kX12_isLand_0 2 rfl) (kX12_isLand_0 3 rfl) rfl
theorem dX12_isLand_4 : decode cX12_isLand 4 = .ok (.iload_n 1, 1) := dq_27 (kX12_isLand_0 4 rfl)
theorem dX12_isLand_5 : decode cX12_isLand 5 = .ok (.iaload, 1) := dq_46 (kX12_isLand_0 5 rfl)
theorem dX12_isLand_6 : decode cX12_isLand 6 = .ok (.iconst 2, 1) := dq_5 (kX12_isLand_0 6 rfl)
theorem dX12_isLand_7 : decode cX12_isLand 7 = .ok (.if_icmp .ge 7, 3) := dq_162 (kX12_isLand_0 7 rfl) (kX12_isLand_0 8 rfl) (kX12_isLand_0 9 rfl) (by decide)
theorem dX12_isLand_10 : decode cX12_isLand 10 = .ok (.iconst 1, 1) := dq_4 (kX12_isLand_0 10 rfl)
theorem dX12_isLand_11 : decode cX12_isLand 11 = .ok (.goto 4, 3) := dq_167 (kX12_isLand_0 11 rfl) (kX12_isLand_0 12 rfl) (kX12_isLand_0 13 rfl) (by decide)
theorem dX12_isLand_14 : decode cX12_isLand 14 = .ok (.iconst 0, 1) := dq_3 (kX12_isLand_0 14 rfl)
theorem dX12_isLand_15 : decode cX12_isLand 15 = .ok (.ireturn, 1) := dq_172 (kX12_isLand_0 15 rfl)

def bX12_isNearSea_0 : List UInt8 := [3, 61, 28, 42, 180, 1, 109, 42, 180, 1, 112, 104, 162, 0, 31, 42, 180, 0, 20, 28, 46, 5, 160, 0, 15, 42, 28, 27, 182, 1, 133, 4]
theorem kX12_isNearSea_0 (j : Nat) {b : UInt8} (hj : bX12_isNearSea_0[j]? = some b) : AtB cX12_isNearSea (0 + j) b := at_of32 (by decide +kernel) j hj
def bX12_isNearSea_1 : List UInt8 := [163, 0, 5, 4, 172, 132, 2, 1, 167, 255, 218, 3, 172]
theorem kX12_isNearSea_1 (j : Nat) {b : UInt8} (hj : bX12_isNearSea_1[j]? = some b) : AtB cX12_isNearSea (32 + j) b := at_of32 (by decide +kernel) j hj
theorem dX12_isNearSea_0 : decode cX12_isNearSea 0 = .ok (.iconst 0, 1) := dq_3 (kX12_isNearSea_0 0 rfl)
theorem dX12_isNearSea_1 : decode cX12_isNearSea 1 = .ok (.istore_n 2, 1) := dq_61 (kX12_isNearSea_0 1 rfl)
theorem dX12_isNearSea_2 : decode cX12_isNearSea 2 = .ok (.iload_n 2, 1) := dq_28 (kX12_isNearSea_0 2 rfl)
theorem dX12_isNearSea_3 : decode cX12_isNearSea 3 = .ok (.aload_n 0, 1) := dq_42 (kX12_isNearSea_0 3 rfl)
theorem dX12_isNearSea_4 : decode cX12_isNearSea 4 = .ok (.getfield 365, 3) := dq_180 (kX12_isNearSea_0 4 rfl) (kX12_isNearSea_0 5 rfl) (kX12_isNearSea_0 6 rfl) rfl
theorem dX12_isNearSea_7 : decode cX12_isNearSea 7 = .ok (.aload_n 0, 1) := dq_42 (kX12_isNearSea_0 7 rfl)
theorem dX12_isNearSea_8 : decode cX12_isNearSea 8 = .ok (.getfield 368, 3) := dq_180 (kX12_isNearSea_0 8 rfl) (kX12_isNearSea_0 9 rfl) (kX12_isNearSea_0 10 rfl) rfl
theorem dX12_isNearSea_11 : decode cX12_isNearSea 11 = .ok (.imul, 1) := dq_104 (kX12_isNearSea_0 11 rfl)
theorem dX12_isNearSea_12 : decode cX12_isNearSea 12 = .ok (.if_icmp .ge 31, 3) := dq_162 (kX12_isNearSea_0 12 rfl) (kX12_isNearSea_0 13 rfl) (kX12_isNearSea_0 14 rfl) (by decide)
theorem dX12_isNearSea_15 : decode cX12_isNearSea 15 = .ok (.aload_n 0, 1) := dq_42 (kX12_isNearSea_0 15 rfl)
theorem dX12_isNearSea_16 : decode cX12_isNearSea 16 = .ok (.getfield 20, 3) := dq_180 (kX12_isNearSea_0 16 rfl) (kX12_isNearSea_0 17 rfl) (kX12_isNearSea_0 18 rfl) rfl
theorem dX12_isNearSea_19 : decode cX12_isNearSea 19 = .ok (.iload_n 2, 1) := dq_28 (kX12_isNearSea_0 19 rfl)
theorem dX12_isNearSea_20 : decode cX12_isNearSea 20 = .ok (.iaload, 1) := dq_46 (kX12_isNearSea_0 20 rfl)
theorem dX12_isNearSea_21 : decode cX12_isNearSea 21 = .ok (.iconst 2, 1) := dq_5 (kX12_isNearSea_0 21 rfl)
theorem dX12_isNearSea_22 : decode cX12_isNearSea 22 = .ok (.if_icmp .ne 15, 3) := dq_160 (kX12_isNearSea_0 22 rfl) (kX12_isNearSea_0 23 rfl) (kX12_isNearSea_0 24 rfl) (by decide)
theorem dX12_isNearSea_25 : decode cX12_isNearSea 25 = .ok (.aload_n 0, 1) := dq_42 (kX12_isNearSea_0 25 rfl)
theorem dX12_isNearSea_26 : decode cX12_isNearSea 26 = .ok (.iload_n 2, 1) := dq_28 (kX12_isNearSea_0 26 rfl)
theorem dX12_isNearSea_27 : decode cX12_isNearSea 27 = .ok (.iload_n 1, 1) := dq_27 (kX12_isNearSea_0 27 rfl)
theorem dX12_isNearSea_28 : decode cX12_isNearSea 28 = .ok (.invokevirtual 389, 3) := dq_182 (kX12_isNearSea_0 28 rfl) (kX12_isNearSea_0 29 rfl) (kX12_isNearSea_0 30 rfl) rfl
theorem dX12_isNearSea_31 : decode cX12_isNearSea 31 = .ok (.iconst 1, 1) := dq_4 (kX12_isNearSea_0 31 rfl)
theorem dX12_isNearSea_32 : decode cX12_isNearSea 32 = .ok (.if_icmp .gt 5, 3) := dq_163 (kX12_isNearSea_1 0 rfl) (kX12_isNearSea_1 1 rfl) (kX12_isNearSea_1 2 rfl) (by decide)
theorem dX12_isNearSea_35 : decode cX12_isNearSea 35 = .ok (.iconst 1, 1) := dq_4 (kX12_isNearSea_1 3 rfl)
theorem dX12_isNearSea_36 : decode cX12_isNearSea 36 = .ok (.ireturn, 1) := dq_172 (kX12_isNearSea_1 4 rfl)
theorem dX12_isNearSea_37 : decode cX12_isNearSea 37 = .ok (.iinc 2 1, 3) := dq_132 (kX12_isNearSea_1 5 rfl) (kX12_isNearSea_1 6 rfl) (kX12_isNearSea_1 7 rfl) rfl (by decide)
theorem dX12_isNearSea_40 : decode cX12_isNearSea 40 = .ok (.goto (-38), 3) := dq_167 (kX12_isNearSea_1 8 rfl) (kX12_isNearSea_1 9 rfl) (kX12_isNearSea_1 10 rfl) (by decide)
theorem dX12_isNearSea_43 : decode cX12_isNearSea 43 = .ok (.iconst 0, 1) := dq_3 (kX12_isNearSea_1 11 rfl)
theorem dX12_isNearSea_44 : decode cX12_isNearSea 44 = .ok (.ireturn, 1) := dq_172 (kX12_isNearSea_1 12 rfl)

def bX12_party_0 : List UInt8 := [42, 180, 1, 137, 16, 9, 160, 0, 5, 2, 172, 42, 180, 0, 29, 42, 180, 1, 137, 27, 153, 0, 10, 42, 180, 1, 140, 167, 0, 4, 2, 79]
theorem kX12_party_0 (j : Nat) {b : UInt8} (hj : bX12_party_0[j]? = some b) : AtB cX12_party (0 + j) b := at_of32 (by decide +kernel) j hj
def bX12_party_1 : List UInt8 := [42, 42, 180, 1, 137, 4, 96, 181, 1, 137, 42, 180, 1, 137, 4, 100, 172]
theorem kX12_party_1 (j : Nat) {b : UInt8} (hj : bX12_party_1[j]? = some b) : AtB cX12_party (32 + j) b := at_of32 (by decide +kernel) j hj
theorem dX12_party_0 : decode cX12_party 0 = .ok (.aload_n 0, 1) := dq_42 (kX12_party_0 0 rfl)
theorem dX12_party_1 : decode cX12_party 1 = .ok (.getfield 393, 3) := dq_180 (kX12_party_0 1 rfl) (kX12_party_0 2 rfl) (kX12_party_0 3 rfl) rfl
theorem dX12_party_4 : decode cX12_party 4 = .ok (.bipush 9, 2) := dq_16 (kX12_party_0 4 rfl) (kX12_party_0 5 rfl) (by decide)
theorem dX12_party_6 : decode cX12_party 6 = .ok (.if_icmp .ne 5, 3) := dq_160 (kX12_party_0 6 rfl) (kX12_party_0 7 rfl) (kX12_party_0 8 rfl) (by decide)
theorem dX12_party_9 : decode cX12_party 9 = .ok (.iconst (-1), 1) := dq_2 (kX12_party_0 9 rfl)
theorem dX12_party_10 : decode cX12_party 10 = .ok (.ireturn, 1) := dq_172 (kX12_party_0 10 rfl)
theorem dX12_party_11 : decode cX12_party 11 = .ok (.aload_n 0, 1) := dq_42 (kX12_party_0 11 rfl)
theorem dX12_party_12 : decode cX12_party 12 = .ok (.getfield 29, 3) := dq_180 (kX12_party_0 12 rfl) (kX12_party_0 13 rfl) (kX12_party_0 14 rfl) rfl
theorem dX12_party_15 : decode cX12_party 15 = .ok (.aload_n 0, 1) := dq_42 (kX12_party_0 15 rfl)
theorem dX12_party_16 : decode cX12_party 16 = .ok (.getfield 393, 3) := dq_180 (kX12_party_0 16 rfl) (kX12_party_0 17 rfl) (kX12_party_0 18 rfl) rfl
theorem dX12_party_19 : decode cX12_party 19 = .ok (.iload_n 1, 1) := dq_27 (kX12_party_0 19 rfl)
theorem dX12_party_20 : decode cX12_party 20 = .ok (.ifCond .eq 10, 3) := dq_153 (kX12_party_0 20 rfl) (kX12_party_0 21 rfl) (kX12_party_0 22 rfl) (by decide)
theorem dX12_party_23 : decode cX12_party 23 = .ok (.aload_n 0, 1) := dq_42 (kX12_party_0 23 rfl)
theorem dX12_party_24 : decode cX12_party 24 = .ok (.getfield 396, 3) := dq_180 (kX12_party_0 24 rfl) (kX12_party_0 25 rfl) (kX12_party_0 26 rfl) rfl
theorem dX12_party_27 : decode cX12_party 27 = .ok (.goto 4, 3) := dq_167 (kX12_party_0 27 rfl) (kX12_party_0 28 rfl) (kX12_party_0 29 rfl) (by decide)
theorem dX12_party_30 : decode cX12_party 30 = .ok (.iconst (-1), 1) := dq_2 (kX12_party_0 30 rfl)
theorem dX12_party_31 : decode cX12_party 31 = .ok (.iastore, 1) := dq_79 (kX12_party_0 31 rfl)
theorem dX12_party_32 : decode cX12_party 32 = .ok (.aload_n 0, 1) := dq_42 (kX12_party_1 0 rfl)
theorem dX12_party_33 : decode cX12_party 33 = .ok (.aload_n 0, 1) := dq_42 (kX12_party_1 1 rfl)
theorem dX12_party_34 : decode cX12_party 34 = .ok (.getfield 393, 3) := dq_180 (kX12_party_1 2 rfl) (kX12_party_1 3 rfl) (kX12_party_1 4 rfl) rfl
theorem dX12_party_37 : decode cX12_party 37 = .ok (.iconst 1, 1) := dq_4 (kX12_party_1 5 rfl)
theorem dX12_party_38 : decode cX12_party 38 = .ok (.iadd, 1) := dq_96 (kX12_party_1 6 rfl)
theorem dX12_party_39 : decode cX12_party 39 = .ok (.putfield 393, 3) := dq_181 (kX12_party_1 7 rfl) (kX12_party_1 8 rfl) (kX12_party_1 9 rfl) rfl
theorem dX12_party_42 : decode cX12_party 42 = .ok (.aload_n 0, 1) := dq_42 (kX12_party_1 10 rfl)
theorem dX12_party_43 : decode cX12_party 43 = .ok (.getfield 393, 3) := dq_180 (kX12_party_1 11 rfl) (kX12_party_1 12 rfl) (kX12_party_1 13 rfl) rfl
theorem dX12_party_46 : decode cX12_party 46 = .ok (.iconst 1, 1) := dq_4 (kX12_party_1 14 rfl)
theorem dX12_party_47 : decode cX12_party 47 = .ok (.isub, 1) := dq_100 (kX12_party_1 15 rfl)
theorem dX12_party_48 : decode cX12_party 48 = .ok (.ireturn, 1) := dq_172 (kX12_party_1 16 rfl)

def bX12_isParty_0 : List UInt8 := [27, 155, 0, 15, 27, 42, 180, 1, 137, 162, 0, 7, 4, 167, 0, 4, 3, 172]
theorem kX12_isParty_0 (j : Nat) {b : UInt8} (hj : bX12_isParty_0[j]? = some b) : AtB cX12_isParty (0 + j) b := at_of32 (by decide +kernel) j hj
theorem dX12_isParty_0 : decode cX12_isParty 0 = .ok (.iload_n 1, 1) := dq_27 (kX12_isParty_0 0 rfl)
theorem dX12_isParty_1 : decode cX12_isParty 1 = .ok (.ifCond .lt 15, 3) := dq_155 (kX12_isParty_0 1 rfl) (kX12_isParty_0 2 rfl) (kX12_isParty_0 3 rfl) (by decide)
theorem dX12_isParty_4 : decode cX12_isParty 4 = .ok (.iload_n 1, 1) := dq_27 (kX12_isParty_0 4 rfl)
theorem dX12_isParty_5 : decode cX12_isParty 5 = .ok (.aload_n 0, 1) := dq_42 (kX12_isParty_0 5 rfl)
theorem dX12_isParty_6 : decode cX12_isParty 6 = .ok (.getfield 393, 3) := dq_180 (kX12_isParty_0 6 rfl) (kX12_isParty_0 7 rfl) (kX12_isParty_0 8 rfl) rfl
theorem dX12_isParty_9 : decode cX12_isParty 9 = .ok (.if_icmp .ge 7, 3) := dq_162 (kX12_isParty_0 9 rfl) (kX12_isParty_0 10 rfl) (kX12_isParty_0 11 rfl) (by decide)
theorem dX12_isParty_12 : decode cX12_isParty 12 = .ok (.iconst 1, 1) := dq_4 (kX12_isParty_0 12 rfl)
theorem dX12_isParty_13 : decode cX12_isParty 13 = .ok (.goto 4, 3) := dq_167 (kX12_isParty_0 13 rfl) (kX12_isParty_0 14 rfl) (kX12_isParty_0 15 rfl) (by decide)
theorem dX12_isParty_16 : decode cX12_isParty 16 = .ok (.iconst 0, 1) := dq_3 (kX12_isParty_0 16 rfl)
theorem dX12_isParty_17 : decode cX12_isParty 17 = .ok (.ireturn, 1) := dq_172 (kX12_isParty_0 17 rfl)

def bX12_isPlace_0 : List UInt8 := [27, 155, 0, 25, 27, 42, 180, 1, 119, 162, 0, 17, 42, 180, 0, 35, 27, 46, 28, 160, 0, 7, 4, 167, 0, 4, 3, 172]
theorem kX12_isPlace_0 (j : Nat) {b : UInt8} (hj : bX12_isPlace_0[j]? = some b) : AtB cX12_isPlace (0 + j) b := at_of32 (by decide +kernel) j hj
theorem dX12_isPlace_0 : decode cX12_isPlace 0 = .ok (.iload_n 1, 1) := dq_27 (kX12_isPlace_0 0 rfl)
theorem dX12_isPlace_1 : decode cX12_isPlace 1 = .ok (.ifCond .lt 25, 3) := dq_155 (kX12_isPlace_0 1 rfl) (kX12_isPlace_0 2 rfl) (kX12_isPlace_0 3 rfl) (by decide)
theorem dX12_isPlace_4 : decode cX12_isPlace 4 = .ok (.iload_n 1, 1) := dq_27 (kX12_isPlace_0 4 rfl)
theorem dX12_isPlace_5 : decode cX12_isPlace 5 = .ok (.aload_n 0, 1) := dq_42 (kX12_isPlace_0 5 rfl)
theorem dX12_isPlace_6 : decode cX12_isPlace 6 = .ok (.getfield 375, 3) := dq_180 (kX12_isPlace_0 6 rfl) (kX12_isPlace_0 7 rfl) (kX12_isPlace_0 8 rfl) rfl
theorem dX12_isPlace_9 : decode cX12_isPlace 9 = .ok (.if_icmp .ge 17, 3) := dq_162 (kX12_isPlace_0 9 rfl) (kX12_isPlace_0 10 rfl) (kX12_isPlace_0 11 rfl) (by decide)
theorem dX12_isPlace_12 : decode cX12_isPlace 12 = .ok (.aload_n 0, 1) := dq_42 (kX12_isPlace_0 12 rfl)
theorem dX12_isPlace_13 : decode cX12_isPlace 13 = .ok (.getfield 35, 3) := dq_180 (kX12_isPlace_0 13 rfl) (kX12_isPlace_0 14 rfl) (kX12_isPlace_0 15 rfl) rfl
theorem dX12_isPlace_16 : decode cX12_isPlace 16 = .ok (.iload_n 1, 1) := dq_27 (kX12_isPlace_0 16 rfl)
theorem dX12_isPlace_17 : decode cX12_isPlace 17 = .ok (.iaload, 1) := dq_46 (kX12_isPlace_0 17 rfl)
theorem dX12_isPlace_18 : decode cX12_isPlace 18 = .ok (.iload_n 2, 1) := dq_28 (kX12_isPlace_0 18 rfl)
theorem dX12_isPlace_19 : decode cX12_isPlace 19 = .ok (.if_icmp .ne 7, 3) := dq_160 (kX12_isPlace_0 19 rfl) (kX12_isPlace_0 20 rfl) (kX12_isPlace_0 21 rfl) (by decide)
theorem dX12_isPlace_22 : decode cX12_isPlace 22 = .ok (.iconst 1, 1) := dq_4 (kX12_isPlace_0 22 rfl)
theorem dX12_isPlace_23 : decode cX12_isPlace 23 = .ok (.goto 4, 3) := dq_167 (kX12_isPlace_0 23 rfl) (kX12_isPlace_0 24 rfl) (kX12_isPlace_0 25 rfl) (by decide)
theorem dX12_isPlace_26 : decode cX12_isPlace 26 = .ok (.iconst 0, 1) := dq_3 (kX12_isPlace_0 26 rfl)
theorem dX12_isPlace_27 : decode cX12_isPlace 27 = .ok (.ireturn, 1) := dq_172 (kX12_isPlace_0 27 rfl)

def bX12_isStation_0 : List UInt8 := [42, 27, 4, 182, 1, 143, 172]
theorem kX12_isStation_0 (j : Nat) {b : UInt8} (hj : bX12_isStation_0[j]? = some b) : AtB cX12_isStation (0 + j) b := at_of32 (by decide +kernel) j hj
theorem dX12_isStation_0 : decode cX12_isStation 0 = .ok (.aload_n 0, 1) := dq_42 (kX12_isStation_0 0 rfl)
theorem dX12_isStation_1 : decode cX12_isStation 1 = .ok (.iload_n 1, 1) := dq_27 (kX12_isStation_0 1 rfl)
theorem dX12_isStation_2 : decode cX12_isStation 2 = .ok (.iconst 1, 1) := dq_4 (kX12_isStation_0 2 rfl)
theorem dX12_isStation_3 : decode cX12_isStation 3 = .ok (.invokevirtual 399, 3) := dq_182 (kX12_isStation_0 3 rfl) (kX12_isStation_0 4 rfl) (kX12_isStation_0 5 rfl) rfl
theorem dX12_isStation_6 : decode cX12_isStation 6 = .ok (.ireturn, 1) := dq_172 (kX12_isStation_0 6 rfl)

def bX12_stands_0 : List UInt8 := [42, 27, 182, 1, 147, 153, 0, 16, 42, 180, 0, 80, 27, 51, 154, 0, 7, 4, 167, 0, 4, 3, 172]
theorem kX12_stands_0 (j : Nat) {b : UInt8} (hj : bX12_stands_0[j]? = some b) : AtB cX12_stands (0 + j) b := at_of32 (by decide +kernel) j hj
theorem dX12_stands_0 : decode cX12_stands 0 = .ok (.aload_n 0, 1) := dq_42 (kX12_stands_0 0 rfl)
theorem dX12_stands_1 : decode cX12_stands 1 = .ok (.iload_n 1, 1) := dq_27 (kX12_stands_0 1 rfl)
theorem dX12_stands_2 : decode cX12_stands 2 = .ok (.invokevirtual 403, 3) := dq_182 (kX12_stands_0 2 rfl) (kX12_stands_0 3 rfl) (kX12_stands_0 4 rfl) rfl
theorem dX12_stands_5 : decode cX12_stands 5 = .ok (.ifCond .eq 16, 3) := dq_153 (kX12_stands_0 5 rfl) (kX12_stands_0 6 rfl) (kX12_stands_0 7 rfl) (by decide)
theorem dX12_stands_8 : decode cX12_stands 8 = .ok (.aload_n 0, 1) := dq_42 (kX12_stands_0 8 rfl)
theorem dX12_stands_9 : decode cX12_stands 9 = .ok (.getfield 80, 3) := dq_180 (kX12_stands_0 9 rfl) (kX12_stands_0 10 rfl) (kX12_stands_0 11 rfl) rfl
theorem dX12_stands_12 : decode cX12_stands 12 = .ok (.iload_n 1, 1) := dq_27 (kX12_stands_0 12 rfl)
theorem dX12_stands_13 : decode cX12_stands 13 = .ok (.baload, 1) := dq_51 (kX12_stands_0 13 rfl)
theorem dX12_stands_14 : decode cX12_stands 14 = .ok (.ifCond .ne 7, 3) := dq_154 (kX12_stands_0 14 rfl) (kX12_stands_0 15 rfl) (kX12_stands_0 16 rfl) (by decide)
theorem dX12_stands_17 : decode cX12_stands 17 = .ok (.iconst 1, 1) := dq_4 (kX12_stands_0 17 rfl)
theorem dX12_stands_18 : decode cX12_stands 18 = .ok (.goto 4, 3) := dq_167 (kX12_stands_0 18 rfl) (kX12_stands_0 19 rfl) (kX12_stands_0 20 rfl) (by decide)
theorem dX12_stands_21 : decode cX12_stands 21 = .ok (.iconst 0, 1) := dq_3 (kX12_stands_0 21 rfl)
theorem dX12_stands_22 : decode cX12_stands 22 = .ok (.ireturn, 1) := dq_172 (kX12_stands_0 22 rfl)

def bX12_decidesOn_0 : List UInt8 := [42, 180, 0, 29, 27, 46, 2, 159, 0, 17, 42, 180, 0, 29, 27, 46, 28, 163, 0, 7, 4, 167, 0, 4, 3, 172]
theorem kX12_decidesOn_0 (j : Nat) {b : UInt8} (hj : bX12_decidesOn_0[j]? = some b) : AtB cX12_decidesOn (0 + j) b := at_of32 (by decide +kernel) j hj
theorem dX12_decidesOn_0 : decode cX12_decidesOn 0 = .ok (.aload_n 0, 1) := dq_42 (kX12_decidesOn_0 0 rfl)
theorem dX12_decidesOn_1 : decode cX12_decidesOn 1 = .ok (.getfield 29, 3) := dq_180 (kX12_decidesOn_0 1 rfl) (kX12_decidesOn_0 2 rfl) (kX12_decidesOn_0 3 rfl) rfl
theorem dX12_decidesOn_4 : decode cX12_decidesOn 4 = .ok (.iload_n 1, 1) := dq_27 (kX12_decidesOn_0 4 rfl)
theorem dX12_decidesOn_5 : decode cX12_decidesOn 5 = .ok (.iaload, 1) := dq_46 (kX12_decidesOn_0 5 rfl)
theorem dX12_decidesOn_6 : decode cX12_decidesOn 6 = .ok (.iconst (-1), 1) := dq_2 (kX12_decidesOn_0 6 rfl)
theorem dX12_decidesOn_7 : decode cX12_decidesOn 7 = .ok (.if_icmp .eq 17, 3) := dq_159 (kX12_decidesOn_0 7 rfl) (kX12_decidesOn_0 8 rfl) (kX12_decidesOn_0 9 rfl) (by decide)
theorem dX12_decidesOn_10 : decode cX12_decidesOn 10 = .ok (.aload_n 0, 1) := dq_42 (kX12_decidesOn_0 10 rfl)
theorem dX12_decidesOn_11 : decode cX12_decidesOn 11 = .ok (.getfield 29, 3) := dq_180 (kX12_decidesOn_0 11 rfl) (kX12_decidesOn_0 12 rfl) (kX12_decidesOn_0 13 rfl) rfl
theorem dX12_decidesOn_14 : decode cX12_decidesOn 14 = .ok (.iload_n 1, 1) := dq_27 (kX12_decidesOn_0 14 rfl)
theorem dX12_decidesOn_15 : decode cX12_decidesOn 15 = .ok (.iaload, 1) := dq_46 (kX12_decidesOn_0 15 rfl)
theorem dX12_decidesOn_16 : decode cX12_decidesOn 16 = .ok (.iload_n 2, 1) := dq_28 (kX12_decidesOn_0 16 rfl)
theorem dX12_decidesOn_17 : decode cX12_decidesOn 17 = .ok (.if_icmp .gt 7, 3) := dq_163 (kX12_decidesOn_0 17 rfl) (kX12_decidesOn_0 18 rfl) (kX12_decidesOn_0 19 rfl) (by decide)
theorem dX12_decidesOn_20 : decode cX12_decidesOn 20 = .ok (.iconst 1, 1) := dq_4 (kX12_decidesOn_0 20 rfl)
theorem dX12_decidesOn_21 : decode cX12_decidesOn 21 = .ok (.goto 4, 3) := dq_167 (kX12_decidesOn_0 21 rfl) (kX12_decidesOn_0 22 rfl) (kX12_decidesOn_0 23 rfl) (by decide)
theorem dX12_decidesOn_24 : decode cX12_decidesOn 24 = .ok (.iconst 0, 1) := dq_3 (kX12_decidesOn_0 24 rfl)
theorem dX12_decidesOn_25 : decode cX12_decidesOn 25 = .ok (.ireturn, 1) := dq_172 (kX12_decidesOn_0 25 rfl)

def bX12_decides_0 : List UInt8 := [42, 27, 182, 1, 150, 153, 0, 10, 28, 184, 1, 153, 154, 0, 5, 2, 172, 42, 27, 28, 182, 1, 156, 153, 0, 7, 4, 167, 0, 4, 3, 172]
theorem kX12_decides_0 (j : Nat) {b : UInt8} (hj : bX12_decides_0[j]? = some b) : AtB cX12_decides (0 + j) b := at_of32 (by decide +kernel) j hj
theorem dX12_decides_0 : decode cX12_decides 0 = .ok (.aload_n 0, 1) := dq_42 (kX12_decides_0 0 rfl)
theorem dX12_decides_1 : decode cX12_decides 1 = .ok (.iload_n 1, 1) := dq_27 (kX12_decides_0 1 rfl)
theorem dX12_decides_2 : decode cX12_decides 2 = .ok (.invokevirtual 406, 3) := dq_182 (kX12_decides_0 2 rfl) (kX12_decides_0 3 rfl) (kX12_decides_0 4 rfl) rfl
theorem dX12_decides_5 : decode cX12_decides 5 = .ok (.ifCond .eq 10, 3) := dq_153 (kX12_decides_0 5 rfl) (kX12_decides_0 6 rfl) (kX12_decides_0 7 rfl) (by decide)
theorem dX12_decides_8 : decode cX12_decides 8 = .ok (.iload_n 2, 1) := dq_28 (kX12_decides_0 8 rfl)
theorem dX12_decides_9 : decode cX12_decides 9 = .ok (.invokestatic 409, 3) := dq_184 (kX12_decides_0 9 rfl) (kX12_decides_0 10 rfl) (kX12_decides_0 11 rfl) rfl
theorem dX12_decides_12 : decode cX12_decides 12 = .ok (.ifCond .ne 5, 3) := dq_154 (kX12_decides_0 12 rfl) (kX12_decides_0 13 rfl) (kX12_decides_0 14 rfl) (by decide)
theorem dX12_decides_15 : decode cX12_decides 15 = .ok (.iconst (-1), 1) := dq_2 (kX12_decides_0 15 rfl)
theorem dX12_decides_16 : decode cX12_decides 16 = .ok (.ireturn, 1) := dq_172 (kX12_decides_0 16 rfl)
theorem dX12_decides_17 : decode cX12_decides 17 = .ok (.aload_n 0, 1) := dq_42 (kX12_decides_0 17 rfl)
theorem dX12_decides_18 : decode cX12_decides 18 = .ok (.iload_n 1, 1) := dq_27 (kX12_decides_0 18 rfl)
theorem dX12_decides_19 : decode cX12_decides 19 = .ok (.iload_n 2, 1) := dq_28 (kX12_decides_0 19 rfl)
theorem dX12_decides_20 : decode cX12_decides 20 = .ok (.invokevirtual 412, 3) := dq_182 (kX12_decides_0 20 rfl) (kX12_decides_0 21 rfl) (kX12_decides_0 22 rfl) rfl
theorem dX12_decides_23 : decode cX12_decides 23 = .ok (.ifCond .eq 7, 3) := dq_153 (kX12_decides_0 23 rfl) (kX12_decides_0 24 rfl) (kX12_decides_0 25 rfl) (by decide)
theorem dX12_decides_26 : decode cX12_decides 26 = .ok (.iconst 1, 1) := dq_4 (kX12_decides_0 26 rfl)
theorem dX12_decides_27 : decode cX12_decides 27 = .ok (.goto 4, 3) := dq_167 (kX12_decides_0 27 rfl) (kX12_decides_0 28 rfl) (kX12_decides_0 29 rfl) (by decide)
theorem dX12_decides_30 : decode cX12_decides 30 = .ok (.iconst 0, 1) := dq_3 (kX12_decides_0 30 rfl)
theorem dX12_decides_31 : decode cX12_decides 31 = .ok (.ireturn, 1) := dq_172 (kX12_decides_0 31 rfl)

def bX12_place_0 : List UInt8 := [42, 180, 0, 35, 42, 180, 1, 119, 27, 79, 42, 180, 0, 38, 42, 180, 1, 119, 28, 79, 42, 180, 0, 41, 42, 180, 1, 119, 29, 79, 42, 180]
theorem kX12_place_0 (j : Nat) {b : UInt8} (hj : bX12_place_0[j]? = some b) : AtB cX12_place (0 + j) b := at_of32 (by decide +kernel) j hj
def bX12_place_1 : List UInt8 := [0, 44, 42, 180, 1, 119, 21, 4, 79, 42, 180, 0, 47, 42, 180, 1, 119, 21, 5, 79, 42, 180, 0, 50, 42, 180, 1, 119, 42, 180, 1, 140]
theorem kX12_place_1 (j : Nat) {b : UInt8} (hj : bX12_place_1[j]? = some b) : AtB cX12_place (32 + j) b := at_of32 (by decide +kernel) j hj
def bX12_place_2 : List UInt8 := [79, 42, 42, 180, 1, 119, 4, 96, 181, 1, 119, 42, 180, 1, 119, 4, 100, 172]
theorem kX12_place_2 (j : Nat) {b : UInt8} (hj : bX12_place_2[j]? = some b) : AtB cX12_place (64 + j) b := at_of32 (by decide +kernel) j hj
theorem dX12_place_0 : decode cX12_place 0 = .ok (.aload_n 0, 1) := dq_42 (kX12_place_0 0 rfl)
theorem dX12_place_1 : decode cX12_place 1 = .ok (.getfield 35, 3) := dq_180 (kX12_place_0 1 rfl) (kX12_place_0 2 rfl) (kX12_place_0 3 rfl) rfl
theorem dX12_place_4 : decode cX12_place 4 = .ok (.aload_n 0, 1) := dq_42 (kX12_place_0 4 rfl)
theorem dX12_place_5 : decode cX12_place 5 = .ok (.getfield 375, 3) := dq_180 (kX12_place_0 5 rfl) (kX12_place_0 6 rfl) (kX12_place_0 7 rfl) rfl
theorem dX12_place_8 : decode cX12_place 8 = .ok (.iload_n 1, 1) := dq_27 (kX12_place_0 8 rfl)
theorem dX12_place_9 : decode cX12_place 9 = .ok (.iastore, 1) := dq_79 (kX12_place_0 9 rfl)
theorem dX12_place_10 : decode cX12_place 10 = .ok (.aload_n 0, 1) := dq_42 (kX12_place_0 10 rfl)
theorem dX12_place_11 : decode cX12_place 11 = .ok (.getfield 38, 3) := dq_180 (kX12_place_0 11 rfl) (kX12_place_0 12 rfl) (kX12_place_0 13 rfl) rfl
theorem dX12_place_14 : decode cX12_place 14 = .ok (.aload_n 0, 1) := dq_42 (kX12_place_0 14 rfl)
theorem dX12_place_15 : decode cX12_place 15 = .ok (.getfield 375, 3) := dq_180 (kX12_place_0 15 rfl) (kX12_place_0 16 rfl) (kX12_place_0 17 rfl) rfl
theorem dX12_place_18 : decode cX12_place 18 = .ok (.iload_n 2, 1) := dq_28 (kX12_place_0 18 rfl)
theorem dX12_place_19 : decode cX12_place 19 = .ok (.iastore, 1) := dq_79 (kX12_place_0 19 rfl)
theorem dX12_place_20 : decode cX12_place 20 = .ok (.aload_n 0, 1) := dq_42 (kX12_place_0 20 rfl)
theorem dX12_place_21 : decode cX12_place 21 = .ok (.getfield 41, 3) := dq_180 (kX12_place_0 21 rfl) (kX12_place_0 22 rfl) (kX12_place_0 23 rfl) rfl
theorem dX12_place_24 : decode cX12_place 24 = .ok (.aload_n 0, 1) := dq_42 (kX12_place_0 24 rfl)
theorem dX12_place_25 : decode cX12_place 25 = .ok (.getfield 375, 3) := dq_180 (kX12_place_0 25 rfl) (kX12_place_0 26 rfl) (kX12_place_0 27 rfl) rfl
theorem dX12_place_28 : decode cX12_place 28 = .ok (.iload_n 3, 1) := dq_29 (kX12_place_0 28 rfl)
theorem dX12_place_29 : decode cX12_place 29 = .ok (.iastore, 1) := dq_79 (kX12_place_0 29 rfl)
theorem dX12_place_30 : decode cX12_place 30 = .ok (.aload_n 0, 1) := dq_42 (kX12_place_0 30 rfl)
theorem dX12_place_31 : decode cX12_place 31 = .ok (.getfield 44, 3) := dq_180 (kX12_place_0 31 rfl) (kX12_place_1 0 rfl) (kX12_place_1 1 rfl) rfl
theorem dX12_place_34 : decode cX12_place 34 = .ok (.aload_n 0, 1) := dq_42 (kX12_place_1 2 rfl)
theorem dX12_place_35 : decode cX12_place 35 = .ok (.getfield 375, 3) := dq_180 (kX12_place_1 3 rfl) (kX12_place_1 4 rfl) (kX12_place_1 5 rfl) rfl
theorem dX12_place_38 : decode cX12_place 38 = .ok (.iload 4, 2) := dq_21 (kX12_place_1 6 rfl) (kX12_place_1 7 rfl) rfl
theorem dX12_place_40 : decode cX12_place 40 = .ok (.iastore, 1) := dq_79 (kX12_place_1 8 rfl)
theorem dX12_place_41 : decode cX12_place 41 = .ok (.aload_n 0, 1) := dq_42 (kX12_place_1 9 rfl)
theorem dX12_place_42 : decode cX12_place 42 = .ok (.getfield 47, 3) := dq_180 (kX12_place_1 10 rfl) (kX12_place_1 11 rfl) (kX12_place_1 12 rfl) rfl
theorem dX12_place_45 : decode cX12_place 45 = .ok (.aload_n 0, 1) := dq_42 (kX12_place_1 13 rfl)
theorem dX12_place_46 : decode cX12_place 46 = .ok (.getfield 375, 3) := dq_180 (kX12_place_1 14 rfl) (kX12_place_1 15 rfl) (kX12_place_1 16 rfl) rfl
theorem dX12_place_49 : decode cX12_place 49 = .ok (.iload 5, 2) := dq_21 (kX12_place_1 17 rfl) (kX12_place_1 18 rfl) rfl
theorem dX12_place_51 : decode cX12_place 51 = .ok (.iastore, 1) := dq_79 (kX12_place_1 19 rfl)
theorem dX12_place_52 : decode cX12_place 52 = .ok (.aload_n 0, 1) := dq_42 (kX12_place_1 20 rfl)
theorem dX12_place_53 : decode cX12_place 53 = .ok (.getfield 50, 3) := dq_180 (kX12_place_1 21 rfl) (kX12_place_1 22 rfl) (kX12_place_1 23 rfl) rfl
theorem dX12_place_56 : decode cX12_place 56 = .ok (.aload_n 0, 1) := dq_42 (kX12_place_1 24 rfl)
theorem dX12_place_57 : decode cX12_place 57 = .ok (.getfield 375, 3) := dq_180 (kX12_place_1 25 rfl) (kX12_place_1 26 rfl) (kX12_place_1 27 rfl) rfl
theorem dX12_place_60 : decode cX12_place 60 = .ok (.aload_n 0, 1) := dq_42 (kX12_place_1 28 rfl)
theorem dX12_place_61 : decode cX12_place 61 = .ok (.getfield 396, 3) := dq_180 (kX12_place_1 29 rfl) (kX12_place_1 30 rfl) (kX12_place_1 31 rfl) rfl
theorem dX12_place_64 : decode cX12_place 64 = .ok (.iastore, 1) := dq_79 (kX12_place_2 0 rfl)
theorem dX12_place_65 : decode cX12_place 65 = .ok (.aload_n 0, 1) := dq_42 (kX12_place_2 1 rfl)
theorem dX12_place_66 : decode cX12_place 66 = .ok (.aload_n 0, 1) := dq_42 (kX12_place_2 2 rfl)
theorem dX12_place_67 : decode cX12_place 67 = .ok (.getfield 375, 3) := dq_180 (kX12_place_2 3 rfl) (kX12_place_2 4 rfl) (kX12_place_2 5 rfl) rfl
theorem dX12_place_70 : decode cX12_place 70 = .ok (.iconst 1, 1) := dq_4 (kX12_place_2 6 rfl)
theorem dX12_place_71 : decode cX12_place 71 = .ok (.iadd, 1) := dq_96 (kX12_place_2 7 rfl)
theorem dX12_place_72 : decode cX12_place 72 = .ok (.putfield 375, 3) := dq_181 (kX12_place_2 8 rfl) (kX12_place_2 9 rfl) (kX12_place_2 10 rfl) rfl
theorem dX12_place_75 : decode cX12_place 75 = .ok (.aload_n 0, 1) := dq_42 (kX12_place_2 11 rfl)
theorem dX12_place_76 : decode cX12_place 76 = .ok (.getfield 375, 3) := dq_180 (kX12_place_2 12 rfl) (kX12_place_2 13 rfl) (kX12_place_2 14 rfl) rfl
theorem dX12_place_79 : decode cX12_place 79 = .ok (.iconst 1, 1) := dq_4 (kX12_place_2 15 rfl)
theorem dX12_place_80 : decode cX12_place 80 = .ok (.isub, 1) := dq_100 (kX12_place_2 16 rfl)
theorem dX12_place_81 : decode cX12_place 81 = .ok (.ireturn, 1) := dq_172 (kX12_place_2 17 rfl)

def bX12_isRectangle_0 : List UInt8 := [42, 27, 182, 1, 125, 153, 0, 45, 42, 28, 182, 1, 125, 153, 0, 37, 27, 42, 180, 1, 109, 112, 28, 42, 180, 1, 109, 112, 163, 0, 22, 27]
theorem kX12_isRectangle_0 (j : Nat) {b : UInt8} (hj : bX12_isRectangle_0[j]? = some b) : AtB cX12_isRectangle (0 + j) b := at_of32 (by decide +kernel) j hj
def bX12_isRectangle_1 : List UInt8 := [42, 180, 1, 109, 108, 28, 42, 180, 1, 109, 108, 163, 0, 7, 4, 167, 0, 4, 3, 172]
theorem kX12_isRectangle_1 (j : Nat) {b : UInt8} (hj : bX12_isRectangle_1[j]? = some b) : AtB cX12_isRectangle (32 + j) b := at_of32 (by decide +kernel) j hj
theorem dX12_isRectangle_0 : decode cX12_isRectangle 0 = .ok (.aload_n 0, 1) := dq_42 (kX12_isRectangle_0 0 rfl)
theorem dX12_isRectangle_1 : decode cX12_isRectangle 1 = .ok (.iload_n 1, 1) := dq_27 (kX12_isRectangle_0 1 rfl)
theorem dX12_isRectangle_2 : decode cX12_isRectangle 2 = .ok (.invokevirtual 381, 3) := dq_182 (kX12_isRectangle_0 2 rfl) (kX12_isRectangle_0 3 rfl) (kX12_isRectangle_0 4 rfl) rfl
theorem dX12_isRectangle_5 : decode cX12_isRectangle 5 = .ok (.ifCond .eq 45, 3) := dq_153 (kX12_isRectangle_0 5 rfl) (kX12_isRectangle_0 6 rfl) (kX12_isRectangle_0 7 rfl) (by decide)
theorem dX12_isRectangle_8 : decode cX12_isRectangle 8 = .ok (.aload_n 0, 1) := dq_42 (kX12_isRectangle_0 8 rfl)
theorem dX12_isRectangle_9 : decode cX12_isRectangle 9 = .ok (.iload_n 2, 1) := dq_28 (kX12_isRectangle_0 9 rfl)
theorem dX12_isRectangle_10 : decode cX12_isRectangle 10 = .ok (.invokevirtual 381, 3) := dq_182 (kX12_isRectangle_0 10 rfl) (kX12_isRectangle_0 11 rfl) (kX12_isRectangle_0 12 rfl) rfl
theorem dX12_isRectangle_13 : decode cX12_isRectangle 13 = .ok (.ifCond .eq 37, 3) := dq_153 (kX12_isRectangle_0 13 rfl) (kX12_isRectangle_0 14 rfl) (kX12_isRectangle_0 15 rfl) (by decide)
theorem dX12_isRectangle_16 : decode cX12_isRectangle 16 = .ok (.iload_n 1, 1) := dq_27 (kX12_isRectangle_0 16 rfl)
theorem dX12_isRectangle_17 : decode cX12_isRectangle 17 = .ok (.aload_n 0, 1) := dq_42 (kX12_isRectangle_0 17 rfl)
theorem dX12_isRectangle_18 : decode cX12_isRectangle 18 = .ok (.getfield 365, 3) := dq_180 (kX12_isRectangle_0 18 rfl) (kX12_isRectangle_0 19 rfl) (kX12_isRectangle_0 20 rfl) rfl
theorem dX12_isRectangle_21 : decode cX12_isRectangle 21 = .ok (.irem, 1) := dq_112 (kX12_isRectangle_0 21 rfl)
theorem dX12_isRectangle_22 : decode cX12_isRectangle 22 = .ok (.iload_n 2, 1) := dq_28 (kX12_isRectangle_0 22 rfl)
theorem dX12_isRectangle_23 : decode cX12_isRectangle 23 = .ok (.aload_n 0, 1) := dq_42 (kX12_isRectangle_0 23 rfl)
theorem dX12_isRectangle_24 : decode cX12_isRectangle 24 = .ok (.getfield 365, 3) := dq_180 (kX12_isRectangle_0 24 rfl) (kX12_isRectangle_0 25 rfl) (kX12_isRectangle_0 26 rfl) rfl
theorem dX12_isRectangle_27 : decode cX12_isRectangle 27 = .ok (.irem, 1) := dq_112 (kX12_isRectangle_0 27 rfl)
theorem dX12_isRectangle_28 : decode cX12_isRectangle 28 = .ok (.if_icmp .gt 22, 3) := dq_163 (kX12_isRectangle_0 28 rfl) (kX12_isRectangle_0 29 rfl) (kX12_isRectangle_0 30 rfl) (by decide)
theorem dX12_isRectangle_31 : decode cX12_isRectangle 31 = .ok (.iload_n 1, 1) := dq_27 (kX12_isRectangle_0 31 rfl)
theorem dX12_isRectangle_32 : decode cX12_isRectangle 32 = .ok (.aload_n 0, 1) := dq_42 (kX12_isRectangle_1 0 rfl)
theorem dX12_isRectangle_33 : decode cX12_isRectangle 33 = .ok (.getfield 365, 3) := dq_180 (kX12_isRectangle_1 1 rfl) (kX12_isRectangle_1 2 rfl) (kX12_isRectangle_1 3 rfl) rfl
theorem dX12_isRectangle_36 : decode cX12_isRectangle 36 = .ok (.idiv, 1) := dq_108 (kX12_isRectangle_1 4 rfl)
theorem dX12_isRectangle_37 : decode cX12_isRectangle 37 = .ok (.iload_n 2, 1) := dq_28 (kX12_isRectangle_1 5 rfl)
theorem dX12_isRectangle_38 : decode cX12_isRectangle 38 = .ok (.aload_n 0, 1) := dq_42 (kX12_isRectangle_1 6 rfl)
theorem dX12_isRectangle_39 : decode cX12_isRectangle 39 = .ok (.getfield 365, 3) := dq_180 (kX12_isRectangle_1 7 rfl) (kX12_isRectangle_1 8 rfl) (kX12_isRectangle_1 9 rfl) rfl
theorem dX12_isRectangle_42 : decode cX12_isRectangle 42 = .ok (.idiv, 1) := dq_108 (kX12_isRectangle_1 10 rfl)
theorem dX12_isRectangle_43 : decode cX12_isRectangle 43 = .ok (.if_icmp .gt 7, 3) := dq_163 (kX12_isRectangle_1 11 rfl) (kX12_isRectangle_1 12 rfl) (kX12_isRectangle_1 13 rfl) (by decide)
theorem dX12_isRectangle_46 : decode cX12_isRectangle 46 = .ok (.iconst 1, 1) := dq_4 (kX12_isRectangle_1 14 rfl)
theorem dX12_isRectangle_47 : decode cX12_isRectangle 47 = .ok (.goto 4, 3) := dq_167 (kX12_isRectangle_1 15 rfl) (kX12_isRectangle_1 16 rfl) (kX12_isRectangle_1 17 rfl) (by decide)
theorem dX12_isRectangle_50 : decode cX12_isRectangle 50 = .ok (.iconst 0, 1) := dq_3 (kX12_isRectangle_1 18 rfl)
theorem dX12_isRectangle_51 : decode cX12_isRectangle 51 = .ok (.ireturn, 1) := dq_172 (kX12_isRectangle_1 19 rfl)

def bX12_isIn_0 : List UInt8 := [27, 42, 180, 1, 109, 112, 42, 180, 0, 41, 28, 46, 42, 180, 1, 109, 112, 42, 180, 0, 44, 28, 46, 42, 180, 1, 109, 112, 184, 1, 115, 153]
theorem kX12_isIn_0 (j : Nat) {b : UInt8} (hj : bX12_isIn_0[j]? = some b) : AtB cX12_isIn (0 + j) b := at_of32 (by decide +kernel) j hj
def bX12_isIn_1 : List UInt8 := [0, 41, 27, 42, 180, 1, 109, 108, 42, 180, 0, 41, 28, 46, 42, 180, 1, 109, 108, 42, 180, 0, 44, 28, 46, 42, 180, 1, 109, 108, 184, 1]
theorem kX12_isIn_1 (j : Nat) {b : UInt8} (hj : bX12_isIn_1[j]? = some b) : AtB cX12_isIn (32 + j) b := at_of32 (by decide +kernel) j hj
def bX12_isIn_2 : List UInt8 := [115, 153, 0, 7, 4, 167, 0, 4, 3, 172]
theorem kX12_isIn_2 (j : Nat) {b : UInt8} (hj : bX12_isIn_2[j]? = some b) : AtB cX12_isIn (64 + j) b := at_of32 (by decide +kernel) j hj
theorem dX12_isIn_0 : decode cX12_isIn 0 = .ok (.iload_n 1, 1) := dq_27 (kX12_isIn_0 0 rfl)
theorem dX12_isIn_1 : decode cX12_isIn 1 = .ok (.aload_n 0, 1) := dq_42 (kX12_isIn_0 1 rfl)
theorem dX12_isIn_2 : decode cX12_isIn 2 = .ok (.getfield 365, 3) := dq_180 (kX12_isIn_0 2 rfl) (kX12_isIn_0 3 rfl) (kX12_isIn_0 4 rfl) rfl
theorem dX12_isIn_5 : decode cX12_isIn 5 = .ok (.irem, 1) := dq_112 (kX12_isIn_0 5 rfl)
theorem dX12_isIn_6 : decode cX12_isIn 6 = .ok (.aload_n 0, 1) := dq_42 (kX12_isIn_0 6 rfl)
theorem dX12_isIn_7 : decode cX12_isIn 7 = .ok (.getfield 41, 3) := dq_180 (kX12_isIn_0 7 rfl) (kX12_isIn_0 8 rfl) (kX12_isIn_0 9 rfl) rfl
theorem dX12_isIn_10 : decode cX12_isIn 10 = .ok (.iload_n 2, 1) := dq_28 (kX12_isIn_0 10 rfl)
theorem dX12_isIn_11 : decode cX12_isIn 11 = .ok (.iaload, 1) := dq_46 (kX12_isIn_0 11 rfl)
theorem dX12_isIn_12 : decode cX12_isIn 12 = .ok (.aload_n 0, 1) := dq_42 (kX12_isIn_0 12 rfl)
theorem dX12_isIn_13 : decode cX12_isIn 13 = .ok (.getfield 365, 3) := dq_180 (kX12_isIn_0 13 rfl) (kX12_isIn_0 14 rfl) (kX12_isIn_0 15 rfl) rfl
theorem dX12_isIn_16 : decode cX12_isIn 16 = .ok (.irem, 1) := dq_112 (kX12_isIn_0 16 rfl)
theorem dX12_isIn_17 : decode cX12_isIn 17 = .ok (.aload_n 0, 1) := dq_42 (kX12_isIn_0 17 rfl)
theorem dX12_isIn_18 : decode cX12_isIn 18 = .ok (.getfield 44, 3) := dq_180 (kX12_isIn_0 18 rfl) (kX12_isIn_0 19 rfl) (kX12_isIn_0 20 rfl) rfl
theorem dX12_isIn_21 : decode cX12_isIn 21 = .ok (.iload_n 2, 1) := dq_28 (kX12_isIn_0 21 rfl)
theorem dX12_isIn_22 : decode cX12_isIn 22 = .ok (.iaload, 1) := dq_46 (kX12_isIn_0 22 rfl)
theorem dX12_isIn_23 : decode cX12_isIn 23 = .ok (.aload_n 0, 1) := dq_42 (kX12_isIn_0 23 rfl)
theorem dX12_isIn_24 : decode cX12_isIn 24 = .ok (.getfield 365, 3) := dq_180 (kX12_isIn_0 24 rfl) (kX12_isIn_0 25 rfl) (kX12_isIn_0 26 rfl) rfl
theorem dX12_isIn_27 : decode cX12_isIn 27 = .ok (.irem, 1) := dq_112 (kX12_isIn_0 27 rfl)
theorem dX12_isIn_28 : decode cX12_isIn 28 = .ok (.invokestatic 371, 3) := dq_184 (kX12_isIn_0 28 rfl) (kX12_isIn_0 29 rfl) (kX12_isIn_0 30 rfl) rfl
theorem dX12_isIn_31 : decode cX12_isIn 31 = .ok (.ifCond .eq 41, 3) := dq_153 (kX12_isIn_0 31 rfl) (kX12_isIn_1 0 rfl) (kX12_isIn_1 1 rfl) (by decide)
theorem dX12_isIn_34 : decode cX12_isIn 34 = .ok (.iload_n 1, 1) := dq_27 (kX12_isIn_1 2 rfl)
theorem dX12_isIn_35 : decode cX12_isIn 35 = .ok (.aload_n 0, 1) := dq_42 (kX12_isIn_1 3 rfl)
theorem dX12_isIn_36 : decode cX12_isIn 36 = .ok (.getfield 365, 3) := dq_180 (kX12_isIn_1 4 rfl) (kX12_isIn_1 5 rfl) (kX12_isIn_1 6 rfl) rfl
theorem dX12_isIn_39 : decode cX12_isIn 39 = .ok (.idiv, 1) := dq_108 (kX12_isIn_1 7 rfl)
theorem dX12_isIn_40 : decode cX12_isIn 40 = .ok (.aload_n 0, 1) := dq_42 (kX12_isIn_1 8 rfl)
theorem dX12_isIn_41 : decode cX12_isIn 41 = .ok (.getfield 41, 3) := dq_180 (kX12_isIn_1 9 rfl) (kX12_isIn_1 10 rfl) (kX12_isIn_1 11 rfl) rfl
theorem dX12_isIn_44 : decode cX12_isIn 44 = .ok (.iload_n 2, 1) := dq_28 (kX12_isIn_1 12 rfl)
theorem dX12_isIn_45 : decode cX12_isIn 45 = .ok (.iaload, 1) := dq_46 (kX12_isIn_1 13 rfl)
theorem dX12_isIn_46 : decode cX12_isIn 46 = .ok (.aload_n 0, 1) := dq_42 (kX12_isIn_1 14 rfl)
theorem dX12_isIn_47 : decode cX12_isIn 47 = .ok (.getfield 365, 3) := dq_180 (kX12_isIn_1 15 rfl) (kX12_isIn_1 16 rfl) (kX12_isIn_1 17 rfl) rfl
theorem dX12_isIn_50 : decode cX12_isIn 50 = .ok (.idiv, 1) := dq_108 (kX12_isIn_1 18 rfl)
theorem dX12_isIn_51 : decode cX12_isIn 51 = .ok (.aload_n 0, 1) := dq_42 (kX12_isIn_1 19 rfl)
theorem dX12_isIn_52 : decode cX12_isIn 52 = .ok (.getfield 44, 3) := dq_180 (kX12_isIn_1 20 rfl) (kX12_isIn_1 21 rfl) (kX12_isIn_1 22 rfl) rfl
theorem dX12_isIn_55 : decode cX12_isIn 55 = .ok (.iload_n 2, 1) := dq_28 (kX12_isIn_1 23 rfl)
theorem dX12_isIn_56 : decode cX12_isIn 56 = .ok (.iaload, 1) := dq_46 (kX12_isIn_1 24 rfl)
theorem dX12_isIn_57 : decode cX12_isIn 57 = .ok (.aload_n 0, 1) := dq_42 (kX12_isIn_1 25 rfl)
theorem dX12_isIn_58 : decode cX12_isIn 58 = .ok (.getfield 365, 3) := dq_180 (kX12_isIn_1 26 rfl) (kX12_isIn_1 27 rfl) (kX12_isIn_1 28 rfl) rfl
theorem dX12_isIn_61 : decode cX12_isIn 61 = .ok (.idiv, 1) := dq_108 (kX12_isIn_1 29 rfl)
theorem dX12_isIn_62 : decode cX12_isIn 62 = .ok (.invokestatic 371, 3) := dq_184 (kX12_isIn_1 30 rfl) (kX12_isIn_1 31 rfl) (kX12_isIn_2 0 rfl) rfl
theorem dX12_isIn_65 : decode cX12_isIn 65 = .ok (.ifCond .eq 7, 3) := dq_153 (kX12_isIn_2 1 rfl) (kX12_isIn_2 2 rfl) (kX12_isIn_2 3 rfl) (by decide)
theorem dX12_isIn_68 : decode cX12_isIn 68 = .ok (.iconst 1, 1) := dq_4 (kX12_isIn_2 4 rfl)
theorem dX12_isIn_69 : decode cX12_isIn 69 = .ok (.goto 4, 3) := dq_167 (kX12_isIn_2 5 rfl) (kX12_isIn_2 6 rfl) (kX12_isIn_2 7 rfl) (by decide)
theorem dX12_isIn_72 : decode cX12_isIn 72 = .ok (.iconst 0, 1) := dq_3 (kX12_isIn_2 8 rfl)
theorem dX12_isIn_73 : decode cX12_isIn 73 = .ok (.ireturn, 1) := dq_172 (kX12_isIn_2 9 rfl)

def bX12_claim_0 : List UInt8 := [42, 27, 182, 1, 150, 153, 0, 45, 42, 28, 29, 182, 1, 159, 153, 0, 36, 21, 4, 3, 17, 3, 231, 184, 1, 115, 153, 0, 24, 42, 180, 1]
theorem kX12_claim_0 (j : Nat) {b : UInt8} (hj : bX12_claim_0[j]? = some b) : AtB cX12_claim (0 + j) b := at_of32 (by decide +kernel) j hj
def bX12_claim_1 : List UInt8 := [119, 16, 60, 159, 0, 15, 42, 27, 42, 180, 1, 140, 182, 1, 162, 153, 0, 5, 2, 172, 42, 3, 27, 28, 29, 21, 4, 182, 1, 165, 172]
theorem kX12_claim_1 (j : Nat) {b : UInt8} (hj : bX12_claim_1[j]? = some b) : AtB cX12_claim (32 + j) b := at_of32 (by decide +kernel) j hj
theorem dX12_claim_0 : decode cX12_claim 0 = .ok (.aload_n 0, 1) := dq_42 (kX12_claim_0 0 rfl)
theorem dX12_claim_1 : decode cX12_claim 1 = .ok (.iload_n 1, 1) := dq_27 (kX12_claim_0 1 rfl)
theorem dX12_claim_2 : decode cX12_claim 2 = .ok (.invokevirtual 406, 3) := dq_182 (kX12_claim_0 2 rfl) (kX12_claim_0 3 rfl) (kX12_claim_0 4 rfl) rfl
theorem dX12_claim_5 : decode cX12_claim 5 = .ok (.ifCond .eq 45, 3) := dq_153 (kX12_claim_0 5 rfl) (kX12_claim_0 6 rfl) (kX12_claim_0 7 rfl) (by decide)
theorem dX12_claim_8 : decode cX12_claim 8 = .ok (.aload_n 0, 1) := dq_42 (kX12_claim_0 8 rfl)
theorem dX12_claim_9 : decode cX12_claim 9 = .ok (.iload_n 2, 1) := dq_28 (kX12_claim_0 9 rfl)
theorem dX12_claim_10 : decode cX12_claim 10 = .ok (.iload_n 3, 1) := dq_29 (kX12_claim_0 10 rfl)
theorem dX12_claim_11 : decode cX12_claim 11 = .ok (.invokevirtual 415, 3) := dq_182 (kX12_claim_0 11 rfl) (kX12_claim_0 12 rfl) (kX12_claim_0 13 rfl) rfl
theorem dX12_claim_14 : decode cX12_claim 14 = .ok (.ifCond .eq 36, 3) := dq_153 (kX12_claim_0 14 rfl) (kX12_claim_0 15 rfl) (kX12_claim_0 16 rfl) (by decide)
theorem dX12_claim_17 : decode cX12_claim 17 = .ok (.iload 4, 2) := dq_21 (kX12_claim_0 17 rfl) (kX12_claim_0 18 rfl) rfl
theorem dX12_claim_19 : decode cX12_claim 19 = .ok (.iconst 0, 1) := dq_3 (kX12_claim_0 19 rfl)
theorem dX12_claim_20 : decode cX12_claim 20 = .ok (.sipush 999, 3) := dq_17 (kX12_claim_0 20 rfl) (kX12_claim_0 21 rfl) (kX12_claim_0 22 rfl) (by decide)
theorem dX12_claim_23 : decode cX12_claim 23 = .ok (.invokestatic 371, 3) := dq_184 (kX12_claim_0 23 rfl) (kX12_claim_0 24 rfl) (kX12_claim_0 25 rfl) rfl
theorem dX12_claim_26 : decode cX12_claim 26 = .ok (.ifCond .eq 24, 3) := dq_153 (kX12_claim_0 26 rfl) (kX12_claim_0 27 rfl) (kX12_claim_0 28 rfl) (by decide)
theorem dX12_claim_29 : decode cX12_claim 29 = .ok (.aload_n 0, 1) := dq_42 (kX12_claim_0 29 rfl)
theorem dX12_claim_30 : decode cX12_claim 30 = .ok (.getfield 375, 3) := dq_180 (kX12_claim_0 30 rfl) (kX12_claim_0 31 rfl) (kX12_claim_1 0 rfl) rfl
theorem dX12_claim_33 : decode cX12_claim 33 = .ok (.bipush 60, 2) := dq_16 (kX12_claim_1 1 rfl) (kX12_claim_1 2 rfl) (by decide)
theorem dX12_claim_35 : decode cX12_claim 35 = .ok (.if_icmp .eq 15, 3) := dq_159 (kX12_claim_1 3 rfl) (kX12_claim_1 4 rfl) (kX12_claim_1 5 rfl) (by decide)
theorem dX12_claim_38 : decode cX12_claim 38 = .ok (.aload_n 0, 1) := dq_42 (kX12_claim_1 6 rfl)
theorem dX12_claim_39 : decode cX12_claim 39 = .ok (.iload_n 1, 1) := dq_27 (kX12_claim_1 7 rfl)
theorem dX12_claim_40 : decode cX12_claim 40 = .ok (.aload_n 0, 1) := dq_42 (kX12_claim_1 8 rfl)
theorem dX12_claim_41 : decode cX12_claim 41 = .ok (.getfield 396, 3) := dq_180 (kX12_claim_1 9 rfl) (kX12_claim_1 10 rfl) (kX12_claim_1 11 rfl) rfl
theorem dX12_claim_44 : decode cX12_claim 44 = .ok (.invokevirtual 418, 3) := dq_182 (kX12_claim_1 12 rfl) (kX12_claim_1 13 rfl) (kX12_claim_1 14 rfl) rfl
theorem dX12_claim_47 : decode cX12_claim 47 = .ok (.ifCond .eq 5, 3) := dq_153 (kX12_claim_1 15 rfl) (kX12_claim_1 16 rfl) (kX12_claim_1 17 rfl) (by decide)
theorem dX12_claim_50 : decode cX12_claim 50 = .ok (.iconst (-1), 1) := dq_2 (kX12_claim_1 18 rfl)
theorem dX12_claim_51 : decode cX12_claim 51 = .ok (.ireturn, 1) := dq_172 (kX12_claim_1 19 rfl)
theorem dX12_claim_52 : decode cX12_claim 52 = .ok (.aload_n 0, 1) := dq_42 (kX12_claim_1 20 rfl)
theorem dX12_claim_53 : decode cX12_claim 53 = .ok (.iconst 0, 1) := dq_3 (kX12_claim_1 21 rfl)
theorem dX12_claim_54 : decode cX12_claim 54 = .ok (.iload_n 1, 1) := dq_27 (kX12_claim_1 22 rfl)
theorem dX12_claim_55 : decode cX12_claim 55 = .ok (.iload_n 2, 1) := dq_28 (kX12_claim_1 23 rfl)
theorem dX12_claim_56 : decode cX12_claim 56 = .ok (.iload_n 3, 1) := dq_29 (kX12_claim_1 24 rfl)
theorem dX12_claim_57 : decode cX12_claim 57 = .ok (.iload 4, 2) := dq_21 (kX12_claim_1 25 rfl) (kX12_claim_1 26 rfl) rfl
theorem dX12_claim_59 : decode cX12_claim 59 = .ok (.invokevirtual 421, 3) := dq_182 (kX12_claim_1 27 rfl) (kX12_claim_1 28 rfl) (kX12_claim_1 29 rfl) rfl
theorem dX12_claim_62 : decode cX12_claim 62 = .ok (.ireturn, 1) := dq_172 (kX12_claim_1 30 rfl)

def bX12_title_0 : List UInt8 := [42, 27, 3, 182, 1, 143, 153, 0, 41, 28, 3, 17, 3, 231, 184, 1, 115, 153, 0, 30, 28, 42, 180, 0, 47, 27, 46, 164, 0, 22, 42, 42]
theorem kX12_title_0 (j : Nat) {b : UInt8} (hj : bX12_title_0[j]? = some b) : AtB cX12_title (0 + j) b := at_of32 (by decide +kernel) j hj
def bX12_title_1 : List UInt8 := [180, 0, 38, 27, 46, 42, 180, 1, 140, 182, 1, 162, 153, 0, 5, 3, 172, 42, 180, 0, 47, 27, 28, 79, 4, 172]
theorem kX12_title_1 (j : Nat) {b : UInt8} (hj : bX12_title_1[j]? = some b) : AtB cX12_title (32 + j) b := at_of32 (by decide +kernel) j hj
theorem dX12_title_0 : decode cX12_title 0 = .ok (.aload_n 0, 1) := dq_42 (kX12_title_0 0 rfl)
theorem dX12_title_1 : decode cX12_title 1 = .ok (.iload_n 1, 1) := dq_27 (kX12_title_0 1 rfl)
theorem dX12_title_2 : decode cX12_title 2 = .ok (.iconst 0, 1) := dq_3 (kX12_title_0 2 rfl)
theorem dX12_title_3 : decode cX12_title 3 = .ok (.invokevirtual 399, 3) := dq_182 (kX12_title_0 3 rfl) (kX12_title_0 4 rfl) (kX12_title_0 5 rfl) rfl
theorem dX12_title_6 : decode cX12_title 6 = .ok (.ifCond .eq 41, 3) := dq_153 (kX12_title_0 6 rfl) (kX12_title_0 7 rfl) (kX12_title_0 8 rfl) (by decide)
theorem dX12_title_9 : decode cX12_title 9 = .ok (.iload_n 2, 1) := dq_28 (kX12_title_0 9 rfl)
theorem dX12_title_10 : decode cX12_title 10 = .ok (.iconst 0, 1) := dq_3 (kX12_title_0 10 rfl)
theorem dX12_title_11 : decode cX12_title 11 = .ok (.sipush 999, 3) := dq_17 (kX12_title_0 11 rfl) (kX12_title_0 12 rfl) (kX12_title_0 13 rfl) (by decide)
theorem dX12_title_14 : decode cX12_title 14 = .ok (.invokestatic 371, 3) := dq_184 (kX12_title_0 14 rfl) (kX12_title_0 15 rfl) (kX12_title_0 16 rfl) rfl
theorem dX12_title_17 : decode cX12_title 17 = .ok (.ifCond .eq 30, 3) := dq_153 (kX12_title_0 17 rfl) (kX12_title_0 18 rfl) (kX12_title_0 19 rfl) (by decide)
theorem dX12_title_20 : decode cX12_title 20 = .ok (.iload_n 2, 1) := dq_28 (kX12_title_0 20 rfl)
theorem dX12_title_21 : decode cX12_title 21 = .ok (.aload_n 0, 1) := dq_42 (kX12_title_0 21 rfl)
theorem dX12_title_22 : decode cX12_title 22 = .ok (.getfield 47, 3) := dq_180 (kX12_title_0 22 rfl) (kX12_title_0 23 rfl) (kX12_title_0 24 rfl) rfl
theorem dX12_title_25 : decode cX12_title 25 = .ok (.iload_n 1, 1) := dq_27 (kX12_title_0 25 rfl)
theorem dX12_title_26 : decode cX12_title 26 = .ok (.iaload, 1) := dq_46 (kX12_title_0 26 rfl)
theorem dX12_title_27 : decode cX12_title 27 = .ok (.if_icmp .le 22, 3) := dq_164 (kX12_title_0 27 rfl) (kX12_title_0 28 rfl) (kX12_title_0 29 rfl) (by decide)
theorem dX12_title_30 : decode cX12_title 30 = .ok (.aload_n 0, 1) := dq_42 (kX12_title_0 30 rfl)
theorem dX12_title_31 : decode cX12_title 31 = .ok (.aload_n 0, 1) := dq_42 (kX12_title_0 31 rfl)
theorem dX12_title_32 : decode cX12_title 32 = .ok (.getfield 38, 3) := dq_180 (kX12_title_1 0 rfl) (kX12_title_1 1 rfl) (kX12_title_1 2 rfl) rfl
theorem dX12_title_35 : decode cX12_title 35 = .ok (.iload_n 1, 1) := dq_27 (kX12_title_1 3 rfl)
theorem dX12_title_36 : decode cX12_title 36 = .ok (.iaload, 1) := dq_46 (kX12_title_1 4 rfl)
theorem dX12_title_37 : decode cX12_title 37 = .ok (.aload_n 0, 1) := dq_42 (kX12_title_1 5 rfl)
theorem dX12_title_38 : decode cX12_title 38 = .ok (.getfield 396, 3) := dq_180 (kX12_title_1 6 rfl) (kX12_title_1 7 rfl) (kX12_title_1 8 rfl) rfl
theorem dX12_title_41 : decode cX12_title 41 = .ok (.invokevirtual 418, 3) := dq_182 (kX12_title_1 9 rfl) (kX12_title_1 10 rfl) (kX12_title_1 11 rfl) rfl
theorem dX12_title_44 : decode cX12_title 44 = .ok (.ifCond .eq 5, 3) := dq_153 (kX12_title_1 12 rfl) (kX12_title_1 13 rfl) (kX12_title_1 14 rfl) (by decide)
theorem dX12_title_47 : decode cX12_title 47 = .ok (.iconst 0, 1) := dq_3 (kX12_title_1 15 rfl)
theorem dX12_title_48 : decode cX12_title 48 = .ok (.ireturn, 1) := dq_172 (kX12_title_1 16 rfl)
theorem dX12_title_49 : decode cX12_title 49 = .ok (.aload_n 0, 1) := dq_42 (kX12_title_1 17 rfl)
theorem dX12_title_50 : decode cX12_title 50 = .ok (.getfield 47, 3) := dq_180 (kX12_title_1 18 rfl) (kX12_title_1 19 rfl) (kX12_title_1 20 rfl) rfl
theorem dX12_title_53 : decode cX12_title 53 = .ok (.iload_n 1, 1) := dq_27 (kX12_title_1 21 rfl)
theorem dX12_title_54 : decode cX12_title 54 = .ok (.iload_n 2, 1) := dq_28 (kX12_title_1 22 rfl)
theorem dX12_title_55 : decode cX12_title 55 = .ok (.iastore, 1) := dq_79 (kX12_title_1 23 rfl)
theorem dX12_title_56 : decode cX12_title 56 = .ok (.iconst 1, 1) := dq_4 (kX12_title_1 24 rfl)
theorem dX12_title_57 : decode cX12_title 57 = .ok (.ireturn, 1) := dq_172 (kX12_title_1 25 rfl)

def bX12_station_0 : List UInt8 := [42, 27, 182, 1, 150, 153, 0, 51, 42, 28, 182, 1, 125, 153, 0, 43, 42, 28, 182, 1, 169, 153, 0, 35, 29, 3, 17, 1, 244, 184, 1, 115]
theorem kX12_station_0 (j : Nat) {b : UInt8} (hj : bX12_station_0[j]? = some b) : AtB cX12_station (0 + j) b := at_of32 (by decide +kernel) j hj
def bX12_station_1 : List UInt8 := [153, 0, 24, 21, 4, 3, 19, 1, 172, 184, 1, 115, 153, 0, 12, 42, 180, 1, 119, 16, 60, 160, 0, 5, 2, 172, 42, 180, 0, 53, 42, 180]
theorem kX12_station_1 (j : Nat) {b : UInt8} (hj : bX12_station_1[j]? = some b) : AtB cX12_station (32 + j) b := at_of32 (by decide +kernel) j hj
def bX12_station_2 : List UInt8 := [1, 119, 29, 79, 42, 180, 0, 56, 42, 180, 1, 119, 21, 4, 79, 42, 42, 180, 1, 173, 21, 4, 133, 97, 181, 1, 173, 42, 4, 27, 28, 2]
theorem kX12_station_2 (j : Nat) {b : UInt8} (hj : bX12_station_2[j]? = some b) : AtB cX12_station (64 + j) b := at_of32 (by decide +kernel) j hj
def bX12_station_3 : List UInt8 := [3, 182, 1, 165, 172]
theorem kX12_station_3 (j : Nat) {b : UInt8} (hj : bX12_station_3[j]? = some b) : AtB cX12_station (96 + j) b := at_of32 (by decide +kernel) j hj
theorem dX12_station_0 : decode cX12_station 0 = .ok (.aload_n 0, 1) := dq_42 (kX12_station_0 0 rfl)
theorem dX12_station_1 : decode cX12_station 1 = .ok (.iload_n 1, 1) := dq_27 (kX12_station_0 1 rfl)
theorem dX12_station_2 : decode cX12_station 2 = .ok (.invokevirtual 406, 3) := dq_182 (kX12_station_0 2 rfl) (kX12_station_0 3 rfl) (kX12_station_0 4 rfl) rfl
theorem dX12_station_5 : decode cX12_station 5 = .ok (.ifCond .eq 51, 3) := dq_153 (kX12_station_0 5 rfl) (kX12_station_0 6 rfl) (kX12_station_0 7 rfl) (by decide)
theorem dX12_station_8 : decode cX12_station 8 = .ok (.aload_n 0, 1) := dq_42 (kX12_station_0 8 rfl)
theorem dX12_station_9 : decode cX12_station 9 = .ok (.iload_n 2, 1) := dq_28 (kX12_station_0 9 rfl)
theorem dX12_station_10 : decode cX12_station 10 = .ok (.invokevirtual 381, 3) := dq_182 (kX12_station_0 10 rfl) (kX12_station_0 11 rfl) (kX12_station_0 12 rfl) rfl
theorem dX12_station_13 : decode cX12_station 13 = .ok (.ifCond .eq 43, 3) := dq_153 (kX12_station_0 13 rfl) (kX12_station_0 14 rfl) (kX12_station_0 15 rfl) (by decide)
theorem dX12_station_16 : decode cX12_station 16 = .ok (.aload_n 0, 1) := dq_42 (kX12_station_0 16 rfl)
theorem dX12_station_17 : decode cX12_station 17 = .ok (.iload_n 2, 1) := dq_28 (kX12_station_0 17 rfl)
theorem dX12_station_18 : decode cX12_station 18 = .ok (.invokevirtual 425, 3) := dq_182 (kX12_station_0 18 rfl) (kX12_station_0 19 rfl) (kX12_station_0 20 rfl) rfl
theorem dX12_station_21 : decode cX12_station 21 = .ok (.ifCond .eq 35, 3) := dq_153 (kX12_station_0 21 rfl) (kX12_station_0 22 rfl) (kX12_station_0 23 rfl) (by decide)
theorem dX12_station_24 : decode cX12_station 24 = .ok (.iload_n 3, 1) := dq_29 (kX12_station_0 24 rfl)
theorem dX12_station_25 : decode cX12_station 25 = .ok (.iconst 0, 1) := dq_3 (kX12_station_0 25 rfl)
theorem dX12_station_26 : decode cX12_station 26 = .ok (.sipush 500, 3) := dq_17 (kX12_station_0 26 rfl) (kX12_station_0 27 rfl) (kX12_station_0 28 rfl) (by decide)
theorem dX12_station_29 : decode cX12_station 29 = .ok (.invokestatic 371, 3) := dq_184 (kX12_station_0 29 rfl) (kX12_station_0 30 rfl) (kX12_station_0 31 rfl) rfl
theorem dX12_station_32 : decode cX12_station 32 = .ok (.ifCond .eq 24, 3) := dq_153 (kX12_station_1 0 rfl) (kX12_station_1 1 rfl) (kX12_station_1 2 rfl) (by decide)
theorem dX12_station_35 : decode cX12_station 35 = .ok (.iload 4, 2) := dq_21 (kX12_station_1 3 rfl) (kX12_station_1 4 rfl) rfl
theorem dX12_station_37 : decode cX12_station 37 = .ok (.iconst 0, 1) := dq_3 (kX12_station_1 5 rfl)
theorem dX12_station_38 : decode cX12_station 38 = .ok (.ldc_w 428, 3) := dq_19 (kX12_station_1 6 rfl) (kX12_station_1 7 rfl) (kX12_station_1 8 rfl) rfl
theorem dX12_station_41 : decode cX12_station 41 = .ok (.invokestatic 371, 3) := dq_184 (kX12_station_1 9 rfl) (kX12_station_1 10 rfl) (kX12_station_1 11 rfl) rfl
theorem dX12_station_44 : decode cX12_station 44 = .ok (.ifCond .eq 12, 3) := dq_153 (kX12_station_1 12 rfl) (kX12_station_1 13 rfl) (kX12_station_1 14 rfl) (by decide)
theorem dX12_station_47 : decode cX12_station 47 = .ok (.aload_n 0, 1) := dq_42 (kX12_station_1 15 rfl)
theorem dX12_station_48 : decode cX12_station 48 = .ok (.getfield 375, 3) := dq_180 (kX12_station_1 16 rfl) (kX12_station_1 17 rfl) (kX12_station_1 18 rfl) rfl
theorem dX12_station_51 : decode cX12_station 51 = .ok (.bipush 60, 2) := dq_16 (kX12_station_1 19 rfl) (kX12_station_1 20 rfl) (by decide)
theorem dX12_station_53 : decode cX12_station 53 = .ok (.if_icmp .ne 5, 3) := dq_160 (kX12_station_1 21 rfl) (kX12_station_1 22 rfl) (kX12_station_1 23 rfl) (by decide)
theorem dX12_station_56 : decode cX12_station 56 = .ok (.iconst (-1), 1) := dq_2 (kX12_station_1 24 rfl)
theorem dX12_station_57 : decode cX12_station 57 = .ok (.ireturn, 1) := dq_172 (kX12_station_1 25 rfl)
theorem dX12_station_58 : decode cX12_station 58 = .ok (.aload_n 0, 1) := dq_42 (kX12_station_1 26 rfl)
theorem dX12_station_59 : decode cX12_station 59 = .ok (.getfield 53, 3) := dq_180 (kX12_station_1 27 rfl) (kX12_station_1 28 rfl) (kX12_station_1 29 rfl) rfl
theorem dX12_station_62 : decode cX12_station 62 = .ok (.aload_n 0, 1) := dq_42 (kX12_station_1 30 rfl)
theorem dX12_station_63 : decode cX12_station 63 = .ok (.getfield 375, 3) := dq_180 (kX12_station_1 31 rfl) (kX12_station_2 0 rfl) (kX12_station_2 1 rfl) rfl
theorem dX12_station_66 : decode cX12_station 66 = .ok (.iload_n 3, 1) := dq_29 (kX12_station_2 2 rfl)
theorem dX12_station_67 : decode cX12_station 67 = .ok (.iastore, 1) := dq_79 (kX12_station_2 3 rfl)
theorem dX12_station_68 : decode cX12_station 68 = .ok (.aload_n 0, 1) := dq_42 (kX12_station_2 4 rfl)
theorem dX12_station_69 : decode cX12_station 69 = .ok (.getfield 56, 3) := dq_180 (kX12_station_2 5 rfl) (kX12_station_2 6 rfl) (kX12_station_2 7 rfl) rfl
theorem dX12_station_72 : decode cX12_station 72 = .ok (.aload_n 0, 1) := dq_42 (kX12_station_2 8 rfl)
theorem dX12_station_73 : decode cX12_station 73 = .ok (.getfield 375, 3) := dq_180 (kX12_station_2 9 rfl) (kX12_station_2 10 rfl) (kX12_station_2 11 rfl) rfl
theorem dX12_station_76 : decode cX12_station 76 = .ok (.iload 4, 2) := dq_21 (kX12_station_2 12 rfl) (kX12_station_2 13 rfl) rfl
theorem dX12_station_78 : decode cX12_station 78 = .ok (.iastore, 1) := dq_79 (kX12_station_2 14 rfl)
theorem dX12_station_79 : decode cX12_station 79 = .ok (.aload_n 0, 1) := dq_42 (kX12_station_2 15 rfl)
theorem dX12_station_80 : decode cX12_station 80 = .ok (.aload_n 0, 1) := dq_42 (kX12_station_2 16 rfl)
theorem dX12_station_81 : decode cX12_station 81 = .ok (.getfield 429, 3) := dq_180 (kX12_station_2 17 rfl) (kX12_station_2 18 rfl) (kX12_station_2 19 rfl) rfl
theorem dX12_station_84 : decode cX12_station 84 = .ok (.iload 4, 2) := dq_21 (kX12_station_2 20 rfl) (kX12_station_2 21 rfl) rfl
theorem dX12_station_86 : decode cX12_station 86 = .ok (.i2l, 1) := dq_133 (kX12_station_2 22 rfl)
theorem dX12_station_87 : decode cX12_station 87 = .ok (.ladd, 1) := dq_97 (kX12_station_2 23 rfl)
theorem dX12_station_88 : decode cX12_station 88 = .ok (.putfield 429, 3) := dq_181 (kX12_station_2 24 rfl) (kX12_station_2 25 rfl) (kX12_station_2 26 rfl) rfl
theorem dX12_station_91 : decode cX12_station 91 = .ok (.aload_n 0, 1) := dq_42 (kX12_station_2 27 rfl)
theorem dX12_station_92 : decode cX12_station 92 = .ok (.iconst 1, 1) := dq_4 (kX12_station_2 28 rfl)
theorem dX12_station_93 : decode cX12_station 93 = .ok (.iload_n 1, 1) := dq_27 (kX12_station_2 29 rfl)
theorem dX12_station_94 : decode cX12_station 94 = .ok (.iload_n 2, 1) := dq_28 (kX12_station_2 30 rfl)
theorem dX12_station_95 : decode cX12_station 95 = .ok (.iconst (-1), 1) := dq_2 (kX12_station_2 31 rfl)
theorem dX12_station_96 : decode cX12_station 96 = .ok (.iconst 0, 1) := dq_3 (kX12_station_3 0 rfl)
theorem dX12_station_97 : decode cX12_station 97 = .ok (.invokevirtual 421, 3) := dq_182 (kX12_station_3 1 rfl) (kX12_station_3 2 rfl) (kX12_station_3 3 rfl) rfl
theorem dX12_station_100 : decode cX12_station 100 = .ok (.ireturn, 1) := dq_172 (kX12_station_3 4 rfl)

def bX12_field_0 : List UInt8 := [42, 27, 182, 1, 177, 153, 0, 28, 42, 28, 182, 1, 125, 153, 0, 20, 42, 28, 182, 1, 169, 153, 0, 12, 42, 180, 1, 119, 16, 60, 160, 0]
theorem kX12_field_0 (j : Nat) {b : UInt8} (hj : bX12_field_0[j]? = some b) : AtB cX12_field (0 + j) b := at_of32 (by decide +kernel) j hj
def bX12_field_1 : List UInt8 := [5, 2, 172, 42, 5, 42, 180, 0, 38, 27, 46, 28, 2, 27, 182, 1, 165, 172]
theorem kX12_field_1 (j : Nat) {b : UInt8} (hj : bX12_field_1[j]? = some b) : AtB cX12_field (32 + j) b := at_of32 (by decide +kernel) j hj
theorem dX12_field_0 : decode cX12_field 0 = .ok (.aload_n 0, 1) := dq_42 (kX12_field_0 0 rfl)
theorem dX12_field_1 : decode cX12_field 1 = .ok (.iload_n 1, 1) := dq_27 (kX12_field_0 1 rfl)
theorem dX12_field_2 : decode cX12_field 2 = .ok (.invokevirtual 433, 3) := dq_182 (kX12_field_0 2 rfl) (kX12_field_0 3 rfl) (kX12_field_0 4 rfl) rfl
theorem dX12_field_5 : decode cX12_field 5 = .ok (.ifCond .eq 28, 3) := dq_153 (kX12_field_0 5 rfl) (kX12_field_0 6 rfl) (kX12_field_0 7 rfl) (by decide)
theorem dX12_field_8 : decode cX12_field 8 = .ok (.aload_n 0, 1) := dq_42 (kX12_field_0 8 rfl)
theorem dX12_field_9 : decode cX12_field 9 = .ok (.iload_n 2, 1) := dq_28 (kX12_field_0 9 rfl)
theorem dX12_field_10 : decode cX12_field 10 = .ok (.invokevirtual 381, 3) := dq_182 (kX12_field_0 10 rfl) (kX12_field_0 11 rfl) (kX12_field_0 12 rfl) rfl
theorem dX12_field_13 : decode cX12_field 13 = .ok (.ifCond .eq 20, 3) := dq_153 (kX12_field_0 13 rfl) (kX12_field_0 14 rfl) (kX12_field_0 15 rfl) (by decide)
theorem dX12_field_16 : decode cX12_field 16 = .ok (.aload_n 0, 1) := dq_42 (kX12_field_0 16 rfl)
theorem dX12_field_17 : decode cX12_field 17 = .ok (.iload_n 2, 1) := dq_28 (kX12_field_0 17 rfl)
theorem dX12_field_18 : decode cX12_field 18 = .ok (.invokevirtual 425, 3) := dq_182 (kX12_field_0 18 rfl) (kX12_field_0 19 rfl) (kX12_field_0 20 rfl) rfl
theorem dX12_field_21 : decode cX12_field 21 = .ok (.ifCond .eq 12, 3) := dq_153 (kX12_field_0 21 rfl) (kX12_field_0 22 rfl) (kX12_field_0 23 rfl) (by decide)
theorem dX12_field_24 : decode cX12_field 24 = .ok (.aload_n 0, 1) := dq_42 (kX12_field_0 24 rfl)
theorem dX12_field_25 : decode cX12_field 25 = .ok (.getfield 375, 3) := dq_180 (kX12_field_0 25 rfl) (kX12_field_0 26 rfl) (kX12_field_0 27 rfl) rfl
theorem dX12_field_28 : decode cX12_field 28 = .ok (.bipush 60, 2) := dq_16 (kX12_field_0 28 rfl) (kX12_field_0 29 rfl) (by decide)
theorem dX12_field_30 : decode cX12_field 30 = .ok (.if_icmp .ne 5, 3) := dq_160 (kX12_field_0 30 rfl) (kX12_field_0 31 rfl) (kX12_field_1 0 rfl) (by decide)
theorem dX12_field_33 : decode cX12_field 33 = .ok (.iconst (-1), 1) := dq_2 (kX12_field_1 1 rfl)
theorem dX12_field_34 : decode cX12_field 34 = .ok (.ireturn, 1) := dq_172 (kX12_field_1 2 rfl)
theorem dX12_field_35 : decode cX12_field 35 = .ok (.aload_n 0, 1) := dq_42 (kX12_field_1 3 rfl)
theorem dX12_field_36 : decode cX12_field 36 = .ok (.iconst 2, 1) := dq_5 (kX12_field_1 4 rfl)
theorem dX12_field_37 : decode cX12_field 37 = .ok (.aload_n 0, 1) := dq_42 (kX12_field_1 5 rfl)
theorem dX12_field_38 : decode cX12_field 38 = .ok (.getfield 38, 3) := dq_180 (kX12_field_1 6 rfl) (kX12_field_1 7 rfl) (kX12_field_1 8 rfl) rfl
theorem dX12_field_41 : decode cX12_field 41 = .ok (.iload_n 1, 1) := dq_27 (kX12_field_1 9 rfl)
theorem dX12_field_42 : decode cX12_field 42 = .ok (.iaload, 1) := dq_46 (kX12_field_1 10 rfl)
theorem dX12_field_43 : decode cX12_field 43 = .ok (.iload_n 2, 1) := dq_28 (kX12_field_1 11 rfl)
theorem dX12_field_44 : decode cX12_field 44 = .ok (.iconst (-1), 1) := dq_2 (kX12_field_1 12 rfl)
theorem dX12_field_45 : decode cX12_field 45 = .ok (.iload_n 1, 1) := dq_27 (kX12_field_1 13 rfl)
theorem dX12_field_46 : decode cX12_field 46 = .ok (.invokevirtual 421, 3) := dq_182 (kX12_field_1 14 rfl) (kX12_field_1 15 rfl) (kX12_field_1 16 rfl) rfl
theorem dX12_field_49 : decode cX12_field 49 = .ok (.ireturn, 1) := dq_172 (kX12_field_1 17 rfl)

def bX12_reserve_0 : List UInt8 := [42, 27, 28, 182, 1, 159, 153, 0, 22, 29, 4, 16, 9, 184, 1, 115, 153, 0, 12, 42, 180, 1, 119, 16, 60, 160, 0, 5, 2, 172, 42, 6]
theorem kX12_reserve_0 (j : Nat) {b : UInt8} (hj : bX12_reserve_0[j]? = some b) : AtB cX12_reserve (0 + j) b := at_of32 (by decide +kernel) j hj
def bX12_reserve_1 : List UInt8 := [2, 27, 28, 29, 182, 1, 165, 172]
theorem kX12_reserve_1 (j : Nat) {b : UInt8} (hj : bX12_reserve_1[j]? = some b) : AtB cX12_reserve (32 + j) b := at_of32 (by decide +kernel) j hj
theorem dX12_reserve_0 : decode cX12_reserve 0 = .ok (.aload_n 0, 1) := dq_42 (kX12_reserve_0 0 rfl)
theorem dX12_reserve_1 : decode cX12_reserve 1 = .ok (.iload_n 1, 1) := dq_27 (kX12_reserve_0 1 rfl)
theorem dX12_reserve_2 : decode cX12_reserve 2 = .ok (.iload_n 2, 1) := dq_28 (kX12_reserve_0 2 rfl)
theorem dX12_reserve_3 : decode cX12_reserve 3 = .ok (.invokevirtual 415, 3) := dq_182 (kX12_reserve_0 3 rfl) (kX12_reserve_0 4 rfl) (kX12_reserve_0 5 rfl) rfl
theorem dX12_reserve_6 : decode cX12_reserve 6 = .ok (.ifCond .eq 22, 3) := dq_153 (kX12_reserve_0 6 rfl) (kX12_reserve_0 7 rfl) (kX12_reserve_0 8 rfl) (by decide)
theorem dX12_reserve_9 : decode cX12_reserve 9 = .ok (.iload_n 3, 1) := dq_29 (kX12_reserve_0 9 rfl)
theorem dX12_reserve_10 : decode cX12_reserve 10 = .ok (.iconst 1, 1) := dq_4 (kX12_reserve_0 10 rfl)
theorem dX12_reserve_11 : decode cX12_reserve 11 = .ok (.bipush 9, 2) := dq_16 (kX12_reserve_0 11 rfl) (kX12_reserve_0 12 rfl) (by decide)
theorem dX12_reserve_13 : decode cX12_reserve 13 = .ok (.invokestatic 371, 3) := dq_184 (kX12_reserve_0 13 rfl) (kX12_reserve_0 14 rfl) (kX12_reserve_0 15 rfl) rfl
theorem dX12_reserve_16 : decode cX12_reserve 16 = .ok (.ifCond .eq 12, 3) := dq_153 (kX12_reserve_0 16 rfl) (kX12_reserve_0 17 rfl) (kX12_reserve_0 18 rfl) (by decide)
theorem dX12_reserve_19 : decode cX12_reserve 19 = .ok (.aload_n 0, 1) := dq_42 (kX12_reserve_0 19 rfl)
theorem dX12_reserve_20 : decode cX12_reserve 20 = .ok (.getfield 375, 3) := dq_180 (kX12_reserve_0 20 rfl) (kX12_reserve_0 21 rfl) (kX12_reserve_0 22 rfl) rfl
theorem dX12_reserve_23 : decode cX12_reserve 23 = .ok (.bipush 60, 2) := dq_16 (kX12_reserve_0 23 rfl) (kX12_reserve_0 24 rfl) (by decide)
theorem dX12_reserve_25 : decode cX12_reserve 25 = .ok (.if_icmp .ne 5, 3) := dq_160 (kX12_reserve_0 25 rfl) (kX12_reserve_0 26 rfl) (kX12_reserve_0 27 rfl) (by decide)
theorem dX12_reserve_28 : decode cX12_reserve 28 = .ok (.iconst (-1), 1) := dq_2 (kX12_reserve_0 28 rfl)
theorem dX12_reserve_29 : decode cX12_reserve 29 = .ok (.ireturn, 1) := dq_172 (kX12_reserve_0 29 rfl)
theorem dX12_reserve_30 : decode cX12_reserve 30 = .ok (.aload_n 0, 1) := dq_42 (kX12_reserve_0 30 rfl)
theorem dX12_reserve_31 : decode cX12_reserve 31 = .ok (.iconst 3, 1) := dq_6 (kX12_reserve_0 31 rfl)
theorem dX12_reserve_32 : decode cX12_reserve 32 = .ok (.iconst (-1), 1) := dq_2 (kX12_reserve_1 0 rfl)
theorem dX12_reserve_33 : decode cX12_reserve 33 = .ok (.iload_n 1, 1) := dq_27 (kX12_reserve_1 1 rfl)
theorem dX12_reserve_34 : decode cX12_reserve 34 = .ok (.iload_n 2, 1) := dq_28 (kX12_reserve_1 2 rfl)
theorem dX12_reserve_35 : decode cX12_reserve 35 = .ok (.iload_n 3, 1) := dq_29 (kX12_reserve_1 3 rfl)
theorem dX12_reserve_36 : decode cX12_reserve 36 = .ok (.invokevirtual 421, 3) := dq_182 (kX12_reserve_1 4 rfl) (kX12_reserve_1 5 rfl) (kX12_reserve_1 6 rfl) rfl
theorem dX12_reserve_39 : decode cX12_reserve 39 = .ok (.ireturn, 1) := dq_172 (kX12_reserve_1 7 rfl)

def bX12_site_0 : List UInt8 := [42, 27, 182, 1, 125, 153, 0, 12, 42, 180, 1, 119, 16, 60, 160, 0, 5, 2, 172, 42, 28, 153, 0, 7, 8, 167, 0, 4, 7, 2, 27, 2]
theorem kX12_site_0 (j : Nat) {b : UInt8} (hj : bX12_site_0[j]? = some b) : AtB cX12_site (0 + j) b := at_of32 (by decide +kernel) j hj
def bX12_site_1 : List UInt8 := [3, 182, 1, 165, 172]
theorem kX12_site_1 (j : Nat) {b : UInt8} (hj : bX12_site_1[j]? = some b) : AtB cX12_site (32 + j) b := at_of32 (by decide +kernel) j hj
theorem dX12_site_0 : decode cX12_site 0 = .ok (.aload_n 0, 1) := dq_42 (kX12_site_0 0 rfl)
theorem dX12_site_1 : decode cX12_site 1 = .ok (.iload_n 1, 1) := dq_27 (kX12_site_0 1 rfl)
theorem dX12_site_2 : decode cX12_site 2 = .ok (.invokevirtual 381, 3) := dq_182 (kX12_site_0 2 rfl) (kX12_site_0 3 rfl) (kX12_site_0 4 rfl) rfl
theorem dX12_site_5 : decode cX12_site 5 = .ok (.ifCond .eq 12, 3) := dq_153 (kX12_site_0 5 rfl) (kX12_site_0 6 rfl) (kX12_site_0 7 rfl) (by decide)
theorem dX12_site_8 : decode cX12_site 8 = .ok (.aload_n 0, 1) := dq_42 (kX12_site_0 8 rfl)
theorem dX12_site_9 : decode cX12_site 9 = .ok (.getfield 375, 3) := dq_180 (kX12_site_0 9 rfl) (kX12_site_0 10 rfl) (kX12_site_0 11 rfl) rfl
theorem dX12_site_12 : decode cX12_site 12 = .ok (.bipush 60, 2) := dq_16 (kX12_site_0 12 rfl) (kX12_site_0 13 rfl) (by decide)
theorem dX12_site_14 : decode cX12_site 14 = .ok (.if_icmp .ne 5, 3) := dq_160 (kX12_site_0 14 rfl) (kX12_site_0 15 rfl) (kX12_site_0 16 rfl) (by decide)
theorem dX12_site_17 : decode cX12_site 17 = .ok (.iconst (-1), 1) := dq_2 (kX12_site_0 17 rfl)
theorem dX12_site_18 : decode cX12_site 18 = .ok (.ireturn, 1) := dq_172 (kX12_site_0 18 rfl)
theorem dX12_site_19 : decode cX12_site 19 = .ok (.aload_n 0, 1) := dq_42 (kX12_site_0 19 rfl)
theorem dX12_site_20 : decode cX12_site 20 = .ok (.iload_n 2, 1) := dq_28 (kX12_site_0 20 rfl)
theorem dX12_site_21 : decode cX12_site 21 = .ok (.ifCond .eq 7, 3) := dq_153 (kX12_site_0 21 rfl) (kX12_site_0 22 rfl) (kX12_site_0 23 rfl) (by decide)
theorem dX12_site_24 : decode cX12_site 24 = .ok (.iconst 5, 1) := dq_8 (kX12_site_0 24 rfl)
theorem dX12_site_25 : decode cX12_site 25 = .ok (.goto 4, 3) := dq_167 (kX12_site_0 25 rfl) (kX12_site_0 26 rfl) (kX12_site_0 27 rfl) (by decide)
theorem dX12_site_28 : decode cX12_site 28 = .ok (.iconst 4, 1) := dq_7 (kX12_site_0 28 rfl)
theorem dX12_site_29 : decode cX12_site 29 = .ok (.iconst (-1), 1) := dq_2 (kX12_site_0 29 rfl)
theorem dX12_site_30 : decode cX12_site 30 = .ok (.iload_n 1, 1) := dq_27 (kX12_site_0 30 rfl)
theorem dX12_site_31 : decode cX12_site 31 = .ok (.iconst (-1), 1) := dq_2 (kX12_site_0 31 rfl)
theorem dX12_site_32 : decode cX12_site 32 = .ok (.iconst 0, 1) := dq_3 (kX12_site_1 0 rfl)
theorem dX12_site_33 : decode cX12_site 33 = .ok (.invokevirtual 421, 3) := dq_182 (kX12_site_1 1 rfl) (kX12_site_1 2 rfl) (kX12_site_1 3 rfl) rfl
theorem dX12_site_36 : decode cX12_site 36 = .ok (.ireturn, 1) := dq_172 (kX12_site_1 4 rfl)

def bX12_types_0 : List UInt8 := [6, 61, 28, 155, 0, 35, 42, 180, 0, 84, 42, 180, 1, 180, 27, 16, 8, 28, 104, 122, 145, 84, 42, 42, 180, 1, 180, 4, 96, 181, 1, 180]
theorem kX12_types_0 (j : Nat) {b : UInt8} (hj : bX12_types_0[j]? = some b) : AtB cX12_types (0 + j) b := at_of32 (by decide +kernel) j hj
def bX12_types_1 : List UInt8 := [132, 2, 255, 167, 255, 223, 177]
theorem kX12_types_1 (j : Nat) {b : UInt8} (hj : bX12_types_1[j]? = some b) : AtB cX12_types (32 + j) b := at_of32 (by decide +kernel) j hj
theorem dX12_types_0 : decode cX12_types 0 = .ok (.iconst 3, 1) := dq_6 (kX12_types_0 0 rfl)
theorem dX12_types_1 : decode cX12_types 1 = .ok (.istore_n 2, 1) := dq_61 (kX12_types_0 1 rfl)
theorem dX12_types_2 : decode cX12_types 2 = .ok (.iload_n 2, 1) := dq_28 (kX12_types_0 2 rfl)
theorem dX12_types_3 : decode cX12_types 3 = .ok (.ifCond .lt 35, 3) := dq_155 (kX12_types_0 3 rfl) (kX12_types_0 4 rfl) (kX12_types_0 5 rfl) (by decide)
theorem dX12_types_6 : decode cX12_types 6 = .ok (.aload_n 0, 1) := dq_42 (kX12_types_0 6 rfl)
theorem dX12_types_7 : decode cX12_types 7 = .ok (.getfield 84, 3) := dq_180 (kX12_types_0 7 rfl) (kX12_types_0 8 rfl) (kX12_types_0 9 rfl) rfl
theorem dX12_types_10 : decode cX12_types 10 = .ok (.aload_n 0, 1) := dq_42 (kX12_types_0 10 rfl)
theorem dX12_types_11 : decode cX12_types 11 = .ok (.getfield 436, 3) := dq_180 (kX12_types_0 11 rfl) (kX12_types_0 12 rfl) (kX12_types_0 13 rfl) rfl
theorem dX12_types_14 : decode cX12_types 14 = .ok (.iload_n 1, 1) := dq_27 (kX12_types_0 14 rfl)
theorem dX12_types_15 : decode cX12_types 15 = .ok (.bipush 8, 2) := dq_16 (kX12_types_0 15 rfl) (kX12_types_0 16 rfl) (by decide)
theorem dX12_types_17 : decode cX12_types 17 = .ok (.iload_n 2, 1) := dq_28 (kX12_types_0 17 rfl)
theorem dX12_types_18 : decode cX12_types 18 = .ok (.imul, 1) := dq_104 (kX12_types_0 18 rfl)
theorem dX12_types_19 : decode cX12_types 19 = .ok (.ishr, 1) := dq_122 (kX12_types_0 19 rfl)
theorem dX12_types_20 : decode cX12_types 20 = .ok (.i2b, 1) := dq_145 (kX12_types_0 20 rfl)
theorem dX12_types_21 : decode cX12_types 21 = .ok (.bastore, 1) := dq_84 (kX12_types_0 21 rfl)
theorem dX12_types_22 : decode cX12_types 22 = .ok (.aload_n 0, 1) := dq_42 (kX12_types_0 22 rfl)
theorem dX12_types_23 : decode cX12_types 23 = .ok (.aload_n 0, 1) := dq_42 (kX12_types_0 23 rfl)
theorem dX12_types_24 : decode cX12_types 24 = .ok (.getfield 436, 3) := dq_180 (kX12_types_0 24 rfl) (kX12_types_0 25 rfl) (kX12_types_0 26 rfl) rfl
theorem dX12_types_27 : decode cX12_types 27 = .ok (.iconst 1, 1) := dq_4 (kX12_types_0 27 rfl)
theorem dX12_types_28 : decode cX12_types 28 = .ok (.iadd, 1) := dq_96 (kX12_types_0 28 rfl)
theorem dX12_types_29 : decode cX12_types 29 = .ok (.putfield 436, 3) := dq_181 (kX12_types_0 29 rfl) (kX12_types_0 30 rfl) (kX12_types_0 31 rfl) rfl
theorem dX12_types_32 : decode cX12_types 32 = .ok (.iinc 2 (-1), 3) := dq_132 (kX12_types_1 0 rfl) (kX12_types_1 1 rfl) (kX12_types_1 2 rfl) rfl (by decide)
theorem dX12_types_35 : decode cX12_types 35 = .ok (.goto (-33), 3) := dq_167 (kX12_types_1 3 rfl) (kX12_types_1 4 rfl) (kX12_types_1 5 rfl) (by decide)
theorem dX12_types_38 : decode cX12_types 38 = .ok (.return_, 1) := dq_177 (kX12_types_1 6 rfl)

def bX12_feed_0 : List UInt8 := [42, 180, 1, 180, 16, 20, 96, 17, 1, 144, 164, 0, 5, 2, 172, 42, 27, 182, 1, 183, 42, 28, 182, 1, 183, 42, 29, 182, 1, 183, 42, 21]
theorem kX12_feed_0 (j : Nat) {b : UInt8} (hj : bX12_feed_0[j]? = some b) : AtB cX12_feed (0 + j) b := at_of32 (by decide +kernel) j hj
def bX12_feed_1 : List UInt8 := [4, 182, 1, 183, 42, 21, 5, 182, 1, 183, 42, 180, 1, 180, 172]
theorem kX12_feed_1 (j : Nat) {b : UInt8} (hj : bX12_feed_1[j]? = some b) : AtB cX12_feed (32 + j) b := at_of32 (by decide +kernel) j hj
theorem dX12_feed_0 : decode cX12_feed 0 = .ok (.aload_n 0, 1) := dq_42 (kX12_feed_0 0 rfl)
theorem dX12_feed_1 : decode cX12_feed 1 = .ok (.getfield 436, 3) := dq_180 (kX12_feed_0 1 rfl) (kX12_feed_0 2 rfl) (kX12_feed_0 3 rfl) rfl
theorem dX12_feed_4 : decode cX12_feed 4 = .ok (.bipush 20, 2) := dq_16 (kX12_feed_0 4 rfl) (kX12_feed_0 5 rfl) (by decide)
theorem dX12_feed_6 : decode cX12_feed 6 = .ok (.iadd, 1) := dq_96 (kX12_feed_0 6 rfl)
theorem dX12_feed_7 : decode cX12_feed 7 = .ok (.sipush 400, 3) := dq_17 (kX12_feed_0 7 rfl) (kX12_feed_0 8 rfl) (kX12_feed_0 9 rfl) (by decide)
theorem dX12_feed_10 : decode cX12_feed 10 = .ok (.if_icmp .le 5, 3) := dq_164 (kX12_feed_0 10 rfl) (kX12_feed_0 11 rfl) (kX12_feed_0 12 rfl) (by decide)
theorem dX12_feed_13 : decode cX12_feed 13 = .ok (.iconst (-1), 1) := dq_2 (kX12_feed_0 13 rfl)
theorem dX12_feed_14 : decode cX12_feed 14 = .ok (.ireturn, 1) := dq_172 (kX12_feed_0 14 rfl)
theorem dX12_feed_15 : decode cX12_feed 15 = .ok (.aload_n 0, 1) := dq_42 (kX12_feed_0 15 rfl)
theorem dX12_feed_16 : decode cX12_feed 16 = .ok (.iload_n 1, 1) := dq_27 (kX12_feed_0 16 rfl)
theorem dX12_feed_17 : decode cX12_feed 17 = .ok (.invokevirtual 439, 3) := dq_182 (kX12_feed_0 17 rfl) (kX12_feed_0 18 rfl) (kX12_feed_0 19 rfl) rfl
theorem dX12_feed_20 : decode cX12_feed 20 = .ok (.aload_n 0, 1) := dq_42 (kX12_feed_0 20 rfl)
theorem dX12_feed_21 : decode cX12_feed 21 = .ok (.iload_n 2, 1) := dq_28 (kX12_feed_0 21 rfl)
theorem dX12_feed_22 : decode cX12_feed 22 = .ok (.invokevirtual 439, 3) := dq_182 (kX12_feed_0 22 rfl) (kX12_feed_0 23 rfl) (kX12_feed_0 24 rfl) rfl
theorem dX12_feed_25 : decode cX12_feed 25 = .ok (.aload_n 0, 1) := dq_42 (kX12_feed_0 25 rfl)
theorem dX12_feed_26 : decode cX12_feed 26 = .ok (.iload_n 3, 1) := dq_29 (kX12_feed_0 26 rfl)
theorem dX12_feed_27 : decode cX12_feed 27 = .ok (.invokevirtual 439, 3) := dq_182 (kX12_feed_0 27 rfl) (kX12_feed_0 28 rfl) (kX12_feed_0 29 rfl) rfl
theorem dX12_feed_30 : decode cX12_feed 30 = .ok (.aload_n 0, 1) := dq_42 (kX12_feed_0 30 rfl)
theorem dX12_feed_31 : decode cX12_feed 31 = .ok (.iload 4, 2) := dq_21 (kX12_feed_0 31 rfl) (kX12_feed_1 0 rfl) rfl
theorem dX12_feed_33 : decode cX12_feed 33 = .ok (.invokevirtual 439, 3) := dq_182 (kX12_feed_1 1 rfl) (kX12_feed_1 2 rfl) (kX12_feed_1 3 rfl) rfl
theorem dX12_feed_36 : decode cX12_feed 36 = .ok (.aload_n 0, 1) := dq_42 (kX12_feed_1 4 rfl)
theorem dX12_feed_37 : decode cX12_feed 37 = .ok (.iload 5, 2) := dq_21 (kX12_feed_1 5 rfl) (kX12_feed_1 6 rfl) rfl
theorem dX12_feed_39 : decode cX12_feed 39 = .ok (.invokevirtual 439, 3) := dq_182 (kX12_feed_1 7 rfl) (kX12_feed_1 8 rfl) (kX12_feed_1 9 rfl) rfl
theorem dX12_feed_42 : decode cX12_feed 42 = .ok (.aload_n 0, 1) := dq_42 (kX12_feed_1 10 rfl)
theorem dX12_feed_43 : decode cX12_feed 43 = .ok (.getfield 436, 3) := dq_180 (kX12_feed_1 11 rfl) (kX12_feed_1 12 rfl) (kX12_feed_1 13 rfl) rfl
theorem dX12_feed_46 : decode cX12_feed 46 = .ok (.ireturn, 1) := dq_172 (kX12_feed_1 14 rfl)

def bX12_sign_0 : List UInt8 := [42, 180, 1, 187, 42, 180, 1, 190, 162, 0, 19, 42, 180, 0, 84, 42, 180, 1, 187, 51, 17, 0, 255, 126, 167, 0, 4, 2, 172]
theorem kX12_sign_0 (j : Nat) {b : UInt8} (hj : bX12_sign_0[j]? = some b) : AtB cX12_sign (0 + j) b := at_of32 (by decide +kernel) j hj
theorem dX12_sign_0 : decode cX12_sign 0 = .ok (.aload_n 0, 1) := dq_42 (kX12_sign_0 0 rfl)
theorem dX12_sign_1 : decode cX12_sign 1 = .ok (.getfield 443, 3) := dq_180 (kX12_sign_0 1 rfl) (kX12_sign_0 2 rfl) (kX12_sign_0 3 rfl) rfl
theorem dX12_sign_4 : decode cX12_sign 4 = .ok (.aload_n 0, 1) := dq_42 (kX12_sign_0 4 rfl)
theorem dX12_sign_5 : decode cX12_sign 5 = .ok (.getfield 446, 3) := dq_180 (kX12_sign_0 5 rfl) (kX12_sign_0 6 rfl) (kX12_sign_0 7 rfl) rfl
theorem dX12_sign_8 : decode cX12_sign 8 = .ok (.if_icmp .ge 19, 3) := dq_162 (kX12_sign_0 8 rfl) (kX12_sign_0 9 rfl) (kX12_sign_0 10 rfl) (by decide)
theorem dX12_sign_11 : decode cX12_sign 11 = .ok (.aload_n 0, 1) := dq_42 (kX12_sign_0 11 rfl)
theorem dX12_sign_12 : decode cX12_sign 12 = .ok (.getfield 84, 3) := dq_180 (kX12_sign_0 12 rfl) (kX12_sign_0 13 rfl) (kX12_sign_0 14 rfl) rfl
theorem dX12_sign_15 : decode cX12_sign 15 = .ok (.aload_n 0, 1) := dq_42 (kX12_sign_0 15 rfl)
theorem dX12_sign_16 : decode cX12_sign 16 = .ok (.getfield 443, 3) := dq_180 (kX12_sign_0 16 rfl) (kX12_sign_0 17 rfl) (kX12_sign_0 18 rfl) rfl
theorem dX12_sign_19 : decode cX12_sign 19 = .ok (.baload, 1) := dq_51 (kX12_sign_0 19 rfl)
theorem dX12_sign_20 : decode cX12_sign 20 = .ok (.sipush 255, 3) := dq_17 (kX12_sign_0 20 rfl) (kX12_sign_0 21 rfl) (kX12_sign_0 22 rfl) (by decide)
theorem dX12_sign_23 : decode cX12_sign 23 = .ok (.iand, 1) := dq_126 (kX12_sign_0 23 rfl)
theorem dX12_sign_24 : decode cX12_sign 24 = .ok (.goto 4, 3) := dq_167 (kX12_sign_0 24 rfl) (kX12_sign_0 25 rfl) (kX12_sign_0 26 rfl) (by decide)
theorem dX12_sign_27 : decode cX12_sign 27 = .ok (.iconst (-1), 1) := dq_2 (kX12_sign_0 27 rfl)
theorem dX12_sign_28 : decode cX12_sign 28 = .ok (.ireturn, 1) := dq_172 (kX12_sign_0 28 rfl)

def bX12_isDigit_0 : List UInt8 := [42, 182, 1, 193, 16, 48, 161, 0, 16, 42, 182, 1, 193, 16, 57, 163, 0, 7, 4, 167, 0, 4, 3, 172]
theorem kX12_isDigit_0 (j : Nat) {b : UInt8} (hj : bX12_isDigit_0[j]? = some b) : AtB cX12_isDigit (0 + j) b := at_of32 (by decide +kernel) j hj
theorem dX12_isDigit_0 : decode cX12_isDigit 0 = .ok (.aload_n 0, 1) := dq_42 (kX12_isDigit_0 0 rfl)
theorem dX12_isDigit_1 : decode cX12_isDigit 1 = .ok (.invokevirtual 449, 3) := dq_182 (kX12_isDigit_0 1 rfl) (kX12_isDigit_0 2 rfl) (kX12_isDigit_0 3 rfl) rfl
theorem dX12_isDigit_4 : decode cX12_isDigit 4 = .ok (.bipush 48, 2) := dq_16 (kX12_isDigit_0 4 rfl) (kX12_isDigit_0 5 rfl) (by decide)
theorem dX12_isDigit_6 : decode cX12_isDigit 6 = .ok (.if_icmp .lt 16, 3) := dq_161 (kX12_isDigit_0 6 rfl) (kX12_isDigit_0 7 rfl) (kX12_isDigit_0 8 rfl) (by decide)
theorem dX12_isDigit_9 : decode cX12_isDigit 9 = .ok (.aload_n 0, 1) := dq_42 (kX12_isDigit_0 9 rfl)
theorem dX12_isDigit_10 : decode cX12_isDigit 10 = .ok (.invokevirtual 449, 3) := dq_182 (kX12_isDigit_0 10 rfl) (kX12_isDigit_0 11 rfl) (kX12_isDigit_0 12 rfl) rfl
theorem dX12_isDigit_13 : decode cX12_isDigit 13 = .ok (.bipush 57, 2) := dq_16 (kX12_isDigit_0 13 rfl) (kX12_isDigit_0 14 rfl) (by decide)
theorem dX12_isDigit_15 : decode cX12_isDigit 15 = .ok (.if_icmp .gt 7, 3) := dq_163 (kX12_isDigit_0 15 rfl) (kX12_isDigit_0 16 rfl) (kX12_isDigit_0 17 rfl) (by decide)
theorem dX12_isDigit_18 : decode cX12_isDigit 18 = .ok (.iconst 1, 1) := dq_4 (kX12_isDigit_0 18 rfl)
theorem dX12_isDigit_19 : decode cX12_isDigit 19 = .ok (.goto 4, 3) := dq_167 (kX12_isDigit_0 19 rfl) (kX12_isDigit_0 20 rfl) (kX12_isDigit_0 21 rfl) (by decide)
theorem dX12_isDigit_22 : decode cX12_isDigit 22 = .ok (.iconst 0, 1) := dq_3 (kX12_isDigit_0 22 rfl)
theorem dX12_isDigit_23 : decode cX12_isDigit 23 = .ok (.ireturn, 1) := dq_172 (kX12_isDigit_0 23 rfl)

def bX12_wrong_0 : List UInt8 := [42, 17, 252, 24, 27, 104, 28, 100, 181, 1, 197, 3, 172]
theorem kX12_wrong_0 (j : Nat) {b : UInt8} (hj : bX12_wrong_0[j]? = some b) : AtB cX12_wrong (0 + j) b := at_of32 (by decide +kernel) j hj
theorem dX12_wrong_0 : decode cX12_wrong 0 = .ok (.aload_n 0, 1) := dq_42 (kX12_wrong_0 0 rfl)
theorem dX12_wrong_1 : decode cX12_wrong 1 = .ok (.sipush (-1000), 3) := dq_17 (kX12_wrong_0 1 rfl) (kX12_wrong_0 2 rfl) (kX12_wrong_0 3 rfl) (by decide)
theorem dX12_wrong_4 : decode cX12_wrong 4 = .ok (.iload_n 1, 1) := dq_27 (kX12_wrong_0 4 rfl)
theorem dX12_wrong_5 : decode cX12_wrong 5 = .ok (.imul, 1) := dq_104 (kX12_wrong_0 5 rfl)
theorem dX12_wrong_6 : decode cX12_wrong 6 = .ok (.iload_n 2, 1) := dq_28 (kX12_wrong_0 6 rfl)
theorem dX12_wrong_7 : decode cX12_wrong 7 = .ok (.isub, 1) := dq_100 (kX12_wrong_0 7 rfl)
theorem dX12_wrong_8 : decode cX12_wrong 8 = .ok (.putfield 453, 3) := dq_181 (kX12_wrong_0 8 rfl) (kX12_wrong_0 9 rfl) (kX12_wrong_0 10 rfl) rfl
theorem dX12_wrong_11 : decode cX12_wrong 11 = .ok (.iconst 0, 1) := dq_3 (kX12_wrong_0 11 rfl)
theorem dX12_wrong_12 : decode cX12_wrong 12 = .ok (.ireturn, 1) := dq_172 (kX12_wrong_0 12 rfl)

def bX12_takes_0 : List UInt8 := [42, 182, 1, 193, 27, 159, 0, 13, 42, 4, 42, 180, 1, 187, 182, 1, 200, 172, 42, 42, 180, 1, 187, 4, 96, 181, 1, 187, 4, 172]
theorem kX12_takes_0 (j : Nat) {b : UInt8} (hj : bX12_takes_0[j]? = some b) : AtB cX12_takes (0 + j) b := at_of32 (by decide +kernel) j hj
theorem dX12_takes_0 : decode cX12_takes 0 = .ok (.aload_n 0, 1) := dq_42 (kX12_takes_0 0 rfl)
theorem dX12_takes_1 : decode cX12_takes 1 = .ok (.invokevirtual 449, 3) := dq_182 (kX12_takes_0 1 rfl) (kX12_takes_0 2 rfl) (kX12_takes_0 3 rfl) rfl
theorem dX12_takes_4 : decode cX12_takes 4 = .ok (.iload_n 1, 1) := dq_27 (kX12_takes_0 4 rfl)
theorem dX12_takes_5 : decode cX12_takes 5 = .ok (.if_icmp .eq 13, 3) := dq_159 (kX12_takes_0 5 rfl) (kX12_takes_0 6 rfl) (kX12_takes_0 7 rfl) (by decide)
theorem dX12_takes_8 : decode cX12_takes 8 = .ok (.aload_n 0, 1) := dq_42 (kX12_takes_0 8 rfl)
theorem dX12_takes_9 : decode cX12_takes 9 = .ok (.iconst 1, 1) := dq_4 (kX12_takes_0 9 rfl)
theorem dX12_takes_10 : decode cX12_takes 10 = .ok (.aload_n 0, 1) := dq_42 (kX12_takes_0 10 rfl)
theorem dX12_takes_11 : decode cX12_takes 11 = .ok (.getfield 443, 3) := dq_180 (kX12_takes_0 11 rfl) (kX12_takes_0 12 rfl) (kX12_takes_0 13 rfl) rfl
theorem dX12_takes_14 : decode cX12_takes 14 = .ok (.invokevirtual 456, 3) := dq_182 (kX12_takes_0 14 rfl) (kX12_takes_0 15 rfl) (kX12_takes_0 16 rfl) rfl
theorem dX12_takes_17 : decode cX12_takes 17 = .ok (.ireturn, 1) := dq_172 (kX12_takes_0 17 rfl)
theorem dX12_takes_18 : decode cX12_takes 18 = .ok (.aload_n 0, 1) := dq_42 (kX12_takes_0 18 rfl)
theorem dX12_takes_19 : decode cX12_takes 19 = .ok (.aload_n 0, 1) := dq_42 (kX12_takes_0 19 rfl)
theorem dX12_takes_20 : decode cX12_takes 20 = .ok (.getfield 443, 3) := dq_180 (kX12_takes_0 20 rfl) (kX12_takes_0 21 rfl) (kX12_takes_0 22 rfl) rfl
theorem dX12_takes_23 : decode cX12_takes 23 = .ok (.iconst 1, 1) := dq_4 (kX12_takes_0 23 rfl)
theorem dX12_takes_24 : decode cX12_takes 24 = .ok (.iadd, 1) := dq_96 (kX12_takes_0 24 rfl)
theorem dX12_takes_25 : decode cX12_takes 25 = .ok (.putfield 443, 3) := dq_181 (kX12_takes_0 25 rfl) (kX12_takes_0 26 rfl) (kX12_takes_0 27 rfl) rfl
theorem dX12_takes_28 : decode cX12_takes 28 = .ok (.iconst 1, 1) := dq_4 (kX12_takes_0 28 rfl)
theorem dX12_takes_29 : decode cX12_takes 29 = .ok (.ireturn, 1) := dq_172 (kX12_takes_0 29 rfl)

def bX12_readsNumber_0 : List UInt8 := [42, 180, 1, 187, 61, 42, 3, 181, 1, 203, 42, 182, 1, 206, 154, 0, 13, 42, 4, 42, 180, 1, 187, 182, 1, 200, 172, 42, 182, 1, 206, 153]
theorem kX12_readsNumber_0 (j : Nat) {b : UInt8} (hj : bX12_readsNumber_0[j]? = some b) : AtB cX12_readsNumber (0 + j) b := at_of32 (by decide +kernel) j hj
def bX12_readsNumber_1 : List UInt8 := [0, 56, 42, 180, 1, 187, 28, 16, 6, 96, 160, 0, 13, 42, 5, 42, 180, 1, 187, 182, 1, 200, 172, 42, 16, 10, 42, 180, 1, 203, 104, 42]
theorem kX12_readsNumber_1 (j : Nat) {b : UInt8} (hj : bX12_readsNumber_1[j]? = some b) : AtB cX12_readsNumber (32 + j) b := at_of32 (by decide +kernel) j hj
def bX12_readsNumber_2 : List UInt8 := [182, 1, 193, 96, 16, 48, 100, 181, 1, 203, 42, 42, 180, 1, 187, 4, 96, 181, 1, 187, 167, 255, 199, 42, 180, 1, 203, 27, 164, 0, 12, 42]
theorem kX12_readsNumber_2 (j : Nat) {b : UInt8} (hj : bX12_readsNumber_2[j]? = some b) : AtB cX12_readsNumber (64 + j) b := at_of32 (by decide +kernel) j hj
def bX12_readsNumber_3 : List UInt8 := [6, 28, 182, 1, 200, 153, 0, 7, 4, 167, 0, 4, 3, 172]
theorem kX12_readsNumber_3 (j : Nat) {b : UInt8} (hj : bX12_readsNumber_3[j]? = some b) : AtB cX12_readsNumber (96 + j) b := at_of32 (by decide +kernel) j hj
theorem dX12_readsNumber_0 : decode cX12_readsNumber 0 = .ok (.aload_n 0, 1) := dq_42 (kX12_readsNumber_0 0 rfl)
theorem dX12_readsNumber_1 : decode cX12_readsNumber 1 = .ok (.getfield 443, 3) := dq_180 (kX12_readsNumber_0 1 rfl) (kX12_readsNumber_0 2 rfl) (kX12_readsNumber_0 3 rfl) rfl
theorem dX12_readsNumber_4 : decode cX12_readsNumber 4 = .ok (.istore_n 2, 1) := dq_61 (kX12_readsNumber_0 4 rfl)
theorem dX12_readsNumber_5 : decode cX12_readsNumber 5 = .ok (.aload_n 0, 1) := dq_42 (kX12_readsNumber_0 5 rfl)
theorem dX12_readsNumber_6 : decode cX12_readsNumber 6 = .ok (.iconst 0, 1) := dq_3 (kX12_readsNumber_0 6 rfl)
theorem dX12_readsNumber_7 : decode cX12_readsNumber 7 = .ok (.putfield 459, 3) := dq_181 (kX12_readsNumber_0 7 rfl) (kX12_readsNumber_0 8 rfl) (kX12_readsNumber_0 9 rfl) rfl
theorem dX12_readsNumber_10 : decode cX12_readsNumber 10 = .ok (.aload_n 0, 1) := dq_42 (kX12_readsNumber_0 10 rfl)
theorem dX12_readsNumber_11 : decode cX12_readsNumber 11 = .ok (.invokevirtual 462, 3) := dq_182 (kX12_readsNumber_0 11 rfl) (kX12_readsNumber_0 12 rfl) (kX12_readsNumber_0 13 rfl) rfl
theorem dX12_readsNumber_14 : decode cX12_readsNumber 14 = .ok (.ifCond .ne 13, 3) := dq_154 (kX12_readsNumber_0 14 rfl) (kX12_readsNumber_0 15 rfl) (kX12_readsNumber_0 16 rfl) (by decide)
theorem dX12_readsNumber_17 : decode cX12_readsNumber 17 = .ok (.aload_n 0, 1) := dq_42 (kX12_readsNumber_0 17 rfl)
theorem dX12_readsNumber_18 : decode cX12_readsNumber 18 = .ok (.iconst 1, 1) := dq_4 (kX12_readsNumber_0 18 rfl)
theorem dX12_readsNumber_19 : decode cX12_readsNumber 19 = .ok (.aload_n 0, 1) := dq_42 (kX12_readsNumber_0 19 rfl)
theorem dX12_readsNumber_20 : decode cX12_readsNumber 20 = .ok (.getfield 443, 3) := dq_180 (kX12_readsNumber_0 20 rfl) (kX12_readsNumber_0 21 rfl) (kX12_readsNumber_0 22 rfl) rfl
theorem dX12_readsNumber_23 : decode cX12_readsNumber 23 = .ok (.invokevirtual 456, 3) := dq_182 (kX12_readsNumber_0 23 rfl) (kX12_readsNumber_0 24 rfl) (kX12_readsNumber_0 25 rfl) rfl
theorem dX12_readsNumber_26 : decode cX12_readsNumber 26 = .ok (.ireturn, 1) := dq_172 (kX12_readsNumber_0 26 rfl)
theorem dX12_readsNumber_27 : decode cX12_readsNumber 27 = .ok (.aload_n 0, 1) := dq_42 (kX12_readsNumber_0 27 rfl)
theorem dX12_readsNumber_28 : decode cX12_readsNumber 28 = .ok (.invokevirtual 462, 3) := dq_182 (kX12_readsNumber_0 28 rfl) (kX12_readsNumber_0 29 rfl) (kX12_readsNumber_0 30 rfl) rfl
theorem dX12_readsNumber_31 : decode cX12_readsNumber 31 = .ok (.ifCond .eq 56, 3) := dq_153 (kX12_readsNumber_0 31 rfl) (kX12_readsNumber_1 0 rfl) (kX12_readsNumber_1 1 rfl) (by decide)
theorem dX12_readsNumber_34 : decode cX12_readsNumber 34 = .ok (.aload_n 0, 1) := dq_42 (kX12_readsNumber_1 2 rfl)
theorem dX12_readsNumber_35 : decode cX12_readsNumber 35 = .ok (.getfield 443, 3) := dq_180 (kX12_readsNumber_1 3 rfl) (kX12_readsNumber_1 4 rfl) (kX12_readsNumber_1 5 rfl) rfl
theorem dX12_readsNumber_38 : decode cX12_readsNumber 38 = .ok (.iload_n 2, 1) := dq_28 (kX12_readsNumber_1 6 rfl)
theorem dX12_readsNumber_39 : decode cX12_readsNumber 39 = .ok (.bipush 6, 2) := dq_16 (kX12_readsNumber_1 7 rfl) (kX12_readsNumber_1 8 rfl) (by decide)
theorem dX12_readsNumber_41 : decode cX12_readsNumber 41 = .ok (.iadd, 1) := dq_96 (kX12_readsNumber_1 9 rfl)
theorem dX12_readsNumber_42 : decode cX12_readsNumber 42 = .ok (.if_icmp .ne 13, 3) := dq_160 (kX12_readsNumber_1 10 rfl) (kX12_readsNumber_1 11 rfl) (kX12_readsNumber_1 12 rfl) (by decide)
theorem dX12_readsNumber_45 : decode cX12_readsNumber 45 = .ok (.aload_n 0, 1) := dq_42 (kX12_readsNumber_1 13 rfl)
theorem dX12_readsNumber_46 : decode cX12_readsNumber 46 = .ok (.iconst 2, 1) := dq_5 (kX12_readsNumber_1 14 rfl)
theorem dX12_readsNumber_47 : decode cX12_readsNumber 47 = .ok (.aload_n 0, 1) := dq_42 (kX12_readsNumber_1 15 rfl)
theorem dX12_readsNumber_48 : decode cX12_readsNumber 48 = .ok (.getfield 443, 3) := dq_180 (kX12_readsNumber_1 16 rfl) (kX12_readsNumber_1 17 rfl) (kX12_readsNumber_1 18 rfl) rfl
theorem dX12_readsNumber_51 : decode cX12_readsNumber 51 = .ok (.invokevirtual 456, 3) := dq_182 (kX12_readsNumber_1 19 rfl) (kX12_readsNumber_1 20 rfl) (kX12_readsNumber_1 21 rfl) rfl
theorem dX12_readsNumber_54 : decode cX12_readsNumber 54 = .ok (.ireturn, 1) := dq_172 (kX12_readsNumber_1 22 rfl)
theorem dX12_readsNumber_55 : decode cX12_readsNumber 55 = .ok (.aload_n 0, 1) := dq_42 (kX12_readsNumber_1 23 rfl)
theorem dX12_readsNumber_56 : decode cX12_readsNumber 56 = .ok (.bipush 10, 2) := dq_16 (kX12_readsNumber_1 24 rfl) (kX12_readsNumber_1 25 rfl) (by decide)
theorem dX12_readsNumber_58 : decode cX12_readsNumber 58 = .ok (.aload_n 0, 1) := dq_42 (kX12_readsNumber_1 26 rfl)
theorem dX12_readsNumber_59 : decode cX12_readsNumber 59 = .ok (.getfield 459, 3) := dq_180 (kX12_readsNumber_1 27 rfl) (kX12_readsNumber_1 28 rfl) (kX12_readsNumber_1 29 rfl) rfl
theorem dX12_readsNumber_62 : decode cX12_readsNumber 62 = .ok (.imul, 1) := dq_104 (kX12_readsNumber_1 30 rfl)
theorem dX12_readsNumber_63 : decode cX12_readsNumber 63 = .ok (.aload_n 0, 1) := dq_42 (kX12_readsNumber_1 31 rfl)
theorem dX12_readsNumber_64 : decode cX12_readsNumber 64 = .ok (.invokevirtual 449, 3) := dq_182 (kX12_readsNumber_2 0 rfl) (kX12_readsNumber_2 1 rfl) (kX12_readsNumber_2 2 rfl) rfl
theorem dX12_readsNumber_67 : decode cX12_readsNumber 67 = .ok (.iadd, 1) := dq_96 (kX12_readsNumber_2 3 rfl)
theorem dX12_readsNumber_68 : decode cX12_readsNumber 68 = .ok (.bipush 48, 2) := dq_16 (kX12_readsNumber_2 4 rfl) (kX12_readsNumber_2 5 rfl) (by decide)
theorem dX12_readsNumber_70 : decode cX12_readsNumber 70 = .ok (.isub, 1) := dq_100 (kX12_readsNumber_2 6 rfl)
theorem dX12_readsNumber_71 : decode cX12_readsNumber 71 = .ok (.putfield 459, 3) := dq_181 (kX12_readsNumber_2 7 rfl) (kX12_readsNumber_2 8 rfl) (kX12_readsNumber_2 9 rfl) rfl
theorem dX12_readsNumber_74 : decode cX12_readsNumber 74 = .ok (.aload_n 0, 1) := dq_42 (kX12_readsNumber_2 10 rfl)
theorem dX12_readsNumber_75 : decode cX12_readsNumber 75 = .ok (.aload_n 0, 1) := dq_42 (kX12_readsNumber_2 11 rfl)
theorem dX12_readsNumber_76 : decode cX12_readsNumber 76 = .ok (.getfield 443, 3) := dq_180 (kX12_readsNumber_2 12 rfl) (kX12_readsNumber_2 13 rfl) (kX12_readsNumber_2 14 rfl) rfl
theorem dX12_readsNumber_79 : decode cX12_readsNumber 79 = .ok (.iconst 1, 1) := dq_4 (kX12_readsNumber_2 15 rfl)
theorem dX12_readsNumber_80 : decode cX12_readsNumber 80 = .ok (.iadd, 1) := dq_96 (kX12_readsNumber_2 16 rfl)
theorem dX12_readsNumber_81 : decode cX12_readsNumber 81 = .ok (.putfield 443, 3) := dq_181 (kX12_readsNumber_2 17 rfl) (kX12_readsNumber_2 18 rfl) (kX12_readsNumber_2 19 rfl) rfl
theorem dX12_readsNumber_84 : decode cX12_readsNumber 84 = .ok (.goto (-57), 3) := dq_167 (kX12_readsNumber_2 20 rfl) (kX12_readsNumber_2 21 rfl) (kX12_readsNumber_2 22 rfl) (by decide)
theorem dX12_readsNumber_87 : decode cX12_readsNumber 87 = .ok (.aload_n 0, 1) := dq_42 (kX12_readsNumber_2 23 rfl)
theorem dX12_readsNumber_88 : decode cX12_readsNumber 88 = .ok (.getfield 459, 3) := dq_180 (kX12_readsNumber_2 24 rfl) (kX12_readsNumber_2 25 rfl) (kX12_readsNumber_2 26 rfl) rfl
theorem dX12_readsNumber_91 : decode cX12_readsNumber 91 = .ok (.iload_n 1, 1) := dq_27 (kX12_readsNumber_2 27 rfl)
theorem dX12_readsNumber_92 : decode cX12_readsNumber 92 = .ok (.if_icmp .le 12, 3) := dq_164 (kX12_readsNumber_2 28 rfl) (kX12_readsNumber_2 29 rfl) (kX12_readsNumber_2 30 rfl) (by decide)
theorem dX12_readsNumber_95 : decode cX12_readsNumber 95 = .ok (.aload_n 0, 1) := dq_42 (kX12_readsNumber_2 31 rfl)
theorem dX12_readsNumber_96 : decode cX12_readsNumber 96 = .ok (.iconst 3, 1) := dq_6 (kX12_readsNumber_3 0 rfl)
theorem dX12_readsNumber_97 : decode cX12_readsNumber 97 = .ok (.iload_n 2, 1) := dq_28 (kX12_readsNumber_3 1 rfl)
theorem dX12_readsNumber_98 : decode cX12_readsNumber 98 = .ok (.invokevirtual 456, 3) := dq_182 (kX12_readsNumber_3 2 rfl) (kX12_readsNumber_3 3 rfl) (kX12_readsNumber_3 4 rfl) rfl
theorem dX12_readsNumber_101 : decode cX12_readsNumber 101 = .ok (.ifCond .eq 7, 3) := dq_153 (kX12_readsNumber_3 5 rfl) (kX12_readsNumber_3 6 rfl) (kX12_readsNumber_3 7 rfl) (by decide)
theorem dX12_readsNumber_104 : decode cX12_readsNumber 104 = .ok (.iconst 1, 1) := dq_4 (kX12_readsNumber_3 8 rfl)
theorem dX12_readsNumber_105 : decode cX12_readsNumber 105 = .ok (.goto 4, 3) := dq_167 (kX12_readsNumber_3 9 rfl) (kX12_readsNumber_3 10 rfl) (kX12_readsNumber_3 11 rfl) (by decide)
theorem dX12_readsNumber_108 : decode cX12_readsNumber 108 = .ok (.iconst 0, 1) := dq_3 (kX12_readsNumber_3 12 rfl)
theorem dX12_readsNumber_109 : decode cX12_readsNumber 109 = .ok (.ireturn, 1) := dq_172 (kX12_readsNumber_3 13 rfl)

def bX12_says_0 : List UInt8 := [42, 180, 0, 88, 42, 180, 1, 210, 19, 1, 213, 27, 104, 28, 96, 79, 42, 42, 180, 1, 210, 4, 96, 181, 1, 210, 177]
theorem kX12_says_0 (j : Nat) {b : UInt8} (hj : bX12_says_0[j]? = some b) : AtB cX12_says (0 + j) b := at_of32 (by decide +kernel) j hj
theorem dX12_says_0 : decode cX12_says 0 = .ok (.aload_n 0, 1) := dq_42 (kX12_says_0 0 rfl)
theorem dX12_says_1 : decode cX12_says 1 = .ok (.getfield 88, 3) := dq_180 (kX12_says_0 1 rfl) (kX12_says_0 2 rfl) (kX12_says_0 3 rfl) rfl
theorem dX12_says_4 : decode cX12_says 4 = .ok (.aload_n 0, 1) := dq_42 (kX12_says_0 4 rfl)
theorem dX12_says_5 : decode cX12_says 5 = .ok (.getfield 466, 3) := dq_180 (kX12_says_0 5 rfl) (kX12_says_0 6 rfl) (kX12_says_0 7 rfl) rfl
theorem dX12_says_8 : decode cX12_says 8 = .ok (.ldc_w 469, 3) := dq_19 (kX12_says_0 8 rfl) (kX12_says_0 9 rfl) (kX12_says_0 10 rfl) rfl
theorem dX12_says_11 : decode cX12_says 11 = .ok (.iload_n 1, 1) := dq_27 (kX12_says_0 11 rfl)
theorem dX12_says_12 : decode cX12_says 12 = .ok (.imul, 1) := dq_104 (kX12_says_0 12 rfl)
theorem dX12_says_13 : decode cX12_says 13 = .ok (.iload_n 2, 1) := dq_28 (kX12_says_0 13 rfl)
theorem dX12_says_14 : decode cX12_says 14 = .ok (.iadd, 1) := dq_96 (kX12_says_0 14 rfl)
theorem dX12_says_15 : decode cX12_says 15 = .ok (.iastore, 1) := dq_79 (kX12_says_0 15 rfl)
theorem dX12_says_16 : decode cX12_says 16 = .ok (.aload_n 0, 1) := dq_42 (kX12_says_0 16 rfl)
theorem dX12_says_17 : decode cX12_says 17 = .ok (.aload_n 0, 1) := dq_42 (kX12_says_0 17 rfl)
theorem dX12_says_18 : decode cX12_says 18 = .ok (.getfield 466, 3) := dq_180 (kX12_says_0 18 rfl) (kX12_says_0 19 rfl) (kX12_says_0 20 rfl) rfl
theorem dX12_says_21 : decode cX12_says 21 = .ok (.iconst 1, 1) := dq_4 (kX12_says_0 21 rfl)
theorem dX12_says_22 : decode cX12_says 22 = .ok (.iadd, 1) := dq_96 (kX12_says_0 22 rfl)
theorem dX12_says_23 : decode cX12_says 23 = .ok (.putfield 466, 3) := dq_181 (kX12_says_0 23 rfl) (kX12_says_0 24 rfl) (kX12_says_0 25 rfl) rfl
theorem dX12_says_26 : decode cX12_says 26 = .ok (.return_, 1) := dq_177 (kX12_says_0 26 rfl)

def bX12_opens_0 : List UInt8 := [42, 180, 1, 214, 16, 8, 160, 0, 13, 42, 8, 42, 180, 1, 187, 182, 1, 200, 172, 42, 42, 180, 1, 214, 4, 96, 181, 1, 214, 42, 180, 0]
theorem kX12_opens_0 (j : Nat) {b : UInt8} (hj : bX12_opens_0[j]? = some b) : AtB cX12_opens (0 + j) b := at_of32 (by decide +kernel) j hj
def bX12_opens_1 : List UInt8 := [91, 42, 180, 1, 217, 19, 1, 213, 27, 104, 79, 42, 42, 180, 1, 217, 4, 96, 181, 1, 217, 42, 42, 180, 1, 187, 4, 96, 181, 1, 187, 4]
theorem kX12_opens_1 (j : Nat) {b : UInt8} (hj : bX12_opens_1[j]? = some b) : AtB cX12_opens (32 + j) b := at_of32 (by decide +kernel) j hj
def bX12_opens_2 : List UInt8 := [172]
theorem kX12_opens_2 (j : Nat) {b : UInt8} (hj : bX12_opens_2[j]? = some b) : AtB cX12_opens (64 + j) b := at_of32 (by decide +kernel) j hj
theorem dX12_opens_0 : decode cX12_opens 0 = .ok (.aload_n 0, 1) := dq_42 (kX12_opens_0 0 rfl)
theorem dX12_opens_1 : decode cX12_opens 1 = .ok (.getfield 470, 3) := dq_180 (kX12_opens_0 1 rfl) (kX12_opens_0 2 rfl) (kX12_opens_0 3 rfl) rfl
theorem dX12_opens_4 : decode cX12_opens 4 = .ok (.bipush 8, 2) := dq_16 (kX12_opens_0 4 rfl) (kX12_opens_0 5 rfl) (by decide)
theorem dX12_opens_6 : decode cX12_opens 6 = .ok (.if_icmp .ne 13, 3) := dq_160 (kX12_opens_0 6 rfl) (kX12_opens_0 7 rfl) (kX12_opens_0 8 rfl) (by decide)
theorem dX12_opens_9 : decode cX12_opens 9 = .ok (.aload_n 0, 1) := dq_42 (kX12_opens_0 9 rfl)
theorem dX12_opens_10 : decode cX12_opens 10 = .ok (.iconst 5, 1) := dq_8 (kX12_opens_0 10 rfl)
theorem dX12_opens_11 : decode cX12_opens 11 = .ok (.aload_n 0, 1) := dq_42 (kX12_opens_0 11 rfl)
theorem dX12_opens_12 : decode cX12_opens 12 = .ok (.getfield 443, 3) := dq_180 (kX12_opens_0 12 rfl) (kX12_opens_0 13 rfl) (kX12_opens_0 14 rfl) rfl
theorem dX12_opens_15 : decode cX12_opens 15 = .ok (.invokevirtual 456, 3) := dq_182 (kX12_opens_0 15 rfl) (kX12_opens_0 16 rfl) (kX12_opens_0 17 rfl) rfl
theorem dX12_opens_18 : decode cX12_opens 18 = .ok (.ireturn, 1) := dq_172 (kX12_opens_0 18 rfl)
theorem dX12_opens_19 : decode cX12_opens 19 = .ok (.aload_n 0, 1) := dq_42 (kX12_opens_0 19 rfl)
theorem dX12_opens_20 : decode cX12_opens 20 = .ok (.aload_n 0, 1) := dq_42 (kX12_opens_0 20 rfl)
theorem dX12_opens_21 : decode cX12_opens 21 = .ok (.getfield 470, 3) := dq_180 (kX12_opens_0 21 rfl) (kX12_opens_0 22 rfl) (kX12_opens_0 23 rfl) rfl
theorem dX12_opens_24 : decode cX12_opens 24 = .ok (.iconst 1, 1) := dq_4 (kX12_opens_0 24 rfl)
theorem dX12_opens_25 : decode cX12_opens 25 = .ok (.iadd, 1) := dq_96 (kX12_opens_0 25 rfl)
theorem dX12_opens_26 : decode cX12_opens 26 = .ok (.putfield 470, 3) := dq_181 (kX12_opens_0 26 rfl) (kX12_opens_0 27 rfl) (kX12_opens_0 28 rfl) rfl
theorem dX12_opens_29 : decode cX12_opens 29 = .ok (.aload_n 0, 1) := dq_42 (kX12_opens_0 29 rfl)
theorem dX12_opens_30 : decode cX12_opens 30 = .ok (.getfield 91, 3) := dq_180 (kX12_opens_0 30 rfl) (kX12_opens_0 31 rfl) (kX12_opens_1 0 rfl) rfl
theorem dX12_opens_33 : decode cX12_opens 33 = .ok (.aload_n 0, 1) := dq_42 (kX12_opens_1 1 rfl)
theorem dX12_opens_34 : decode cX12_opens 34 = .ok (.getfield 473, 3) := dq_180 (kX12_opens_1 2 rfl) (kX12_opens_1 3 rfl) (kX12_opens_1 4 rfl) rfl
theorem dX12_opens_37 : decode cX12_opens 37 = .ok (.ldc_w 469, 3) := dq_19 (kX12_opens_1 5 rfl) (kX12_opens_1 6 rfl) (kX12_opens_1 7 rfl) rfl
theorem dX12_opens_40 : decode cX12_opens 40 = .ok (.iload_n 1, 1) := dq_27 (kX12_opens_1 8 rfl)
theorem dX12_opens_41 : decode cX12_opens 41 = .ok (.imul, 1) := dq_104 (kX12_opens_1 9 rfl)
theorem dX12_opens_42 : decode cX12_opens 42 = .ok (.iastore, 1) := dq_79 (kX12_opens_1 10 rfl)
theorem dX12_opens_43 : decode cX12_opens 43 = .ok (.aload_n 0, 1) := dq_42 (kX12_opens_1 11 rfl)
theorem dX12_opens_44 : decode cX12_opens 44 = .ok (.aload_n 0, 1) := dq_42 (kX12_opens_1 12 rfl)
theorem dX12_opens_45 : decode cX12_opens 45 = .ok (.getfield 473, 3) := dq_180 (kX12_opens_1 13 rfl) (kX12_opens_1 14 rfl) (kX12_opens_1 15 rfl) rfl
theorem dX12_opens_48 : decode cX12_opens 48 = .ok (.iconst 1, 1) := dq_4 (kX12_opens_1 16 rfl)
theorem dX12_opens_49 : decode cX12_opens 49 = .ok (.iadd, 1) := dq_96 (kX12_opens_1 17 rfl)
theorem dX12_opens_50 : decode cX12_opens 50 = .ok (.putfield 473, 3) := dq_181 (kX12_opens_1 18 rfl) (kX12_opens_1 19 rfl) (kX12_opens_1 20 rfl) rfl
theorem dX12_opens_53 : decode cX12_opens 53 = .ok (.aload_n 0, 1) := dq_42 (kX12_opens_1 21 rfl)
theorem dX12_opens_54 : decode cX12_opens 54 = .ok (.aload_n 0, 1) := dq_42 (kX12_opens_1 22 rfl)
theorem dX12_opens_55 : decode cX12_opens 55 = .ok (.getfield 443, 3) := dq_180 (kX12_opens_1 23 rfl) (kX12_opens_1 24 rfl) (kX12_opens_1 25 rfl) rfl
theorem dX12_opens_58 : decode cX12_opens 58 = .ok (.iconst 1, 1) := dq_4 (kX12_opens_1 26 rfl)
theorem dX12_opens_59 : decode cX12_opens 59 = .ok (.iadd, 1) := dq_96 (kX12_opens_1 27 rfl)
theorem dX12_opens_60 : decode cX12_opens 60 = .ok (.putfield 443, 3) := dq_181 (kX12_opens_1 28 rfl) (kX12_opens_1 29 rfl) (kX12_opens_1 30 rfl) rfl
theorem dX12_opens_63 : decode cX12_opens 63 = .ok (.iconst 1, 1) := dq_4 (kX12_opens_1 31 rfl)
theorem dX12_opens_64 : decode cX12_opens 64 = .ok (.ireturn, 1) := dq_172 (kX12_opens_2 0 rfl)

def bX12_top_0 : List UInt8 := [42, 180, 1, 217, 154, 0, 7, 2, 167, 0, 18, 42, 180, 0, 91, 42, 180, 1, 217, 4, 100, 46, 19, 1, 213, 108, 172]
theorem kX12_top_0 (j : Nat) {b : UInt8} (hj : bX12_top_0[j]? = some b) : AtB cX12_top (0 + j) b := at_of32 (by decide +kernel) j hj
theorem dX12_top_0 : decode cX12_top 0 = .ok (.aload_n 0, 1) := dq_42 (kX12_top_0 0 rfl)
theorem dX12_top_1 : decode cX12_top 1 = .ok (.getfield 473, 3) := dq_180 (kX12_top_0 1 rfl) (kX12_top_0 2 rfl) (kX12_top_0 3 rfl) rfl
theorem dX12_top_4 : decode cX12_top 4 = .ok (.ifCond .ne 7, 3) := dq_154 (kX12_top_0 4 rfl) (kX12_top_0 5 rfl) (kX12_top_0 6 rfl) (by decide)
theorem dX12_top_7 : decode cX12_top 7 = .ok (.iconst (-1), 1) := dq_2 (kX12_top_0 7 rfl)
theorem dX12_top_8 : decode cX12_top 8 = .ok (.goto 18, 3) := dq_167 (kX12_top_0 8 rfl) (kX12_top_0 9 rfl) (kX12_top_0 10 rfl) (by decide)
theorem dX12_top_11 : decode cX12_top 11 = .ok (.aload_n 0, 1) := dq_42 (kX12_top_0 11 rfl)
theorem dX12_top_12 : decode cX12_top 12 = .ok (.getfield 91, 3) := dq_180 (kX12_top_0 12 rfl) (kX12_top_0 13 rfl) (kX12_top_0 14 rfl) rfl
theorem dX12_top_15 : decode cX12_top 15 = .ok (.aload_n 0, 1) := dq_42 (kX12_top_0 15 rfl)
theorem dX12_top_16 : decode cX12_top 16 = .ok (.getfield 473, 3) := dq_180 (kX12_top_0 16 rfl) (kX12_top_0 17 rfl) (kX12_top_0 18 rfl) rfl
theorem dX12_top_19 : decode cX12_top 19 = .ok (.iconst 1, 1) := dq_4 (kX12_top_0 19 rfl)
theorem dX12_top_20 : decode cX12_top 20 = .ok (.isub, 1) := dq_100 (kX12_top_0 20 rfl)
theorem dX12_top_21 : decode cX12_top 21 = .ok (.iaload, 1) := dq_46 (kX12_top_0 21 rfl)
theorem dX12_top_22 : decode cX12_top 22 = .ok (.ldc_w 469, 3) := dq_19 (kX12_top_0 22 rfl) (kX12_top_0 23 rfl) (kX12_top_0 24 rfl) rfl
theorem dX12_top_25 : decode cX12_top 25 = .ok (.idiv, 1) := dq_108 (kX12_top_0 25 rfl)
theorem dX12_top_26 : decode cX12_top 26 = .ok (.ireturn, 1) := dq_172 (kX12_top_0 26 rfl)

def bX12_letterNumber_0 : List UInt8 := [26, 170, 0, 0, 0, 0, 0, 151, 0, 0, 0, 97, 0, 0, 0, 121, 0, 0, 0, 115, 0, 0, 0, 119, 0, 0, 0, 151, 0, 0, 0, 142]
theorem kX12_letterNumber_0 (j : Nat) {b : UInt8} (hj : bX12_letterNumber_0[j]? = some b) : AtB cX12_letterNumber (0 + j) b := at_of32 (by decide +kernel) j hj
def bX12_letterNumber_1 : List UInt8 := [0, 0, 0, 139, 0, 0, 0, 151, 0, 0, 0, 151, 0, 0, 0, 121, 0, 0, 0, 123, 0, 0, 0, 151, 0, 0, 0, 151, 0, 0, 0, 151]
theorem kX12_letterNumber_1 (j : Nat) {b : UInt8} (hj : bX12_letterNumber_1[j]? = some b) : AtB cX12_letterNumber (32 + j) b := at_of32 (by decide +kernel) j hj
def bX12_letterNumber_2 : List UInt8 := [0, 0, 0, 148, 0, 0, 0, 130, 0, 0, 0, 133, 0, 0, 0, 117, 0, 0, 0, 151, 0, 0, 0, 125, 0, 0, 0, 127, 0, 0, 0, 136]
theorem kX12_letterNumber_2 (j : Nat) {b : UInt8} (hj : bX12_letterNumber_2[j]? = some b) : AtB cX12_letterNumber (64 + j) b := at_of32 (by decide +kernel) j hj
def bX12_letterNumber_3 : List UInt8 := [0, 0, 0, 151, 0, 0, 0, 151, 0, 0, 0, 151, 0, 0, 0, 151, 0, 0, 0, 145, 3, 172, 4, 172, 5, 172, 6, 172, 7, 172, 8, 172]
theorem kX12_letterNumber_3 (j : Nat) {b : UInt8} (hj : bX12_letterNumber_3[j]? = some b) : AtB cX12_letterNumber (96 + j) b := at_of32 (by decide +kernel) j hj
def bX12_letterNumber_4 : List UInt8 := [16, 6, 172, 16, 7, 172, 16, 8, 172, 16, 9, 172, 16, 10, 172, 16, 11, 172, 16, 12, 172, 16, 13, 172, 2, 172]
theorem kX12_letterNumber_4 (j : Nat) {b : UInt8} (hj : bX12_letterNumber_4[j]? = some b) : AtB cX12_letterNumber (128 + j) b := at_of32 (by decide +kernel) j hj
theorem dX12_letterNumber_0 : decode cX12_letterNumber 0 = .ok (.iload_n 0, 1) := dq_26 (kX12_letterNumber_0 0 rfl)
theorem dX12_letterNumber_116 : decode cX12_letterNumber 116 = .ok (.iconst 0, 1) := dq_3 (kX12_letterNumber_3 20 rfl)
theorem dX12_letterNumber_117 : decode cX12_letterNumber 117 = .ok (.ireturn, 1) := dq_172 (kX12_letterNumber_3 21 rfl)
theorem dX12_letterNumber_118 : decode cX12_letterNumber 118 = .ok (.iconst 1, 1) := dq_4 (kX12_letterNumber_3 22 rfl)
theorem dX12_letterNumber_119 : decode cX12_letterNumber 119 = .ok (.ireturn, 1) := dq_172 (kX12_letterNumber_3 23 rfl)
theorem dX12_letterNumber_120 : decode cX12_letterNumber 120 = .ok (.iconst 2, 1) := dq_5 (kX12_letterNumber_3 24 rfl)
theorem dX12_letterNumber_121 : decode cX12_letterNumber 121 = .ok (.ireturn, 1) := dq_172 (kX12_letterNumber_3 25 rfl)
theorem dX12_letterNumber_122 : decode cX12_letterNumber 122 = .ok (.iconst 3, 1) := dq_6 (kX12_letterNumber_3 26 rfl)
theorem dX12_letterNumber_123 : decode cX12_letterNumber 123 = .ok (.ireturn, 1) := dq_172 (kX12_letterNumber_3 27 rfl)
theorem dX12_letterNumber_124 : decode cX12_letterNumber 124 = .ok (.iconst 4, 1) := dq_7 (kX12_letterNumber_3 28 rfl)
theorem dX12_letterNumber_125 : decode cX12_letterNumber 125 = .ok (.ireturn, 1) := dq_172 (kX12_letterNumber_3 29 rfl)
theorem dX12_letterNumber_126 : decode cX12_letterNumber 126 = .ok (.iconst 5, 1) := dq_8 (kX12_letterNumber_3 30 rfl)
theorem dX12_letterNumber_127 : decode cX12_letterNumber 127 = .ok (.ireturn, 1) := dq_172 (kX12_letterNumber_3 31 rfl)
theorem dX12_letterNumber_128 : decode cX12_letterNumber 128 = .ok (.bipush 6, 2) := dq_16 (kX12_letterNumber_4 0 rfl) (kX12_letterNumber_4 1 rfl) (by decide)
theorem dX12_letterNumber_130 : decode cX12_letterNumber 130 = .ok (.ireturn, 1) := dq_172 (kX12_letterNumber_4 2 rfl)
theorem dX12_letterNumber_131 : decode cX12_letterNumber 131 = .ok (.bipush 7, 2) := dq_16 (kX12_letterNumber_4 3 rfl) (kX12_letterNumber_4 4 rfl) (by decide)
theorem dX12_letterNumber_133 : decode cX12_letterNumber 133 = .ok (.ireturn, 1) := dq_172 (kX12_letterNumber_4 5 rfl)
theorem dX12_letterNumber_134 : decode cX12_letterNumber 134 = .ok (.bipush 8, 2) := dq_16 (kX12_letterNumber_4 6 rfl) (kX12_letterNumber_4 7 rfl) (by decide)
theorem dX12_letterNumber_136 : decode cX12_letterNumber 136 = .ok (.ireturn, 1) := dq_172 (kX12_letterNumber_4 8 rfl)
theorem dX12_letterNumber_137 : decode cX12_letterNumber 137 = .ok (.bipush 9, 2) := dq_16 (kX12_letterNumber_4 9 rfl) (kX12_letterNumber_4 10 rfl) (by decide)
theorem dX12_letterNumber_139 : decode cX12_letterNumber 139 = .ok (.ireturn, 1) := dq_172 (kX12_letterNumber_4 11 rfl)
theorem dX12_letterNumber_140 : decode cX12_letterNumber 140 = .ok (.bipush 10, 2) := dq_16 (kX12_letterNumber_4 12 rfl) (kX12_letterNumber_4 13 rfl) (by decide)
theorem dX12_letterNumber_142 : decode cX12_letterNumber 142 = .ok (.ireturn, 1) := dq_172 (kX12_letterNumber_4 14 rfl)
theorem dX12_letterNumber_143 : decode cX12_letterNumber 143 = .ok (.bipush 11, 2) := dq_16 (kX12_letterNumber_4 15 rfl) (kX12_letterNumber_4 16 rfl) (by decide)
theorem dX12_letterNumber_145 : decode cX12_letterNumber 145 = .ok (.ireturn, 1) := dq_172 (kX12_letterNumber_4 17 rfl)
theorem dX12_letterNumber_146 : decode cX12_letterNumber 146 = .ok (.bipush 12, 2) := dq_16 (kX12_letterNumber_4 18 rfl) (kX12_letterNumber_4 19 rfl) (by decide)
theorem dX12_letterNumber_148 : decode cX12_letterNumber 148 = .ok (.ireturn, 1) := dq_172 (kX12_letterNumber_4 20 rfl)
theorem dX12_letterNumber_149 : decode cX12_letterNumber 149 = .ok (.bipush 13, 2) := dq_16 (kX12_letterNumber_4 21 rfl) (kX12_letterNumber_4 22 rfl) (by decide)
theorem dX12_letterNumber_151 : decode cX12_letterNumber 151 = .ok (.ireturn, 1) := dq_172 (kX12_letterNumber_4 23 rfl)
theorem dX12_letterNumber_152 : decode cX12_letterNumber 152 = .ok (.iconst (-1), 1) := dq_2 (kX12_letterNumber_4 24 rfl)
theorem dX12_letterNumber_153 : decode cX12_letterNumber 153 = .ok (.ireturn, 1) := dq_172 (kX12_letterNumber_4 25 rfl)
def LX12_letterNumber : List (Nat × Instr × Nat) := [(1, .tableswitch 151 97 121 #[115, 119, 151, 142, 139, 151, 151, 121, 123, 151, 151, 151, 148, 130, 133, 117, 151, 125, 127, 136, 151, 151, 151, 151, 145], 115)]
theorem kkX12_letterNumber : chkB cX12_letterNumber LX12_letterNumber = true := by decide +kernel
theorem dX12_letterNumber_1 : decode cX12_letterNumber 1 = .ok (.tableswitch 151 97 121 #[115, 119, 151, 142, 139, 151, 151, 121, 123, 151, 151, 151, 148, 130, 133, 117, 151, 125, 127, 136, 151, 151, 151, 151, 145], 115) := getB' kkX12_letterNumber 0 rfl

def bX12_sumSign_0 : List UInt8 := [26, 16, 43, 160, 0, 7, 5, 167, 0, 45, 26, 16, 45, 160, 0, 7, 6, 167, 0, 35, 26, 16, 42, 160, 0, 7, 7, 167, 0, 25, 26, 16]
theorem kX12_sumSign_0 (j : Nat) {b : UInt8} (hj : bX12_sumSign_0[j]? = some b) : AtB cX12_sumSign (0 + j) b := at_of32 (by decide +kernel) j hj
def bX12_sumSign_1 : List UInt8 := [47, 160, 0, 7, 8, 167, 0, 15, 26, 16, 37, 160, 0, 8, 16, 6, 167, 0, 4, 2, 172]
theorem kX12_sumSign_1 (j : Nat) {b : UInt8} (hj : bX12_sumSign_1[j]? = some b) : AtB cX12_sumSign (32 + j) b := at_of32 (by decide +kernel) j hj
theorem dX12_sumSign_0 : decode cX12_sumSign 0 = .ok (.iload_n 0, 1) := dq_26 (kX12_sumSign_0 0 rfl)
theorem dX12_sumSign_1 : decode cX12_sumSign 1 = .ok (.bipush 43, 2) := dq_16 (kX12_sumSign_0 1 rfl) (kX12_sumSign_0 2 rfl) (by decide)
theorem dX12_sumSign_3 : decode cX12_sumSign 3 = .ok (.if_icmp .ne 7, 3) := dq_160 (kX12_sumSign_0 3 rfl) (kX12_sumSign_0 4 rfl) (kX12_sumSign_0 5 rfl) (by decide)
theorem dX12_sumSign_6 : decode cX12_sumSign 6 = .ok (.iconst 2, 1) := dq_5 (kX12_sumSign_0 6 rfl)
theorem dX12_sumSign_7 : decode cX12_sumSign 7 = .ok (.goto 45, 3) := dq_167 (kX12_sumSign_0 7 rfl) (kX12_sumSign_0 8 rfl) (kX12_sumSign_0 9 rfl) (by decide)
theorem dX12_sumSign_10 : decode cX12_sumSign 10 = .ok (.iload_n 0, 1) := dq_26 (kX12_sumSign_0 10 rfl)
theorem dX12_sumSign_11 : decode cX12_sumSign 11 = .ok (.bipush 45, 2) := dq_16 (kX12_sumSign_0 11 rfl) (kX12_sumSign_0 12 rfl) (by decide)
theorem dX12_sumSign_13 : decode cX12_sumSign 13 = .ok (.if_icmp .ne 7, 3) := dq_160 (kX12_sumSign_0 13 rfl) (kX12_sumSign_0 14 rfl) (kX12_sumSign_0 15 rfl) (by decide)
theorem dX12_sumSign_16 : decode cX12_sumSign 16 = .ok (.iconst 3, 1) := dq_6 (kX12_sumSign_0 16 rfl)
theorem dX12_sumSign_17 : decode cX12_sumSign 17 = .ok (.goto 35, 3) := dq_167 (kX12_sumSign_0 17 rfl) (kX12_sumSign_0 18 rfl) (kX12_sumSign_0 19 rfl) (by decide)
theorem dX12_sumSign_20 : decode cX12_sumSign 20 = .ok (.iload_n 0, 1) := dq_26 (kX12_sumSign_0 20 rfl)
theorem dX12_sumSign_21 : decode cX12_sumSign 21 = .ok (.bipush 42, 2) := dq_16 (kX12_sumSign_0 21 rfl) (kX12_sumSign_0 22 rfl) (by decide)
theorem dX12_sumSign_23 : decode cX12_sumSign 23 = .ok (.if_icmp .ne 7, 3) := dq_160 (kX12_sumSign_0 23 rfl) (kX12_sumSign_0 24 rfl) (kX12_sumSign_0 25 rfl) (by decide)
theorem dX12_sumSign_26 : decode cX12_sumSign 26 = .ok (.iconst 4, 1) := dq_7 (kX12_sumSign_0 26 rfl)
theorem dX12_sumSign_27 : decode cX12_sumSign 27 = .ok (.goto 25, 3) := dq_167 (kX12_sumSign_0 27 rfl) (kX12_sumSign_0 28 rfl) (kX12_sumSign_0 29 rfl) (by decide)
theorem dX12_sumSign_30 : decode cX12_sumSign 30 = .ok (.iload_n 0, 1) := dq_26 (kX12_sumSign_0 30 rfl)
theorem dX12_sumSign_31 : decode cX12_sumSign 31 = .ok (.bipush 47, 2) := dq_16 (kX12_sumSign_0 31 rfl) (kX12_sumSign_1 0 rfl) (by decide)
theorem dX12_sumSign_33 : decode cX12_sumSign 33 = .ok (.if_icmp .ne 7, 3) := dq_160 (kX12_sumSign_1 1 rfl) (kX12_sumSign_1 2 rfl) (kX12_sumSign_1 3 rfl) (by decide)
theorem dX12_sumSign_36 : decode cX12_sumSign 36 = .ok (.iconst 5, 1) := dq_8 (kX12_sumSign_1 4 rfl)
theorem dX12_sumSign_37 : decode cX12_sumSign 37 = .ok (.goto 15, 3) := dq_167 (kX12_sumSign_1 5 rfl) (kX12_sumSign_1 6 rfl) (kX12_sumSign_1 7 rfl) (by decide)
theorem dX12_sumSign_40 : decode cX12_sumSign 40 = .ok (.iload_n 0, 1) := dq_26 (kX12_sumSign_1 8 rfl)
theorem dX12_sumSign_41 : decode cX12_sumSign 41 = .ok (.bipush 37, 2) := dq_16 (kX12_sumSign_1 9 rfl) (kX12_sumSign_1 10 rfl) (by decide)
theorem dX12_sumSign_43 : decode cX12_sumSign 43 = .ok (.if_icmp .ne 8, 3) := dq_160 (kX12_sumSign_1 11 rfl) (kX12_sumSign_1 12 rfl) (kX12_sumSign_1 13 rfl) (by decide)
theorem dX12_sumSign_46 : decode cX12_sumSign 46 = .ok (.bipush 6, 2) := dq_16 (kX12_sumSign_1 14 rfl) (kX12_sumSign_1 15 rfl) (by decide)
theorem dX12_sumSign_48 : decode cX12_sumSign 48 = .ok (.goto 4, 3) := dq_167 (kX12_sumSign_1 16 rfl) (kX12_sumSign_1 17 rfl) (kX12_sumSign_1 18 rfl) (by decide)
theorem dX12_sumSign_51 : decode cX12_sumSign 51 = .ok (.iconst (-1), 1) := dq_2 (kX12_sumSign_1 19 rfl)
theorem dX12_sumSign_52 : decode cX12_sumSign 52 = .ok (.ireturn, 1) := dq_172 (kX12_sumSign_1 20 rfl)

def bX12_closesSums_0 : List UInt8 := [42, 182, 1, 220, 7, 161, 0, 12, 42, 182, 1, 220, 16, 6, 164, 0, 23, 27, 153, 0, 41, 42, 182, 1, 220, 5, 159, 0, 11, 42, 182, 1]
theorem kX12_closesSums_0 (j : Nat) {b : UInt8} (hj : bX12_closesSums_0[j]? = some b) : AtB cX12_closesSums (0 + j) b := at_of32 (by decide +kernel) j hj
def bX12_closesSums_1 : List UInt8 := [220, 6, 160, 0, 25, 42, 42, 182, 1, 220, 3, 182, 1, 223, 42, 42, 180, 1, 217, 4, 100, 181, 1, 217, 167, 255, 200, 177]
theorem kX12_closesSums_1 (j : Nat) {b : UInt8} (hj : bX12_closesSums_1[j]? = some b) : AtB cX12_closesSums (32 + j) b := at_of32 (by decide +kernel) j hj
theorem dX12_closesSums_0 : decode cX12_closesSums 0 = .ok (.aload_n 0, 1) := dq_42 (kX12_closesSums_0 0 rfl)
theorem dX12_closesSums_1 : decode cX12_closesSums 1 = .ok (.invokevirtual 476, 3) := dq_182 (kX12_closesSums_0 1 rfl) (kX12_closesSums_0 2 rfl) (kX12_closesSums_0 3 rfl) rfl
theorem dX12_closesSums_4 : decode cX12_closesSums 4 = .ok (.iconst 4, 1) := dq_7 (kX12_closesSums_0 4 rfl)
theorem dX12_closesSums_5 : decode cX12_closesSums 5 = .ok (.if_icmp .lt 12, 3) := dq_161 (kX12_closesSums_0 5 rfl) (kX12_closesSums_0 6 rfl) (kX12_closesSums_0 7 rfl) (by decide)
theorem dX12_closesSums_8 : decode cX12_closesSums 8 = .ok (.aload_n 0, 1) := dq_42 (kX12_closesSums_0 8 rfl)
theorem dX12_closesSums_9 : decode cX12_closesSums 9 = .ok (.invokevirtual 476, 3) := dq_182 (kX12_closesSums_0 9 rfl) (kX12_closesSums_0 10 rfl) (kX12_closesSums_0 11 rfl) rfl
theorem dX12_closesSums_12 : decode cX12_closesSums 12 = .ok (.bipush 6, 2) := dq_16 (kX12_closesSums_0 12 rfl) (kX12_closesSums_0 13 rfl) (by decide)
theorem dX12_closesSums_14 : decode cX12_closesSums 14 = .ok (.if_icmp .le 23, 3) := dq_164 (kX12_closesSums_0 14 rfl) (kX12_closesSums_0 15 rfl) (kX12_closesSums_0 16 rfl) (by decide)
theorem dX12_closesSums_17 : decode cX12_closesSums 17 = .ok (.iload_n 1, 1) := dq_27 (kX12_closesSums_0 17 rfl)
theorem dX12_closesSums_18 : decode cX12_closesSums 18 = .ok (.ifCond .eq 41, 3) := dq_153 (kX12_closesSums_0 18 rfl) (kX12_closesSums_0 19 rfl) (kX12_closesSums_0 20 rfl) (by decide)
theorem dX12_closesSums_21 : decode cX12_closesSums 21 = .ok (.aload_n 0, 1) := dq_42 (kX12_closesSums_0 21 rfl)
theorem dX12_closesSums_22 : decode cX12_closesSums 22 = .ok (.invokevirtual 476, 3) := dq_182 (kX12_closesSums_0 22 rfl) (kX12_closesSums_0 23 rfl) (kX12_closesSums_0 24 rfl) rfl
theorem dX12_closesSums_25 : decode cX12_closesSums 25 = .ok (.iconst 2, 1) := dq_5 (kX12_closesSums_0 25 rfl)
theorem dX12_closesSums_26 : decode cX12_closesSums 26 = .ok (.if_icmp .eq 11, 3) := dq_159 (kX12_closesSums_0 26 rfl) (kX12_closesSums_0 27 rfl) (kX12_closesSums_0 28 rfl) (by decide)
theorem dX12_closesSums_29 : decode cX12_closesSums 29 = .ok (.aload_n 0, 1) := dq_42 (kX12_closesSums_0 29 rfl)
theorem dX12_closesSums_30 : decode cX12_closesSums 30 = .ok (.invokevirtual 476, 3) := dq_182 (kX12_closesSums_0 30 rfl) (kX12_closesSums_0 31 rfl) (kX12_closesSums_1 0 rfl) rfl
theorem dX12_closesSums_33 : decode cX12_closesSums 33 = .ok (.iconst 3, 1) := dq_6 (kX12_closesSums_1 1 rfl)
theorem dX12_closesSums_34 : decode cX12_closesSums 34 = .ok (.if_icmp .ne 25, 3) := dq_160 (kX12_closesSums_1 2 rfl) (kX12_closesSums_1 3 rfl) (kX12_closesSums_1 4 rfl) (by decide)
theorem dX12_closesSums_37 : decode cX12_closesSums 37 = .ok (.aload_n 0, 1) := dq_42 (kX12_closesSums_1 5 rfl)
theorem dX12_closesSums_38 : decode cX12_closesSums 38 = .ok (.aload_n 0, 1) := dq_42 (kX12_closesSums_1 6 rfl)
theorem dX12_closesSums_39 : decode cX12_closesSums 39 = .ok (.invokevirtual 476, 3) := dq_182 (kX12_closesSums_1 7 rfl) (kX12_closesSums_1 8 rfl) (kX12_closesSums_1 9 rfl) rfl
theorem dX12_closesSums_42 : decode cX12_closesSums 42 = .ok (.iconst 0, 1) := dq_3 (kX12_closesSums_1 10 rfl)
theorem dX12_closesSums_43 : decode cX12_closesSums 43 = .ok (.invokevirtual 479, 3) := dq_182 (kX12_closesSums_1 11 rfl) (kX12_closesSums_1 12 rfl) (kX12_closesSums_1 13 rfl) rfl
theorem dX12_closesSums_46 : decode cX12_closesSums 46 = .ok (.aload_n 0, 1) := dq_42 (kX12_closesSums_1 14 rfl)
theorem dX12_closesSums_47 : decode cX12_closesSums 47 = .ok (.aload_n 0, 1) := dq_42 (kX12_closesSums_1 15 rfl)
theorem dX12_closesSums_48 : decode cX12_closesSums 48 = .ok (.getfield 473, 3) := dq_180 (kX12_closesSums_1 16 rfl) (kX12_closesSums_1 17 rfl) (kX12_closesSums_1 18 rfl) rfl
theorem dX12_closesSums_51 : decode cX12_closesSums 51 = .ok (.iconst 1, 1) := dq_4 (kX12_closesSums_1 19 rfl)
theorem dX12_closesSums_52 : decode cX12_closesSums 52 = .ok (.isub, 1) := dq_100 (kX12_closesSums_1 20 rfl)
theorem dX12_closesSums_53 : decode cX12_closesSums 53 = .ok (.putfield 473, 3) := dq_181 (kX12_closesSums_1 21 rfl) (kX12_closesSums_1 22 rfl) (kX12_closesSums_1 23 rfl) rfl
theorem dX12_closesSums_56 : decode cX12_closesSums 56 = .ok (.goto (-56), 3) := dq_167 (kX12_closesSums_1 24 rfl) (kX12_closesSums_1 25 rfl) (kX12_closesSums_1 26 rfl) (by decide)
theorem dX12_closesSums_59 : decode cX12_closesSums 59 = .ok (.return_, 1) := dq_177 (kX12_closesSums_1 27 rfl)

def bX12_readsFactor_0 : List UInt8 := [42, 182, 1, 193, 16, 91, 160, 0, 14, 42, 16, 14, 182, 1, 226, 154, 255, 241, 3, 172, 42, 182, 1, 206, 153, 0, 26, 42, 19, 1, 229, 182]
theorem kX12_readsFactor_0 (j : Nat) {b : UInt8} (hj : bX12_readsFactor_0[j]? = some b) : AtB cX12_readsFactor (0 + j) b := at_of32 (by decide +kernel) j hj
def bX12_readsFactor_1 : List UInt8 := [1, 230, 154, 0, 5, 3, 172, 42, 3, 42, 180, 1, 203, 182, 1, 223, 4, 172, 42, 182, 1, 193, 2, 160, 0, 7, 2, 167, 0, 10, 42, 182]
theorem kX12_readsFactor_1 (j : Nat) {b : UInt8} (hj : bX12_readsFactor_1[j]? = some b) : AtB cX12_readsFactor (32 + j) b := at_of32 (by decide +kernel) j hj
def bX12_readsFactor_2 : List UInt8 := [1, 193, 184, 1, 233, 60, 27, 2, 160, 0, 13, 42, 4, 42, 180, 1, 187, 182, 1, 200, 172, 42, 4, 27, 182, 1, 223, 42, 42, 180, 1, 187]
theorem kX12_readsFactor_2 (j : Nat) {b : UInt8} (hj : bX12_readsFactor_2[j]? = some b) : AtB cX12_readsFactor (64 + j) b := at_of32 (by decide +kernel) j hj
def bX12_readsFactor_3 : List UInt8 := [4, 96, 181, 1, 187, 4, 172]
theorem kX12_readsFactor_3 (j : Nat) {b : UInt8} (hj : bX12_readsFactor_3[j]? = some b) : AtB cX12_readsFactor (96 + j) b := at_of32 (by decide +kernel) j hj
theorem dX12_readsFactor_0 : decode cX12_readsFactor 0 = .ok (.aload_n 0, 1) := dq_42 (kX12_readsFactor_0 0 rfl)
theorem dX12_readsFactor_1 : decode cX12_readsFactor 1 = .ok (.invokevirtual 449, 3) := dq_182 (kX12_readsFactor_0 1 rfl) (kX12_readsFactor_0 2 rfl) (kX12_readsFactor_0 3 rfl) rfl
theorem dX12_readsFactor_4 : decode cX12_readsFactor 4 = .ok (.bipush 91, 2) := dq_16 (kX12_readsFactor_0 4 rfl) (kX12_readsFactor_0 5 rfl) (by decide)
theorem dX12_readsFactor_6 : decode cX12_readsFactor 6 = .ok (.if_icmp .ne 14, 3) := dq_160 (kX12_readsFactor_0 6 rfl) (kX12_readsFactor_0 7 rfl) (kX12_readsFactor_0 8 rfl) (by decide)
theorem dX12_readsFactor_9 : decode cX12_readsFactor 9 = .ok (.aload_n 0, 1) := dq_42 (kX12_readsFactor_0 9 rfl)
theorem dX12_readsFactor_10 : decode cX12_readsFactor 10 = .ok (.bipush 14, 2) := dq_16 (kX12_readsFactor_0 10 rfl) (kX12_readsFactor_0 11 rfl) (by decide)
theorem dX12_readsFactor_12 : decode cX12_readsFactor 12 = .ok (.invokevirtual 482, 3) := dq_182 (kX12_readsFactor_0 12 rfl) (kX12_readsFactor_0 13 rfl) (kX12_readsFactor_0 14 rfl) rfl
theorem dX12_readsFactor_15 : decode cX12_readsFactor 15 = .ok (.ifCond .ne (-15), 3) := dq_154 (kX12_readsFactor_0 15 rfl) (kX12_readsFactor_0 16 rfl) (kX12_readsFactor_0 17 rfl) (by decide)
theorem dX12_readsFactor_18 : decode cX12_readsFactor 18 = .ok (.iconst 0, 1) := dq_3 (kX12_readsFactor_0 18 rfl)
theorem dX12_readsFactor_19 : decode cX12_readsFactor 19 = .ok (.ireturn, 1) := dq_172 (kX12_readsFactor_0 19 rfl)
theorem dX12_readsFactor_20 : decode cX12_readsFactor 20 = .ok (.aload_n 0, 1) := dq_42 (kX12_readsFactor_0 20 rfl)
theorem dX12_readsFactor_21 : decode cX12_readsFactor 21 = .ok (.invokevirtual 462, 3) := dq_182 (kX12_readsFactor_0 21 rfl) (kX12_readsFactor_0 22 rfl) (kX12_readsFactor_0 23 rfl) rfl
theorem dX12_readsFactor_24 : decode cX12_readsFactor 24 = .ok (.ifCond .eq 26, 3) := dq_153 (kX12_readsFactor_0 24 rfl) (kX12_readsFactor_0 25 rfl) (kX12_readsFactor_0 26 rfl) (by decide)
theorem dX12_readsFactor_27 : decode cX12_readsFactor 27 = .ok (.aload_n 0, 1) := dq_42 (kX12_readsFactor_0 27 rfl)
theorem dX12_readsFactor_28 : decode cX12_readsFactor 28 = .ok (.ldc_w 485, 3) := dq_19 (kX12_readsFactor_0 28 rfl) (kX12_readsFactor_0 29 rfl) (kX12_readsFactor_0 30 rfl) rfl
theorem dX12_readsFactor_31 : decode cX12_readsFactor 31 = .ok (.invokevirtual 486, 3) := dq_182 (kX12_readsFactor_0 31 rfl) (kX12_readsFactor_1 0 rfl) (kX12_readsFactor_1 1 rfl) rfl
theorem dX12_readsFactor_34 : decode cX12_readsFactor 34 = .ok (.ifCond .ne 5, 3) := dq_154 (kX12_readsFactor_1 2 rfl) (kX12_readsFactor_1 3 rfl) (kX12_readsFactor_1 4 rfl) (by decide)
theorem dX12_readsFactor_37 : decode cX12_readsFactor 37 = .ok (.iconst 0, 1) := dq_3 (kX12_readsFactor_1 5 rfl)
theorem dX12_readsFactor_38 : decode cX12_readsFactor 38 = .ok (.ireturn, 1) := dq_172 (kX12_readsFactor_1 6 rfl)
theorem dX12_readsFactor_39 : decode cX12_readsFactor 39 = .ok (.aload_n 0, 1) := dq_42 (kX12_readsFactor_1 7 rfl)
theorem dX12_readsFactor_40 : decode cX12_readsFactor 40 = .ok (.iconst 0, 1) := dq_3 (kX12_readsFactor_1 8 rfl)
theorem dX12_readsFactor_41 : decode cX12_readsFactor 41 = .ok (.aload_n 0, 1) := dq_42 (kX12_readsFactor_1 9 rfl)
theorem dX12_readsFactor_42 : decode cX12_readsFactor 42 = .ok (.getfield 459, 3) := dq_180 (kX12_readsFactor_1 10 rfl) (kX12_readsFactor_1 11 rfl) (kX12_readsFactor_1 12 rfl) rfl
theorem dX12_readsFactor_45 : decode cX12_readsFactor 45 = .ok (.invokevirtual 479, 3) := dq_182 (kX12_readsFactor_1 13 rfl) (kX12_readsFactor_1 14 rfl) (kX12_readsFactor_1 15 rfl) rfl
theorem dX12_readsFactor_48 : decode cX12_readsFactor 48 = .ok (.iconst 1, 1) := dq_4 (kX12_readsFactor_1 16 rfl)
theorem dX12_readsFactor_49 : decode cX12_readsFactor 49 = .ok (.ireturn, 1) := dq_172 (kX12_readsFactor_1 17 rfl)
theorem dX12_readsFactor_50 : decode cX12_readsFactor 50 = .ok (.aload_n 0, 1) := dq_42 (kX12_readsFactor_1 18 rfl)
theorem dX12_readsFactor_51 : decode cX12_readsFactor 51 = .ok (.invokevirtual 449, 3) := dq_182 (kX12_readsFactor_1 19 rfl) (kX12_readsFactor_1 20 rfl) (kX12_readsFactor_1 21 rfl) rfl
theorem dX12_readsFactor_54 : decode cX12_readsFactor 54 = .ok (.iconst (-1), 1) := dq_2 (kX12_readsFactor_1 22 rfl)
theorem dX12_readsFactor_55 : decode cX12_readsFactor 55 = .ok (.if_icmp .ne 7, 3) := dq_160 (kX12_readsFactor_1 23 rfl) (kX12_readsFactor_1 24 rfl) (kX12_readsFactor_1 25 rfl) (by decide)
theorem dX12_readsFactor_58 : decode cX12_readsFactor 58 = .ok (.iconst (-1), 1) := dq_2 (kX12_readsFactor_1 26 rfl)
theorem dX12_readsFactor_59 : decode cX12_readsFactor 59 = .ok (.goto 10, 3) := dq_167 (kX12_readsFactor_1 27 rfl) (kX12_readsFactor_1 28 rfl) (kX12_readsFactor_1 29 rfl) (by decide)
theorem dX12_readsFactor_62 : decode cX12_readsFactor 62 = .ok (.aload_n 0, 1) := dq_42 (kX12_readsFactor_1 30 rfl)
theorem dX12_readsFactor_63 : decode cX12_readsFactor 63 = .ok (.invokevirtual 449, 3) := dq_182 (kX12_readsFactor_1 31 rfl) (kX12_readsFactor_2 0 rfl) (kX12_readsFactor_2 1 rfl) rfl
theorem dX12_readsFactor_66 : decode cX12_readsFactor 66 = .ok (.invokestatic 489, 3) := dq_184 (kX12_readsFactor_2 2 rfl) (kX12_readsFactor_2 3 rfl) (kX12_readsFactor_2 4 rfl) rfl
theorem dX12_readsFactor_69 : decode cX12_readsFactor 69 = .ok (.istore_n 1, 1) := dq_60 (kX12_readsFactor_2 5 rfl)
theorem dX12_readsFactor_70 : decode cX12_readsFactor 70 = .ok (.iload_n 1, 1) := dq_27 (kX12_readsFactor_2 6 rfl)
theorem dX12_readsFactor_71 : decode cX12_readsFactor 71 = .ok (.iconst (-1), 1) := dq_2 (kX12_readsFactor_2 7 rfl)
theorem dX12_readsFactor_72 : decode cX12_readsFactor 72 = .ok (.if_icmp .ne 13, 3) := dq_160 (kX12_readsFactor_2 8 rfl) (kX12_readsFactor_2 9 rfl) (kX12_readsFactor_2 10 rfl) (by decide)
theorem dX12_readsFactor_75 : decode cX12_readsFactor 75 = .ok (.aload_n 0, 1) := dq_42 (kX12_readsFactor_2 11 rfl)
theorem dX12_readsFactor_76 : decode cX12_readsFactor 76 = .ok (.iconst 1, 1) := dq_4 (kX12_readsFactor_2 12 rfl)
theorem dX12_readsFactor_77 : decode cX12_readsFactor 77 = .ok (.aload_n 0, 1) := dq_42 (kX12_readsFactor_2 13 rfl)
theorem dX12_readsFactor_78 : decode cX12_readsFactor 78 = .ok (.getfield 443, 3) := dq_180 (kX12_readsFactor_2 14 rfl) (kX12_readsFactor_2 15 rfl) (kX12_readsFactor_2 16 rfl) rfl
theorem dX12_readsFactor_81 : decode cX12_readsFactor 81 = .ok (.invokevirtual 456, 3) := dq_182 (kX12_readsFactor_2 17 rfl) (kX12_readsFactor_2 18 rfl) (kX12_readsFactor_2 19 rfl) rfl
theorem dX12_readsFactor_84 : decode cX12_readsFactor 84 = .ok (.ireturn, 1) := dq_172 (kX12_readsFactor_2 20 rfl)
theorem dX12_readsFactor_85 : decode cX12_readsFactor 85 = .ok (.aload_n 0, 1) := dq_42 (kX12_readsFactor_2 21 rfl)
theorem dX12_readsFactor_86 : decode cX12_readsFactor 86 = .ok (.iconst 1, 1) := dq_4 (kX12_readsFactor_2 22 rfl)
theorem dX12_readsFactor_87 : decode cX12_readsFactor 87 = .ok (.iload_n 1, 1) := dq_27 (kX12_readsFactor_2 23 rfl)
theorem dX12_readsFactor_88 : decode cX12_readsFactor 88 = .ok (.invokevirtual 479, 3) := dq_182 (kX12_readsFactor_2 24 rfl) (kX12_readsFactor_2 25 rfl) (kX12_readsFactor_2 26 rfl) rfl
theorem dX12_readsFactor_91 : decode cX12_readsFactor 91 = .ok (.aload_n 0, 1) := dq_42 (kX12_readsFactor_2 27 rfl)
theorem dX12_readsFactor_92 : decode cX12_readsFactor 92 = .ok (.aload_n 0, 1) := dq_42 (kX12_readsFactor_2 28 rfl)
theorem dX12_readsFactor_93 : decode cX12_readsFactor 93 = .ok (.getfield 443, 3) := dq_180 (kX12_readsFactor_2 29 rfl) (kX12_readsFactor_2 30 rfl) (kX12_readsFactor_2 31 rfl) rfl
theorem dX12_readsFactor_96 : decode cX12_readsFactor 96 = .ok (.iconst 1, 1) := dq_4 (kX12_readsFactor_3 0 rfl)
theorem dX12_readsFactor_97 : decode cX12_readsFactor 97 = .ok (.iadd, 1) := dq_96 (kX12_readsFactor_3 1 rfl)
theorem dX12_readsFactor_98 : decode cX12_readsFactor 98 = .ok (.putfield 443, 3) := dq_181 (kX12_readsFactor_3 2 rfl) (kX12_readsFactor_3 3 rfl) (kX12_readsFactor_3 4 rfl) rfl
theorem dX12_readsFactor_101 : decode cX12_readsFactor 101 = .ok (.iconst 1, 1) := dq_4 (kX12_readsFactor_3 5 rfl)
theorem dX12_readsFactor_102 : decode cX12_readsFactor 102 = .ok (.ireturn, 1) := dq_172 (kX12_readsFactor_3 6 rfl)

def bX12_readsSum_0 : List UInt8 := [42, 180, 1, 217, 60, 42, 182, 1, 236, 154, 0, 5, 3, 172, 42, 182, 1, 193, 2, 160, 0, 7, 2, 167, 0, 10, 42, 182, 1, 193, 184, 1]
theorem kX12_readsSum_0 (j : Nat) {b : UInt8} (hj : bX12_readsSum_0[j]? = some b) : AtB cX12_readsSum (0 + j) b := at_of32 (by decide +kernel) j hj
def bX12_readsSum_1 : List UInt8 := [239, 61, 28, 2, 159, 0, 60, 42, 28, 7, 162, 0, 7, 4, 167, 0, 4, 3, 182, 1, 242, 42, 180, 0, 91, 42, 180, 1, 217, 19, 1, 213]
theorem kX12_readsSum_1 (j : Nat) {b : UInt8} (hj : bX12_readsSum_1[j]? = some b) : AtB cX12_readsSum (32 + j) b := at_of32 (by decide +kernel) j hj
def bX12_readsSum_2 : List UInt8 := [28, 104, 79, 42, 42, 180, 1, 217, 4, 96, 181, 1, 217, 42, 42, 180, 1, 187, 4, 96, 181, 1, 187, 42, 182, 1, 236, 154, 0, 85, 3, 172]
theorem kX12_readsSum_2 (j : Nat) {b : UInt8} (hj : bX12_readsSum_2[j]? = some b) : AtB cX12_readsSum (64 + j) b := at_of32 (by decide +kernel) j hj
def bX12_readsSum_3 : List UInt8 := [42, 182, 1, 193, 16, 93, 160, 0, 49, 42, 27, 182, 1, 246, 153, 0, 41, 42, 4, 182, 1, 242, 42, 42, 180, 1, 217, 4, 100, 181, 1, 217]
theorem kX12_readsSum_3 (j : Nat) {b : UInt8} (hj : bX12_readsSum_3[j]? = some b) : AtB cX12_readsSum (96 + j) b := at_of32 (by decide +kernel) j hj
def bX12_readsSum_4 : List UInt8 := [42, 42, 180, 1, 214, 4, 100, 181, 1, 214, 42, 42, 180, 1, 187, 4, 96, 181, 1, 187, 167, 0, 28, 42, 27, 182, 1, 246, 153, 0, 13, 42]
theorem kX12_readsSum_4 (j : Nat) {b : UInt8} (hj : bX12_readsSum_4[j]? = some b) : AtB cX12_readsSum (128 + j) b := at_of32 (by decide +kernel) j hj
def bX12_readsSum_5 : List UInt8 := [4, 42, 180, 1, 187, 182, 1, 200, 172, 42, 4, 182, 1, 242, 4, 172, 167, 255, 94]
theorem kX12_readsSum_5 (j : Nat) {b : UInt8} (hj : bX12_readsSum_5[j]? = some b) : AtB cX12_readsSum (160 + j) b := at_of32 (by decide +kernel) j hj
theorem dX12_readsSum_0 : decode cX12_readsSum 0 = .ok (.aload_n 0, 1) := dq_42 (kX12_readsSum_0 0 rfl)
theorem dX12_readsSum_1 : decode cX12_readsSum 1 = .ok (.getfield 473, 3) := dq_180 (kX12_readsSum_0 1 rfl) (kX12_readsSum_0 2 rfl) (kX12_readsSum_0 3 rfl) rfl
theorem dX12_readsSum_4 : decode cX12_readsSum 4 = .ok (.istore_n 1, 1) := dq_60 (kX12_readsSum_0 4 rfl)
theorem dX12_readsSum_5 : decode cX12_readsSum 5 = .ok (.aload_n 0, 1) := dq_42 (kX12_readsSum_0 5 rfl)
theorem dX12_readsSum_6 : decode cX12_readsSum 6 = .ok (.invokevirtual 492, 3) := dq_182 (kX12_readsSum_0 6 rfl) (kX12_readsSum_0 7 rfl) (kX12_readsSum_0 8 rfl) rfl
theorem dX12_readsSum_9 : decode cX12_readsSum 9 = .ok (.ifCond .ne 5, 3) := dq_154 (kX12_readsSum_0 9 rfl) (kX12_readsSum_0 10 rfl) (kX12_readsSum_0 11 rfl) (by decide)
theorem dX12_readsSum_12 : decode cX12_readsSum 12 = .ok (.iconst 0, 1) := dq_3 (kX12_readsSum_0 12 rfl)
theorem dX12_readsSum_13 : decode cX12_readsSum 13 = .ok (.ireturn, 1) := dq_172 (kX12_readsSum_0 13 rfl)
theorem dX12_readsSum_14 : decode cX12_readsSum 14 = .ok (.aload_n 0, 1) := dq_42 (kX12_readsSum_0 14 rfl)
theorem dX12_readsSum_15 : decode cX12_readsSum 15 = .ok (.invokevirtual 449, 3) := dq_182 (kX12_readsSum_0 15 rfl) (kX12_readsSum_0 16 rfl) (kX12_readsSum_0 17 rfl) rfl
theorem dX12_readsSum_18 : decode cX12_readsSum 18 = .ok (.iconst (-1), 1) := dq_2 (kX12_readsSum_0 18 rfl)
theorem dX12_readsSum_19 : decode cX12_readsSum 19 = .ok (.if_icmp .ne 7, 3) := dq_160 (kX12_readsSum_0 19 rfl) (kX12_readsSum_0 20 rfl) (kX12_readsSum_0 21 rfl) (by decide)
theorem dX12_readsSum_22 : decode cX12_readsSum 22 = .ok (.iconst (-1), 1) := dq_2 (kX12_readsSum_0 22 rfl)
theorem dX12_readsSum_23 : decode cX12_readsSum 23 = .ok (.goto 10, 3) := dq_167 (kX12_readsSum_0 23 rfl) (kX12_readsSum_0 24 rfl) (kX12_readsSum_0 25 rfl) (by decide)
theorem dX12_readsSum_26 : decode cX12_readsSum 26 = .ok (.aload_n 0, 1) := dq_42 (kX12_readsSum_0 26 rfl)
theorem dX12_readsSum_27 : decode cX12_readsSum 27 = .ok (.invokevirtual 449, 3) := dq_182 (kX12_readsSum_0 27 rfl) (kX12_readsSum_0 28 rfl) (kX12_readsSum_0 29 rfl) rfl
theorem dX12_readsSum_30 : decode cX12_readsSum 30 = .ok (.invokestatic 495, 3) := dq_184 (kX12_readsSum_0 30 rfl) (kX12_readsSum_0 31 rfl) (kX12_readsSum_1 0 rfl) rfl
theorem dX12_readsSum_33 : decode cX12_readsSum 33 = .ok (.istore_n 2, 1) := dq_61 (kX12_readsSum_1 1 rfl)
theorem dX12_readsSum_34 : decode cX12_readsSum 34 = .ok (.iload_n 2, 1) := dq_28 (kX12_readsSum_1 2 rfl)
theorem dX12_readsSum_35 : decode cX12_readsSum 35 = .ok (.iconst (-1), 1) := dq_2 (kX12_readsSum_1 3 rfl)
theorem dX12_readsSum_36 : decode cX12_readsSum 36 = .ok (.if_icmp .eq 60, 3) := dq_159 (kX12_readsSum_1 4 rfl) (kX12_readsSum_1 5 rfl) (kX12_readsSum_1 6 rfl) (by decide)
theorem dX12_readsSum_39 : decode cX12_readsSum 39 = .ok (.aload_n 0, 1) := dq_42 (kX12_readsSum_1 7 rfl)
theorem dX12_readsSum_40 : decode cX12_readsSum 40 = .ok (.iload_n 2, 1) := dq_28 (kX12_readsSum_1 8 rfl)
theorem dX12_readsSum_41 : decode cX12_readsSum 41 = .ok (.iconst 4, 1) := dq_7 (kX12_readsSum_1 9 rfl)
theorem dX12_readsSum_42 : decode cX12_readsSum 42 = .ok (.if_icmp .ge 7, 3) := dq_162 (kX12_readsSum_1 10 rfl) (kX12_readsSum_1 11 rfl) (kX12_readsSum_1 12 rfl) (by decide)
theorem dX12_readsSum_45 : decode cX12_readsSum 45 = .ok (.iconst 1, 1) := dq_4 (kX12_readsSum_1 13 rfl)
theorem dX12_readsSum_46 : decode cX12_readsSum 46 = .ok (.goto 4, 3) := dq_167 (kX12_readsSum_1 14 rfl) (kX12_readsSum_1 15 rfl) (kX12_readsSum_1 16 rfl) (by decide)
theorem dX12_readsSum_49 : decode cX12_readsSum 49 = .ok (.iconst 0, 1) := dq_3 (kX12_readsSum_1 17 rfl)
theorem dX12_readsSum_50 : decode cX12_readsSum 50 = .ok (.invokevirtual 498, 3) := dq_182 (kX12_readsSum_1 18 rfl) (kX12_readsSum_1 19 rfl) (kX12_readsSum_1 20 rfl) rfl
theorem dX12_readsSum_53 : decode cX12_readsSum 53 = .ok (.aload_n 0, 1) := dq_42 (kX12_readsSum_1 21 rfl)
theorem dX12_readsSum_54 : decode cX12_readsSum 54 = .ok (.getfield 91, 3) := dq_180 (kX12_readsSum_1 22 rfl) (kX12_readsSum_1 23 rfl) (kX12_readsSum_1 24 rfl) rfl
theorem dX12_readsSum_57 : decode cX12_readsSum 57 = .ok (.aload_n 0, 1) := dq_42 (kX12_readsSum_1 25 rfl)
theorem dX12_readsSum_58 : decode cX12_readsSum 58 = .ok (.getfield 473, 3) := dq_180 (kX12_readsSum_1 26 rfl) (kX12_readsSum_1 27 rfl) (kX12_readsSum_1 28 rfl) rfl
theorem dX12_readsSum_61 : decode cX12_readsSum 61 = .ok (.ldc_w 469, 3) := dq_19 (kX12_readsSum_1 29 rfl) (kX12_readsSum_1 30 rfl) (kX12_readsSum_1 31 rfl) rfl
theorem dX12_readsSum_64 : decode cX12_readsSum 64 = .ok (.iload_n 2, 1) := dq_28 (kX12_readsSum_2 0 rfl)
theorem dX12_readsSum_65 : decode cX12_readsSum 65 = .ok (.imul, 1) := dq_104 (kX12_readsSum_2 1 rfl)
theorem dX12_readsSum_66 : decode cX12_readsSum 66 = .ok (.iastore, 1) := dq_79 (kX12_readsSum_2 2 rfl)
theorem dX12_readsSum_67 : decode cX12_readsSum 67 = .ok (.aload_n 0, 1) := dq_42 (kX12_readsSum_2 3 rfl)
theorem dX12_readsSum_68 : decode cX12_readsSum 68 = .ok (.aload_n 0, 1) := dq_42 (kX12_readsSum_2 4 rfl)
theorem dX12_readsSum_69 : decode cX12_readsSum 69 = .ok (.getfield 473, 3) := dq_180 (kX12_readsSum_2 5 rfl) (kX12_readsSum_2 6 rfl) (kX12_readsSum_2 7 rfl) rfl
theorem dX12_readsSum_72 : decode cX12_readsSum 72 = .ok (.iconst 1, 1) := dq_4 (kX12_readsSum_2 8 rfl)
theorem dX12_readsSum_73 : decode cX12_readsSum 73 = .ok (.iadd, 1) := dq_96 (kX12_readsSum_2 9 rfl)
theorem dX12_readsSum_74 : decode cX12_readsSum 74 = .ok (.putfield 473, 3) := dq_181 (kX12_readsSum_2 10 rfl) (kX12_readsSum_2 11 rfl) (kX12_readsSum_2 12 rfl) rfl
theorem dX12_readsSum_77 : decode cX12_readsSum 77 = .ok (.aload_n 0, 1) := dq_42 (kX12_readsSum_2 13 rfl)
theorem dX12_readsSum_78 : decode cX12_readsSum 78 = .ok (.aload_n 0, 1) := dq_42 (kX12_readsSum_2 14 rfl)
theorem dX12_readsSum_79 : decode cX12_readsSum 79 = .ok (.getfield 443, 3) := dq_180 (kX12_readsSum_2 15 rfl) (kX12_readsSum_2 16 rfl) (kX12_readsSum_2 17 rfl) rfl
theorem dX12_readsSum_82 : decode cX12_readsSum 82 = .ok (.iconst 1, 1) := dq_4 (kX12_readsSum_2 18 rfl)
theorem dX12_readsSum_83 : decode cX12_readsSum 83 = .ok (.iadd, 1) := dq_96 (kX12_readsSum_2 19 rfl)
theorem dX12_readsSum_84 : decode cX12_readsSum 84 = .ok (.putfield 443, 3) := dq_181 (kX12_readsSum_2 20 rfl) (kX12_readsSum_2 21 rfl) (kX12_readsSum_2 22 rfl) rfl
theorem dX12_readsSum_87 : decode cX12_readsSum 87 = .ok (.aload_n 0, 1) := dq_42 (kX12_readsSum_2 23 rfl)
theorem dX12_readsSum_88 : decode cX12_readsSum 88 = .ok (.invokevirtual 492, 3) := dq_182 (kX12_readsSum_2 24 rfl) (kX12_readsSum_2 25 rfl) (kX12_readsSum_2 26 rfl) rfl
theorem dX12_readsSum_91 : decode cX12_readsSum 91 = .ok (.ifCond .ne 85, 3) := dq_154 (kX12_readsSum_2 27 rfl) (kX12_readsSum_2 28 rfl) (kX12_readsSum_2 29 rfl) (by decide)
theorem dX12_readsSum_94 : decode cX12_readsSum 94 = .ok (.iconst 0, 1) := dq_3 (kX12_readsSum_2 30 rfl)
theorem dX12_readsSum_95 : decode cX12_readsSum 95 = .ok (.ireturn, 1) := dq_172 (kX12_readsSum_2 31 rfl)
theorem dX12_readsSum_96 : decode cX12_readsSum 96 = .ok (.aload_n 0, 1) := dq_42 (kX12_readsSum_3 0 rfl)
theorem dX12_readsSum_97 : decode cX12_readsSum 97 = .ok (.invokevirtual 449, 3) := dq_182 (kX12_readsSum_3 1 rfl) (kX12_readsSum_3 2 rfl) (kX12_readsSum_3 3 rfl) rfl
theorem dX12_readsSum_100 : decode cX12_readsSum 100 = .ok (.bipush 93, 2) := dq_16 (kX12_readsSum_3 4 rfl) (kX12_readsSum_3 5 rfl) (by decide)
theorem dX12_readsSum_102 : decode cX12_readsSum 102 = .ok (.if_icmp .ne 49, 3) := dq_160 (kX12_readsSum_3 6 rfl) (kX12_readsSum_3 7 rfl) (kX12_readsSum_3 8 rfl) (by decide)
theorem dX12_readsSum_105 : decode cX12_readsSum 105 = .ok (.aload_n 0, 1) := dq_42 (kX12_readsSum_3 9 rfl)
theorem dX12_readsSum_106 : decode cX12_readsSum 106 = .ok (.iload_n 1, 1) := dq_27 (kX12_readsSum_3 10 rfl)
theorem dX12_readsSum_107 : decode cX12_readsSum 107 = .ok (.invokevirtual 502, 3) := dq_182 (kX12_readsSum_3 11 rfl) (kX12_readsSum_3 12 rfl) (kX12_readsSum_3 13 rfl) rfl
theorem dX12_readsSum_110 : decode cX12_readsSum 110 = .ok (.ifCond .eq 41, 3) := dq_153 (kX12_readsSum_3 14 rfl) (kX12_readsSum_3 15 rfl) (kX12_readsSum_3 16 rfl) (by decide)
theorem dX12_readsSum_113 : decode cX12_readsSum 113 = .ok (.aload_n 0, 1) := dq_42 (kX12_readsSum_3 17 rfl)
theorem dX12_readsSum_114 : decode cX12_readsSum 114 = .ok (.iconst 1, 1) := dq_4 (kX12_readsSum_3 18 rfl)
theorem dX12_readsSum_115 : decode cX12_readsSum 115 = .ok (.invokevirtual 498, 3) := dq_182 (kX12_readsSum_3 19 rfl) (kX12_readsSum_3 20 rfl) (kX12_readsSum_3 21 rfl) rfl
theorem dX12_readsSum_118 : decode cX12_readsSum 118 = .ok (.aload_n 0, 1) := dq_42 (kX12_readsSum_3 22 rfl)
theorem dX12_readsSum_119 : decode cX12_readsSum 119 = .ok (.aload_n 0, 1) := dq_42 (kX12_readsSum_3 23 rfl)
theorem dX12_readsSum_120 : decode cX12_readsSum 120 = .ok (.getfield 473, 3) := dq_180 (kX12_readsSum_3 24 rfl) (kX12_readsSum_3 25 rfl) (kX12_readsSum_3 26 rfl) rfl
theorem dX12_readsSum_123 : decode cX12_readsSum 123 = .ok (.iconst 1, 1) := dq_4 (kX12_readsSum_3 27 rfl)
theorem dX12_readsSum_124 : decode cX12_readsSum 124 = .ok (.isub, 1) := dq_100 (kX12_readsSum_3 28 rfl)
theorem dX12_readsSum_125 : decode cX12_readsSum 125 = .ok (.putfield 473, 3) := dq_181 (kX12_readsSum_3 29 rfl) (kX12_readsSum_3 30 rfl) (kX12_readsSum_3 31 rfl) rfl
theorem dX12_readsSum_128 : decode cX12_readsSum 128 = .ok (.aload_n 0, 1) := dq_42 (kX12_readsSum_4 0 rfl)
theorem dX12_readsSum_129 : decode cX12_readsSum 129 = .ok (.aload_n 0, 1) := dq_42 (kX12_readsSum_4 1 rfl)
theorem dX12_readsSum_130 : decode cX12_readsSum 130 = .ok (.getfield 470, 3) := dq_180 (kX12_readsSum_4 2 rfl) (kX12_readsSum_4 3 rfl) (kX12_readsSum_4 4 rfl) rfl
theorem dX12_readsSum_133 : decode cX12_readsSum 133 = .ok (.iconst 1, 1) := dq_4 (kX12_readsSum_4 5 rfl)
theorem dX12_readsSum_134 : decode cX12_readsSum 134 = .ok (.isub, 1) := dq_100 (kX12_readsSum_4 6 rfl)
theorem dX12_readsSum_135 : decode cX12_readsSum 135 = .ok (.putfield 470, 3) := dq_181 (kX12_readsSum_4 7 rfl) (kX12_readsSum_4 8 rfl) (kX12_readsSum_4 9 rfl) rfl
theorem dX12_readsSum_138 : decode cX12_readsSum 138 = .ok (.aload_n 0, 1) := dq_42 (kX12_readsSum_4 10 rfl)
theorem dX12_readsSum_139 : decode cX12_readsSum 139 = .ok (.aload_n 0, 1) := dq_42 (kX12_readsSum_4 11 rfl)
theorem dX12_readsSum_140 : decode cX12_readsSum 140 = .ok (.getfield 443, 3) := dq_180 (kX12_readsSum_4 12 rfl) (kX12_readsSum_4 13 rfl) (kX12_readsSum_4 14 rfl) rfl
theorem dX12_readsSum_143 : decode cX12_readsSum 143 = .ok (.iconst 1, 1) := dq_4 (kX12_readsSum_4 15 rfl)
theorem dX12_readsSum_144 : decode cX12_readsSum 144 = .ok (.iadd, 1) := dq_96 (kX12_readsSum_4 16 rfl)
theorem dX12_readsSum_145 : decode cX12_readsSum 145 = .ok (.putfield 443, 3) := dq_181 (kX12_readsSum_4 17 rfl) (kX12_readsSum_4 18 rfl) (kX12_readsSum_4 19 rfl) rfl
theorem dX12_readsSum_148 : decode cX12_readsSum 148 = .ok (.goto 28, 3) := dq_167 (kX12_readsSum_4 20 rfl) (kX12_readsSum_4 21 rfl) (kX12_readsSum_4 22 rfl) (by decide)
theorem dX12_readsSum_151 : decode cX12_readsSum 151 = .ok (.aload_n 0, 1) := dq_42 (kX12_readsSum_4 23 rfl)
theorem dX12_readsSum_152 : decode cX12_readsSum 152 = .ok (.iload_n 1, 1) := dq_27 (kX12_readsSum_4 24 rfl)
theorem dX12_readsSum_153 : decode cX12_readsSum 153 = .ok (.invokevirtual 502, 3) := dq_182 (kX12_readsSum_4 25 rfl) (kX12_readsSum_4 26 rfl) (kX12_readsSum_4 27 rfl) rfl
theorem dX12_readsSum_156 : decode cX12_readsSum 156 = .ok (.ifCond .eq 13, 3) := dq_153 (kX12_readsSum_4 28 rfl) (kX12_readsSum_4 29 rfl) (kX12_readsSum_4 30 rfl) (by decide)
theorem dX12_readsSum_159 : decode cX12_readsSum 159 = .ok (.aload_n 0, 1) := dq_42 (kX12_readsSum_4 31 rfl)
theorem dX12_readsSum_160 : decode cX12_readsSum 160 = .ok (.iconst 1, 1) := dq_4 (kX12_readsSum_5 0 rfl)
theorem dX12_readsSum_161 : decode cX12_readsSum 161 = .ok (.aload_n 0, 1) := dq_42 (kX12_readsSum_5 1 rfl)
theorem dX12_readsSum_162 : decode cX12_readsSum 162 = .ok (.getfield 443, 3) := dq_180 (kX12_readsSum_5 2 rfl) (kX12_readsSum_5 3 rfl) (kX12_readsSum_5 4 rfl) rfl
theorem dX12_readsSum_165 : decode cX12_readsSum 165 = .ok (.invokevirtual 456, 3) := dq_182 (kX12_readsSum_5 5 rfl) (kX12_readsSum_5 6 rfl) (kX12_readsSum_5 7 rfl) rfl
theorem dX12_readsSum_168 : decode cX12_readsSum 168 = .ok (.ireturn, 1) := dq_172 (kX12_readsSum_5 8 rfl)
theorem dX12_readsSum_169 : decode cX12_readsSum 169 = .ok (.aload_n 0, 1) := dq_42 (kX12_readsSum_5 9 rfl)
theorem dX12_readsSum_170 : decode cX12_readsSum 170 = .ok (.iconst 1, 1) := dq_4 (kX12_readsSum_5 10 rfl)
theorem dX12_readsSum_171 : decode cX12_readsSum 171 = .ok (.invokevirtual 498, 3) := dq_182 (kX12_readsSum_5 11 rfl) (kX12_readsSum_5 12 rfl) (kX12_readsSum_5 13 rfl) rfl
theorem dX12_readsSum_174 : decode cX12_readsSum 174 = .ok (.iconst 1, 1) := dq_4 (kX12_readsSum_5 14 rfl)
theorem dX12_readsSum_175 : decode cX12_readsSum 175 = .ok (.ireturn, 1) := dq_172 (kX12_readsSum_5 15 rfl)
theorem dX12_readsSum_176 : decode cX12_readsSum 176 = .ok (.goto (-162), 3) := dq_167 (kX12_readsSum_5 16 rfl) (kX12_readsSum_5 17 rfl) (kX12_readsSum_5 18 rfl) (by decide)

def bX12_hasOpenSum_0 : List UInt8 := [27, 61, 28, 42, 180, 1, 217, 162, 0, 26, 42, 180, 0, 91, 28, 46, 19, 1, 213, 108, 16, 14, 160, 0, 5, 4, 172, 132, 2, 1, 167, 255]
theorem kX12_hasOpenSum_0 (j : Nat) {b : UInt8} (hj : bX12_hasOpenSum_0[j]? = some b) : AtB cX12_hasOpenSum (0 + j) b := at_of32 (by decide +kernel) j hj
def bX12_hasOpenSum_1 : List UInt8 := [228, 3, 172]
theorem kX12_hasOpenSum_1 (j : Nat) {b : UInt8} (hj : bX12_hasOpenSum_1[j]? = some b) : AtB cX12_hasOpenSum (32 + j) b := at_of32 (by decide +kernel) j hj
theorem dX12_hasOpenSum_0 : decode cX12_hasOpenSum 0 = .ok (.iload_n 1, 1) := dq_27 (kX12_hasOpenSum_0 0 rfl)
theorem dX12_hasOpenSum_1 : decode cX12_hasOpenSum 1 = .ok (.istore_n 2, 1) := dq_61 (kX12_hasOpenSum_0 1 rfl)
theorem dX12_hasOpenSum_2 : decode cX12_hasOpenSum 2 = .ok (.iload_n 2, 1) := dq_28 (kX12_hasOpenSum_0 2 rfl)
theorem dX12_hasOpenSum_3 : decode cX12_hasOpenSum 3 = .ok (.aload_n 0, 1) := dq_42 (kX12_hasOpenSum_0 3 rfl)
theorem dX12_hasOpenSum_4 : decode cX12_hasOpenSum 4 = .ok (.getfield 473, 3) := dq_180 (kX12_hasOpenSum_0 4 rfl) (kX12_hasOpenSum_0 5 rfl) (kX12_hasOpenSum_0 6 rfl) rfl
theorem dX12_hasOpenSum_7 : decode cX12_hasOpenSum 7 = .ok (.if_icmp .ge 26, 3) := dq_162 (kX12_hasOpenSum_0 7 rfl) (kX12_hasOpenSum_0 8 rfl) (kX12_hasOpenSum_0 9 rfl) (by decide)
theorem dX12_hasOpenSum_10 : decode cX12_hasOpenSum 10 = .ok (.aload_n 0, 1) := dq_42 (kX12_hasOpenSum_0 10 rfl)
theorem dX12_hasOpenSum_11 : decode cX12_hasOpenSum 11 = .ok (.getfield 91, 3) := dq_180 (kX12_hasOpenSum_0 11 rfl) (kX12_hasOpenSum_0 12 rfl) (kX12_hasOpenSum_0 13 rfl) rfl
theorem dX12_hasOpenSum_14 : decode cX12_hasOpenSum 14 = .ok (.iload_n 2, 1) := dq_28 (kX12_hasOpenSum_0 14 rfl)
theorem dX12_hasOpenSum_15 : decode cX12_hasOpenSum 15 = .ok (.iaload, 1) := dq_46 (kX12_hasOpenSum_0 15 rfl)
theorem dX12_hasOpenSum_16 : decode cX12_hasOpenSum 16 = .ok (.ldc_w 469, 3) := dq_19 (kX12_hasOpenSum_0 16 rfl) (kX12_hasOpenSum_0 17 rfl) (kX12_hasOpenSum_0 18 rfl) rfl
theorem dX12_hasOpenSum_19 : decode cX12_hasOpenSum 19 = .ok (.idiv, 1) := dq_108 (kX12_hasOpenSum_0 19 rfl)
theorem dX12_hasOpenSum_20 : decode cX12_hasOpenSum 20 = .ok (.bipush 14, 2) := dq_16 (kX12_hasOpenSum_0 20 rfl) (kX12_hasOpenSum_0 21 rfl) (by decide)
theorem dX12_hasOpenSum_22 : decode cX12_hasOpenSum 22 = .ok (.if_icmp .ne 5, 3) := dq_160 (kX12_hasOpenSum_0 22 rfl) (kX12_hasOpenSum_0 23 rfl) (kX12_hasOpenSum_0 24 rfl) (by decide)
theorem dX12_hasOpenSum_25 : decode cX12_hasOpenSum 25 = .ok (.iconst 1, 1) := dq_4 (kX12_hasOpenSum_0 25 rfl)
theorem dX12_hasOpenSum_26 : decode cX12_hasOpenSum 26 = .ok (.ireturn, 1) := dq_172 (kX12_hasOpenSum_0 26 rfl)
theorem dX12_hasOpenSum_27 : decode cX12_hasOpenSum 27 = .ok (.iinc 2 1, 3) := dq_132 (kX12_hasOpenSum_0 27 rfl) (kX12_hasOpenSum_0 28 rfl) (kX12_hasOpenSum_0 29 rfl) rfl (by decide)
theorem dX12_hasOpenSum_30 : decode cX12_hasOpenSum 30 = .ok (.goto (-28), 3) := dq_167 (kX12_hasOpenSum_0 30 rfl) (kX12_hasOpenSum_0 31 rfl) (kX12_hasOpenSum_1 0 rfl) (by decide)
theorem dX12_hasOpenSum_33 : decode cX12_hasOpenSum 33 = .ok (.iconst 0, 1) := dq_3 (kX12_hasOpenSum_1 1 rfl)
theorem dX12_hasOpenSum_34 : decode cX12_hasOpenSum 34 = .ok (.ireturn, 1) := dq_172 (kX12_hasOpenSum_1 2 rfl)

def bX12_endsPiece_0 : List UInt8 := [42, 182, 1, 220, 16, 10, 160, 0, 33, 42, 16, 10, 3, 182, 1, 223, 42, 42, 180, 1, 217, 4, 100, 181, 1, 217, 42, 42, 180, 1, 214, 4]
theorem kX12_endsPiece_0 (j : Nat) {b : UInt8} (hj : bX12_endsPiece_0[j]? = some b) : AtB cX12_endsPiece (0 + j) b := at_of32 (by decide +kernel) j hj
def bX12_endsPiece_1 : List UInt8 := [100, 181, 1, 214, 167, 255, 220, 177]
theorem kX12_endsPiece_1 (j : Nat) {b : UInt8} (hj : bX12_endsPiece_1[j]? = some b) : AtB cX12_endsPiece (32 + j) b := at_of32 (by decide +kernel) j hj
theorem dX12_endsPiece_0 : decode cX12_endsPiece 0 = .ok (.aload_n 0, 1) := dq_42 (kX12_endsPiece_0 0 rfl)
theorem dX12_endsPiece_1 : decode cX12_endsPiece 1 = .ok (.invokevirtual 476, 3) := dq_182 (kX12_endsPiece_0 1 rfl) (kX12_endsPiece_0 2 rfl) (kX12_endsPiece_0 3 rfl) rfl
theorem dX12_endsPiece_4 : decode cX12_endsPiece 4 = .ok (.bipush 10, 2) := dq_16 (kX12_endsPiece_0 4 rfl) (kX12_endsPiece_0 5 rfl) (by decide)
theorem dX12_endsPiece_6 : decode cX12_endsPiece 6 = .ok (.if_icmp .ne 33, 3) := dq_160 (kX12_endsPiece_0 6 rfl) (kX12_endsPiece_0 7 rfl) (kX12_endsPiece_0 8 rfl) (by decide)
theorem dX12_endsPiece_9 : decode cX12_endsPiece 9 = .ok (.aload_n 0, 1) := dq_42 (kX12_endsPiece_0 9 rfl)
theorem dX12_endsPiece_10 : decode cX12_endsPiece 10 = .ok (.bipush 10, 2) := dq_16 (kX12_endsPiece_0 10 rfl) (kX12_endsPiece_0 11 rfl) (by decide)
theorem dX12_endsPiece_12 : decode cX12_endsPiece 12 = .ok (.iconst 0, 1) := dq_3 (kX12_endsPiece_0 12 rfl)
theorem dX12_endsPiece_13 : decode cX12_endsPiece 13 = .ok (.invokevirtual 479, 3) := dq_182 (kX12_endsPiece_0 13 rfl) (kX12_endsPiece_0 14 rfl) (kX12_endsPiece_0 15 rfl) rfl
theorem dX12_endsPiece_16 : decode cX12_endsPiece 16 = .ok (.aload_n 0, 1) := dq_42 (kX12_endsPiece_0 16 rfl)
theorem dX12_endsPiece_17 : decode cX12_endsPiece 17 = .ok (.aload_n 0, 1) := dq_42 (kX12_endsPiece_0 17 rfl)
theorem dX12_endsPiece_18 : decode cX12_endsPiece 18 = .ok (.getfield 473, 3) := dq_180 (kX12_endsPiece_0 18 rfl) (kX12_endsPiece_0 19 rfl) (kX12_endsPiece_0 20 rfl) rfl
theorem dX12_endsPiece_21 : decode cX12_endsPiece 21 = .ok (.iconst 1, 1) := dq_4 (kX12_endsPiece_0 21 rfl)
theorem dX12_endsPiece_22 : decode cX12_endsPiece 22 = .ok (.isub, 1) := dq_100 (kX12_endsPiece_0 22 rfl)
theorem dX12_endsPiece_23 : decode cX12_endsPiece 23 = .ok (.putfield 473, 3) := dq_181 (kX12_endsPiece_0 23 rfl) (kX12_endsPiece_0 24 rfl) (kX12_endsPiece_0 25 rfl) rfl
theorem dX12_endsPiece_26 : decode cX12_endsPiece 26 = .ok (.aload_n 0, 1) := dq_42 (kX12_endsPiece_0 26 rfl)
theorem dX12_endsPiece_27 : decode cX12_endsPiece 27 = .ok (.aload_n 0, 1) := dq_42 (kX12_endsPiece_0 27 rfl)
theorem dX12_endsPiece_28 : decode cX12_endsPiece 28 = .ok (.getfield 470, 3) := dq_180 (kX12_endsPiece_0 28 rfl) (kX12_endsPiece_0 29 rfl) (kX12_endsPiece_0 30 rfl) rfl
theorem dX12_endsPiece_31 : decode cX12_endsPiece 31 = .ok (.iconst 1, 1) := dq_4 (kX12_endsPiece_0 31 rfl)
theorem dX12_endsPiece_32 : decode cX12_endsPiece 32 = .ok (.isub, 1) := dq_100 (kX12_endsPiece_1 0 rfl)
theorem dX12_endsPiece_33 : decode cX12_endsPiece 33 = .ok (.putfield 470, 3) := dq_181 (kX12_endsPiece_1 1 rfl) (kX12_endsPiece_1 2 rfl) (kX12_endsPiece_1 3 rfl) rfl
theorem dX12_endsPiece_36 : decode cX12_endsPiece 36 = .ok (.goto (-36), 3) := dq_167 (kX12_endsPiece_1 4 rfl) (kX12_endsPiece_1 5 rfl) (kX12_endsPiece_1 6 rfl) (by decide)
theorem dX12_endsPiece_39 : decode cX12_endsPiece 39 = .ok (.return_, 1) := dq_177 (kX12_endsPiece_1 7 rfl)

def bX12_lands_0 : List UInt8 := [42, 182, 1, 220, 16, 11, 159, 0, 16, 27, 153, 0, 66, 42, 182, 1, 220, 16, 12, 160, 0, 57, 42, 180, 0, 91, 42, 180, 1, 217, 4, 100]
theorem kX12_lands_0 (j : Nat) {b : UInt8} (hj : bX12_lands_0[j]? = some b) : AtB cX12_lands (0 + j) b := at_of32 (by decide +kernel) j hj
def bX12_lands_1 : List UInt8 := [46, 19, 1, 213, 112, 61, 42, 180, 0, 88, 28, 19, 1, 213, 42, 180, 0, 88, 28, 46, 19, 1, 213, 108, 104, 42, 180, 1, 210, 96, 79, 42]
theorem kX12_lands_1 (j : Nat) {b : UInt8} (hj : bX12_lands_1[j]? = some b) : AtB cX12_lands (32 + j) b := at_of32 (by decide +kernel) j hj
def bX12_lands_2 : List UInt8 := [42, 180, 1, 217, 4, 100, 181, 1, 217, 167, 255, 183, 177]
theorem kX12_lands_2 (j : Nat) {b : UInt8} (hj : bX12_lands_2[j]? = some b) : AtB cX12_lands (64 + j) b := at_of32 (by decide +kernel) j hj
theorem dX12_lands_0 : decode cX12_lands 0 = .ok (.aload_n 0, 1) := dq_42 (kX12_lands_0 0 rfl)
theorem dX12_lands_1 : decode cX12_lands 1 = .ok (.invokevirtual 476, 3) := dq_182 (kX12_lands_0 1 rfl) (kX12_lands_0 2 rfl) (kX12_lands_0 3 rfl) rfl
theorem dX12_lands_4 : decode cX12_lands 4 = .ok (.bipush 11, 2) := dq_16 (kX12_lands_0 4 rfl) (kX12_lands_0 5 rfl) (by decide)
theorem dX12_lands_6 : decode cX12_lands 6 = .ok (.if_icmp .eq 16, 3) := dq_159 (kX12_lands_0 6 rfl) (kX12_lands_0 7 rfl) (kX12_lands_0 8 rfl) (by decide)
theorem dX12_lands_9 : decode cX12_lands 9 = .ok (.iload_n 1, 1) := dq_27 (kX12_lands_0 9 rfl)
theorem dX12_lands_10 : decode cX12_lands 10 = .ok (.ifCond .eq 66, 3) := dq_153 (kX12_lands_0 10 rfl) (kX12_lands_0 11 rfl) (kX12_lands_0 12 rfl) (by decide)
theorem dX12_lands_13 : decode cX12_lands 13 = .ok (.aload_n 0, 1) := dq_42 (kX12_lands_0 13 rfl)
theorem dX12_lands_14 : decode cX12_lands 14 = .ok (.invokevirtual 476, 3) := dq_182 (kX12_lands_0 14 rfl) (kX12_lands_0 15 rfl) (kX12_lands_0 16 rfl) rfl
theorem dX12_lands_17 : decode cX12_lands 17 = .ok (.bipush 12, 2) := dq_16 (kX12_lands_0 17 rfl) (kX12_lands_0 18 rfl) (by decide)
theorem dX12_lands_19 : decode cX12_lands 19 = .ok (.if_icmp .ne 57, 3) := dq_160 (kX12_lands_0 19 rfl) (kX12_lands_0 20 rfl) (kX12_lands_0 21 rfl) (by decide)
theorem dX12_lands_22 : decode cX12_lands 22 = .ok (.aload_n 0, 1) := dq_42 (kX12_lands_0 22 rfl)
theorem dX12_lands_23 : decode cX12_lands 23 = .ok (.getfield 91, 3) := dq_180 (kX12_lands_0 23 rfl) (kX12_lands_0 24 rfl) (kX12_lands_0 25 rfl) rfl
theorem dX12_lands_26 : decode cX12_lands 26 = .ok (.aload_n 0, 1) := dq_42 (kX12_lands_0 26 rfl)
theorem dX12_lands_27 : decode cX12_lands 27 = .ok (.getfield 473, 3) := dq_180 (kX12_lands_0 27 rfl) (kX12_lands_0 28 rfl) (kX12_lands_0 29 rfl) rfl
theorem dX12_lands_30 : decode cX12_lands 30 = .ok (.iconst 1, 1) := dq_4 (kX12_lands_0 30 rfl)
theorem dX12_lands_31 : decode cX12_lands 31 = .ok (.isub, 1) := dq_100 (kX12_lands_0 31 rfl)
theorem dX12_lands_32 : decode cX12_lands 32 = .ok (.iaload, 1) := dq_46 (kX12_lands_1 0 rfl)
theorem dX12_lands_33 : decode cX12_lands 33 = .ok (.ldc_w 469, 3) := dq_19 (kX12_lands_1 1 rfl) (kX12_lands_1 2 rfl) (kX12_lands_1 3 rfl) rfl
theorem dX12_lands_36 : decode cX12_lands 36 = .ok (.irem, 1) := dq_112 (kX12_lands_1 4 rfl)
theorem dX12_lands_37 : decode cX12_lands 37 = .ok (.istore_n 2, 1) := dq_61 (kX12_lands_1 5 rfl)
theorem dX12_lands_38 : decode cX12_lands 38 = .ok (.aload_n 0, 1) := dq_42 (kX12_lands_1 6 rfl)
theorem dX12_lands_39 : decode cX12_lands 39 = .ok (.getfield 88, 3) := dq_180 (kX12_lands_1 7 rfl) (kX12_lands_1 8 rfl) (kX12_lands_1 9 rfl) rfl
theorem dX12_lands_42 : decode cX12_lands 42 = .ok (.iload_n 2, 1) := dq_28 (kX12_lands_1 10 rfl)
theorem dX12_lands_43 : decode cX12_lands 43 = .ok (.ldc_w 469, 3) := dq_19 (kX12_lands_1 11 rfl) (kX12_lands_1 12 rfl) (kX12_lands_1 13 rfl) rfl
theorem dX12_lands_46 : decode cX12_lands 46 = .ok (.aload_n 0, 1) := dq_42 (kX12_lands_1 14 rfl)
theorem dX12_lands_47 : decode cX12_lands 47 = .ok (.getfield 88, 3) := dq_180 (kX12_lands_1 15 rfl) (kX12_lands_1 16 rfl) (kX12_lands_1 17 rfl) rfl
theorem dX12_lands_50 : decode cX12_lands 50 = .ok (.iload_n 2, 1) := dq_28 (kX12_lands_1 18 rfl)
theorem dX12_lands_51 : decode cX12_lands 51 = .ok (.iaload, 1) := dq_46 (kX12_lands_1 19 rfl)
theorem dX12_lands_52 : decode cX12_lands 52 = .ok (.ldc_w 469, 3) := dq_19 (kX12_lands_1 20 rfl) (kX12_lands_1 21 rfl) (kX12_lands_1 22 rfl) rfl
theorem dX12_lands_55 : decode cX12_lands 55 = .ok (.idiv, 1) := dq_108 (kX12_lands_1 23 rfl)
theorem dX12_lands_56 : decode cX12_lands 56 = .ok (.imul, 1) := dq_104 (kX12_lands_1 24 rfl)
theorem dX12_lands_57 : decode cX12_lands 57 = .ok (.aload_n 0, 1) := dq_42 (kX12_lands_1 25 rfl)
theorem dX12_lands_58 : decode cX12_lands 58 = .ok (.getfield 466, 3) := dq_180 (kX12_lands_1 26 rfl) (kX12_lands_1 27 rfl) (kX12_lands_1 28 rfl) rfl
theorem dX12_lands_61 : decode cX12_lands 61 = .ok (.iadd, 1) := dq_96 (kX12_lands_1 29 rfl)
theorem dX12_lands_62 : decode cX12_lands 62 = .ok (.iastore, 1) := dq_79 (kX12_lands_1 30 rfl)
theorem dX12_lands_63 : decode cX12_lands 63 = .ok (.aload_n 0, 1) := dq_42 (kX12_lands_1 31 rfl)
theorem dX12_lands_64 : decode cX12_lands 64 = .ok (.aload_n 0, 1) := dq_42 (kX12_lands_2 0 rfl)
theorem dX12_lands_65 : decode cX12_lands 65 = .ok (.getfield 473, 3) := dq_180 (kX12_lands_2 1 rfl) (kX12_lands_2 2 rfl) (kX12_lands_2 3 rfl) rfl
theorem dX12_lands_68 : decode cX12_lands 68 = .ok (.iconst 1, 1) := dq_4 (kX12_lands_2 4 rfl)
theorem dX12_lands_69 : decode cX12_lands 69 = .ok (.isub, 1) := dq_100 (kX12_lands_2 5 rfl)
theorem dX12_lands_70 : decode cX12_lands 70 = .ok (.putfield 473, 3) := dq_181 (kX12_lands_2 6 rfl) (kX12_lands_2 7 rfl) (kX12_lands_2 8 rfl) rfl
theorem dX12_lands_73 : decode cX12_lands 73 = .ok (.goto (-73), 3) := dq_167 (kX12_lands_2 9 rfl) (kX12_lands_2 10 rfl) (kX12_lands_2 11 rfl) (by decide)
theorem dX12_lands_76 : decode cX12_lands 76 = .ok (.return_, 1) := dq_177 (kX12_lands_2 12 rfl)

def bX12_jumps_0 : List UInt8 := [42, 180, 0, 91, 42, 180, 1, 217, 19, 1, 213, 27, 104, 42, 180, 1, 210, 96, 79, 42, 42, 180, 1, 217, 4, 96, 181, 1, 217, 42, 27, 3]
theorem kX12_jumps_0 (j : Nat) {b : UInt8} (hj : bX12_jumps_0[j]? = some b) : AtB cX12_jumps (0 + j) b := at_of32 (by decide +kernel) j hj
def bX12_jumps_1 : List UInt8 := [182, 1, 223, 42, 42, 180, 1, 187, 4, 96, 181, 1, 187, 177]
theorem kX12_jumps_1 (j : Nat) {b : UInt8} (hj : bX12_jumps_1[j]? = some b) : AtB cX12_jumps (32 + j) b := at_of32 (by decide +kernel) j hj
theorem dX12_jumps_0 : decode cX12_jumps 0 = .ok (.aload_n 0, 1) := dq_42 (kX12_jumps_0 0 rfl)
theorem dX12_jumps_1 : decode cX12_jumps 1 = .ok (.getfield 91, 3) := dq_180 (kX12_jumps_0 1 rfl) (kX12_jumps_0 2 rfl) (kX12_jumps_0 3 rfl) rfl
theorem dX12_jumps_4 : decode cX12_jumps 4 = .ok (.aload_n 0, 1) := dq_42 (kX12_jumps_0 4 rfl)
theorem dX12_jumps_5 : decode cX12_jumps 5 = .ok (.getfield 473, 3) := dq_180 (kX12_jumps_0 5 rfl) (kX12_jumps_0 6 rfl) (kX12_jumps_0 7 rfl) rfl
theorem dX12_jumps_8 : decode cX12_jumps 8 = .ok (.ldc_w 469, 3) := dq_19 (kX12_jumps_0 8 rfl) (kX12_jumps_0 9 rfl) (kX12_jumps_0 10 rfl) rfl
theorem dX12_jumps_11 : decode cX12_jumps 11 = .ok (.iload_n 1, 1) := dq_27 (kX12_jumps_0 11 rfl)
theorem dX12_jumps_12 : decode cX12_jumps 12 = .ok (.imul, 1) := dq_104 (kX12_jumps_0 12 rfl)
theorem dX12_jumps_13 : decode cX12_jumps 13 = .ok (.aload_n 0, 1) := dq_42 (kX12_jumps_0 13 rfl)
theorem dX12_jumps_14 : decode cX12_jumps 14 = .ok (.getfield 466, 3) := dq_180 (kX12_jumps_0 14 rfl) (kX12_jumps_0 15 rfl) (kX12_jumps_0 16 rfl) rfl
theorem dX12_jumps_17 : decode cX12_jumps 17 = .ok (.iadd, 1) := dq_96 (kX12_jumps_0 17 rfl)
theorem dX12_jumps_18 : decode cX12_jumps 18 = .ok (.iastore, 1) := dq_79 (kX12_jumps_0 18 rfl)
theorem dX12_jumps_19 : decode cX12_jumps 19 = .ok (.aload_n 0, 1) := dq_42 (kX12_jumps_0 19 rfl)
theorem dX12_jumps_20 : decode cX12_jumps 20 = .ok (.aload_n 0, 1) := dq_42 (kX12_jumps_0 20 rfl)
theorem dX12_jumps_21 : decode cX12_jumps 21 = .ok (.getfield 473, 3) := dq_180 (kX12_jumps_0 21 rfl) (kX12_jumps_0 22 rfl) (kX12_jumps_0 23 rfl) rfl
theorem dX12_jumps_24 : decode cX12_jumps 24 = .ok (.iconst 1, 1) := dq_4 (kX12_jumps_0 24 rfl)
theorem dX12_jumps_25 : decode cX12_jumps 25 = .ok (.iadd, 1) := dq_96 (kX12_jumps_0 25 rfl)
theorem dX12_jumps_26 : decode cX12_jumps 26 = .ok (.putfield 473, 3) := dq_181 (kX12_jumps_0 26 rfl) (kX12_jumps_0 27 rfl) (kX12_jumps_0 28 rfl) rfl
theorem dX12_jumps_29 : decode cX12_jumps 29 = .ok (.aload_n 0, 1) := dq_42 (kX12_jumps_0 29 rfl)
theorem dX12_jumps_30 : decode cX12_jumps 30 = .ok (.iload_n 1, 1) := dq_27 (kX12_jumps_0 30 rfl)
theorem dX12_jumps_31 : decode cX12_jumps 31 = .ok (.iconst 0, 1) := dq_3 (kX12_jumps_0 31 rfl)
theorem dX12_jumps_32 : decode cX12_jumps 32 = .ok (.invokevirtual 479, 3) := dq_182 (kX12_jumps_1 0 rfl) (kX12_jumps_1 1 rfl) (kX12_jumps_1 2 rfl) rfl
theorem dX12_jumps_35 : decode cX12_jumps 35 = .ok (.aload_n 0, 1) := dq_42 (kX12_jumps_1 3 rfl)
theorem dX12_jumps_36 : decode cX12_jumps 36 = .ok (.aload_n 0, 1) := dq_42 (kX12_jumps_1 4 rfl)
theorem dX12_jumps_37 : decode cX12_jumps 37 = .ok (.getfield 443, 3) := dq_180 (kX12_jumps_1 5 rfl) (kX12_jumps_1 6 rfl) (kX12_jumps_1 7 rfl) rfl
theorem dX12_jumps_40 : decode cX12_jumps 40 = .ok (.iconst 1, 1) := dq_4 (kX12_jumps_1 8 rfl)
theorem dX12_jumps_41 : decode cX12_jumps 41 = .ok (.iadd, 1) := dq_96 (kX12_jumps_1 9 rfl)
theorem dX12_jumps_42 : decode cX12_jumps 42 = .ok (.putfield 443, 3) := dq_181 (kX12_jumps_1 10 rfl) (kX12_jumps_1 11 rfl) (kX12_jumps_1 12 rfl) rfl
theorem dX12_jumps_45 : decode cX12_jumps 45 = .ok (.return_, 1) := dq_177 (kX12_jumps_1 13 rfl)

def bX12_readsCompared_0 : List UInt8 := [42, 182, 1, 249, 154, 0, 5, 3, 172, 42, 182, 1, 193, 16, 60, 160, 0, 8, 16, 7, 167, 0, 32, 42, 182, 1, 193, 16, 62, 160, 0, 8]
theorem kX12_readsCompared_0 (j : Nat) {b : UInt8} (hj : bX12_readsCompared_0[j]? = some b) : AtB cX12_readsCompared (0 + j) b := at_of32 (by decide +kernel) j hj
def bX12_readsCompared_1 : List UInt8 := [16, 8, 167, 0, 18, 42, 182, 1, 193, 16, 61, 160, 0, 8, 16, 9, 167, 0, 4, 2, 60, 27, 2, 160, 0, 13, 42, 4, 42, 180, 1, 187]
theorem kX12_readsCompared_1 (j : Nat) {b : UInt8} (hj : bX12_readsCompared_1[j]? = some b) : AtB cX12_readsCompared (32 + j) b := at_of32 (by decide +kernel) j hj
def bX12_readsCompared_2 : List UInt8 := [182, 1, 200, 172, 42, 42, 180, 1, 187, 4, 96, 181, 1, 187, 42, 182, 1, 249, 154, 0, 5, 3, 172, 42, 27, 3, 182, 1, 223, 42, 182, 1]
theorem kX12_readsCompared_2 (j : Nat) {b : UInt8} (hj : bX12_readsCompared_2[j]? = some b) : AtB cX12_readsCompared (64 + j) b := at_of32 (by decide +kernel) j hj
def bX12_readsCompared_3 : List UInt8 := [252, 4, 172]
theorem kX12_readsCompared_3 (j : Nat) {b : UInt8} (hj : bX12_readsCompared_3[j]? = some b) : AtB cX12_readsCompared (96 + j) b := at_of32 (by decide +kernel) j hj
theorem dX12_readsCompared_0 : decode cX12_readsCompared 0 = .ok (.aload_n 0, 1) := dq_42 (kX12_readsCompared_0 0 rfl)
theorem dX12_readsCompared_1 : decode cX12_readsCompared 1 = .ok (.invokevirtual 505, 3) := dq_182 (kX12_readsCompared_0 1 rfl) (kX12_readsCompared_0 2 rfl) (kX12_readsCompared_0 3 rfl) rfl
theorem dX12_readsCompared_4 : decode cX12_readsCompared 4 = .ok (.ifCond .ne 5, 3) := dq_154 (kX12_readsCompared_0 4 rfl) (kX12_readsCompared_0 5 rfl) (kX12_readsCompared_0 6 rfl) (by decide)
theorem dX12_readsCompared_7 : decode cX12_readsCompared 7 = .ok (.iconst 0, 1) := dq_3 (kX12_readsCompared_0 7 rfl)
theorem dX12_readsCompared_8 : decode cX12_readsCompared 8 = .ok (.ireturn, 1) := dq_172 (kX12_readsCompared_0 8 rfl)
theorem dX12_readsCompared_9 : decode cX12_readsCompared 9 = .ok (.aload_n 0, 1) := dq_42 (kX12_readsCompared_0 9 rfl)
theorem dX12_readsCompared_10 : decode cX12_readsCompared 10 = .ok (.invokevirtual 449, 3) := dq_182 (kX12_readsCompared_0 10 rfl) (kX12_readsCompared_0 11 rfl) (kX12_readsCompared_0 12 rfl) rfl
theorem dX12_readsCompared_13 : decode cX12_readsCompared 13 = .ok (.bipush 60, 2) := dq_16 (kX12_readsCompared_0 13 rfl) (kX12_readsCompared_0 14 rfl) (by decide)
theorem dX12_readsCompared_15 : decode cX12_readsCompared 15 = .ok (.if_icmp .ne 8, 3) := dq_160 (kX12_readsCompared_0 15 rfl) (kX12_readsCompared_0 16 rfl) (kX12_readsCompared_0 17 rfl) (by decide)
theorem dX12_readsCompared_18 : decode cX12_readsCompared 18 = .ok (.bipush 7, 2) := dq_16 (kX12_readsCompared_0 18 rfl) (kX12_readsCompared_0 19 rfl) (by decide)
theorem dX12_readsCompared_20 : decode cX12_readsCompared 20 = .ok (.goto 32, 3) := dq_167 (kX12_readsCompared_0 20 rfl) (kX12_readsCompared_0 21 rfl) (kX12_readsCompared_0 22 rfl) (by decide)
theorem dX12_readsCompared_23 : decode cX12_readsCompared 23 = .ok (.aload_n 0, 1) := dq_42 (kX12_readsCompared_0 23 rfl)
theorem dX12_readsCompared_24 : decode cX12_readsCompared 24 = .ok (.invokevirtual 449, 3) := dq_182 (kX12_readsCompared_0 24 rfl) (kX12_readsCompared_0 25 rfl) (kX12_readsCompared_0 26 rfl) rfl
theorem dX12_readsCompared_27 : decode cX12_readsCompared 27 = .ok (.bipush 62, 2) := dq_16 (kX12_readsCompared_0 27 rfl) (kX12_readsCompared_0 28 rfl) (by decide)
theorem dX12_readsCompared_29 : decode cX12_readsCompared 29 = .ok (.if_icmp .ne 8, 3) := dq_160 (kX12_readsCompared_0 29 rfl) (kX12_readsCompared_0 30 rfl) (kX12_readsCompared_0 31 rfl) (by decide)
theorem dX12_readsCompared_32 : decode cX12_readsCompared 32 = .ok (.bipush 8, 2) := dq_16 (kX12_readsCompared_1 0 rfl) (kX12_readsCompared_1 1 rfl) (by decide)
theorem dX12_readsCompared_34 : decode cX12_readsCompared 34 = .ok (.goto 18, 3) := dq_167 (kX12_readsCompared_1 2 rfl) (kX12_readsCompared_1 3 rfl) (kX12_readsCompared_1 4 rfl) (by decide)
theorem dX12_readsCompared_37 : decode cX12_readsCompared 37 = .ok (.aload_n 0, 1) := dq_42 (kX12_readsCompared_1 5 rfl)
theorem dX12_readsCompared_38 : decode cX12_readsCompared 38 = .ok (.invokevirtual 449, 3) := dq_182 (kX12_readsCompared_1 6 rfl) (kX12_readsCompared_1 7 rfl) (kX12_readsCompared_1 8 rfl) rfl
theorem dX12_readsCompared_41 : decode cX12_readsCompared 41 = .ok (.bipush 61, 2) := dq_16 (kX12_readsCompared_1 9 rfl) (kX12_readsCompared_1 10 rfl) (by decide)
theorem dX12_readsCompared_43 : decode cX12_readsCompared 43 = .ok (.if_icmp .ne 8, 3) := dq_160 (kX12_readsCompared_1 11 rfl) (kX12_readsCompared_1 12 rfl) (kX12_readsCompared_1 13 rfl) (by decide)
theorem dX12_readsCompared_46 : decode cX12_readsCompared 46 = .ok (.bipush 9, 2) := dq_16 (kX12_readsCompared_1 14 rfl) (kX12_readsCompared_1 15 rfl) (by decide)
theorem dX12_readsCompared_48 : decode cX12_readsCompared 48 = .ok (.goto 4, 3) := dq_167 (kX12_readsCompared_1 16 rfl) (kX12_readsCompared_1 17 rfl) (kX12_readsCompared_1 18 rfl) (by decide)
theorem dX12_readsCompared_51 : decode cX12_readsCompared 51 = .ok (.iconst (-1), 1) := dq_2 (kX12_readsCompared_1 19 rfl)
theorem dX12_readsCompared_52 : decode cX12_readsCompared 52 = .ok (.istore_n 1, 1) := dq_60 (kX12_readsCompared_1 20 rfl)
theorem dX12_readsCompared_53 : decode cX12_readsCompared 53 = .ok (.iload_n 1, 1) := dq_27 (kX12_readsCompared_1 21 rfl)
theorem dX12_readsCompared_54 : decode cX12_readsCompared 54 = .ok (.iconst (-1), 1) := dq_2 (kX12_readsCompared_1 22 rfl)
theorem dX12_readsCompared_55 : decode cX12_readsCompared 55 = .ok (.if_icmp .ne 13, 3) := dq_160 (kX12_readsCompared_1 23 rfl) (kX12_readsCompared_1 24 rfl) (kX12_readsCompared_1 25 rfl) (by decide)
theorem dX12_readsCompared_58 : decode cX12_readsCompared 58 = .ok (.aload_n 0, 1) := dq_42 (kX12_readsCompared_1 26 rfl)
theorem dX12_readsCompared_59 : decode cX12_readsCompared 59 = .ok (.iconst 1, 1) := dq_4 (kX12_readsCompared_1 27 rfl)
theorem dX12_readsCompared_60 : decode cX12_readsCompared 60 = .ok (.aload_n 0, 1) := dq_42 (kX12_readsCompared_1 28 rfl)
theorem dX12_readsCompared_61 : decode cX12_readsCompared 61 = .ok (.getfield 443, 3) := dq_180 (kX12_readsCompared_1 29 rfl) (kX12_readsCompared_1 30 rfl) (kX12_readsCompared_1 31 rfl) rfl
theorem dX12_readsCompared_64 : decode cX12_readsCompared 64 = .ok (.invokevirtual 456, 3) := dq_182 (kX12_readsCompared_2 0 rfl) (kX12_readsCompared_2 1 rfl) (kX12_readsCompared_2 2 rfl) rfl
theorem dX12_readsCompared_67 : decode cX12_readsCompared 67 = .ok (.ireturn, 1) := dq_172 (kX12_readsCompared_2 3 rfl)
theorem dX12_readsCompared_68 : decode cX12_readsCompared 68 = .ok (.aload_n 0, 1) := dq_42 (kX12_readsCompared_2 4 rfl)
theorem dX12_readsCompared_69 : decode cX12_readsCompared 69 = .ok (.aload_n 0, 1) := dq_42 (kX12_readsCompared_2 5 rfl)
theorem dX12_readsCompared_70 : decode cX12_readsCompared 70 = .ok (.getfield 443, 3) := dq_180 (kX12_readsCompared_2 6 rfl) (kX12_readsCompared_2 7 rfl) (kX12_readsCompared_2 8 rfl) rfl
theorem dX12_readsCompared_73 : decode cX12_readsCompared 73 = .ok (.iconst 1, 1) := dq_4 (kX12_readsCompared_2 9 rfl)
theorem dX12_readsCompared_74 : decode cX12_readsCompared 74 = .ok (.iadd, 1) := dq_96 (kX12_readsCompared_2 10 rfl)
theorem dX12_readsCompared_75 : decode cX12_readsCompared 75 = .ok (.putfield 443, 3) := dq_181 (kX12_readsCompared_2 11 rfl) (kX12_readsCompared_2 12 rfl) (kX12_readsCompared_2 13 rfl) rfl
theorem dX12_readsCompared_78 : decode cX12_readsCompared 78 = .ok (.aload_n 0, 1) := dq_42 (kX12_readsCompared_2 14 rfl)
theorem dX12_readsCompared_79 : decode cX12_readsCompared 79 = .ok (.invokevirtual 505, 3) := dq_182 (kX12_readsCompared_2 15 rfl) (kX12_readsCompared_2 16 rfl) (kX12_readsCompared_2 17 rfl) rfl
theorem dX12_readsCompared_82 : decode cX12_readsCompared 82 = .ok (.ifCond .ne 5, 3) := dq_154 (kX12_readsCompared_2 18 rfl) (kX12_readsCompared_2 19 rfl) (kX12_readsCompared_2 20 rfl) (by decide)
theorem dX12_readsCompared_85 : decode cX12_readsCompared 85 = .ok (.iconst 0, 1) := dq_3 (kX12_readsCompared_2 21 rfl)
theorem dX12_readsCompared_86 : decode cX12_readsCompared 86 = .ok (.ireturn, 1) := dq_172 (kX12_readsCompared_2 22 rfl)
theorem dX12_readsCompared_87 : decode cX12_readsCompared 87 = .ok (.aload_n 0, 1) := dq_42 (kX12_readsCompared_2 23 rfl)
theorem dX12_readsCompared_88 : decode cX12_readsCompared 88 = .ok (.iload_n 1, 1) := dq_27 (kX12_readsCompared_2 24 rfl)
theorem dX12_readsCompared_89 : decode cX12_readsCompared 89 = .ok (.iconst 0, 1) := dq_3 (kX12_readsCompared_2 25 rfl)
theorem dX12_readsCompared_90 : decode cX12_readsCompared 90 = .ok (.invokevirtual 479, 3) := dq_182 (kX12_readsCompared_2 26 rfl) (kX12_readsCompared_2 27 rfl) (kX12_readsCompared_2 28 rfl) rfl
theorem dX12_readsCompared_93 : decode cX12_readsCompared 93 = .ok (.aload_n 0, 1) := dq_42 (kX12_readsCompared_2 29 rfl)
theorem dX12_readsCompared_94 : decode cX12_readsCompared 94 = .ok (.invokevirtual 508, 3) := dq_182 (kX12_readsCompared_2 30 rfl) (kX12_readsCompared_2 31 rfl) (kX12_readsCompared_3 0 rfl) rfl
theorem dX12_readsCompared_97 : decode cX12_readsCompared 97 = .ok (.iconst 1, 1) := dq_4 (kX12_readsCompared_3 1 rfl)
theorem dX12_readsCompared_98 : decode cX12_readsCompared 98 = .ok (.ireturn, 1) := dq_172 (kX12_readsCompared_3 2 rfl)

def bX12_readsCondition_0 : List UInt8 := [42, 3, 181, 1, 214, 42, 3, 181, 1, 217, 42, 182, 1, 193, 16, 40, 159, 0, 13, 42, 4, 42, 180, 1, 187, 182, 1, 200, 172, 42, 16, 13]
theorem kX12_readsCondition_0 (j : Nat) {b : UInt8} (hj : bX12_readsCondition_0[j]? = some b) : AtB cX12_readsCondition (0 + j) b := at_of32 (by decide +kernel) j hj
def bX12_readsCondition_1 : List UInt8 := [182, 1, 226, 154, 0, 5, 3, 172, 42, 182, 1, 193, 16, 33, 159, 0, 12, 42, 182, 1, 193, 16, 40, 160, 0, 28, 42, 42, 182, 1, 193, 16]
theorem kX12_readsCondition_1 (j : Nat) {b : UInt8} (hj : bX12_readsCondition_1[j]? = some b) : AtB cX12_readsCondition (32 + j) b := at_of32 (by decide +kernel) j hj
def bX12_readsCondition_2 : List UInt8 := [33, 160, 0, 8, 16, 10, 167, 0, 5, 16, 13, 182, 1, 226, 154, 255, 218, 3, 172, 42, 182, 1, 255, 154, 0, 5, 3, 172, 42, 182, 1, 193]
theorem kX12_readsCondition_2 (j : Nat) {b : UInt8} (hj : bX12_readsCondition_2[j]? = some b) : AtB cX12_readsCondition (64 + j) b := at_of32 (by decide +kernel) j hj
def bX12_readsCondition_3 : List UInt8 := [16, 41, 160, 0, 54, 42, 4, 182, 2, 2, 42, 42, 180, 1, 217, 4, 100, 181, 1, 217, 42, 42, 180, 1, 214, 4, 100, 181, 1, 214, 42, 42]
theorem kX12_readsCondition_3 (j : Nat) {b : UInt8} (hj : bX12_readsCondition_3[j]? = some b) : AtB cX12_readsCondition (96 + j) b := at_of32 (by decide +kernel) j hj
def bX12_readsCondition_4 : List UInt8 := [180, 1, 187, 4, 96, 181, 1, 187, 42, 180, 1, 217, 154, 0, 5, 4, 172, 42, 182, 1, 252, 167, 255, 199, 42, 182, 1, 193, 16, 38, 159, 0]
theorem kX12_readsCondition_4 (j : Nat) {b : UInt8} (hj : bX12_readsCondition_4[j]? = some b) : AtB cX12_readsCondition (128 + j) b := at_of32 (by decide +kernel) j hj
def bX12_readsCondition_5 : List UInt8 := [22, 42, 182, 1, 193, 16, 124, 159, 0, 13, 42, 4, 42, 180, 1, 187, 182, 1, 200, 172, 42, 42, 182, 1, 193, 16, 124, 160, 0, 7, 4, 167]
theorem kX12_readsCondition_5 (j : Nat) {b : UInt8} (hj : bX12_readsCondition_5[j]? = some b) : AtB cX12_readsCondition (160 + j) b := at_of32 (by decide +kernel) j hj
def bX12_readsCondition_6 : List UInt8 := [0, 4, 3, 182, 2, 2, 42, 42, 182, 1, 193, 16, 38, 160, 0, 8, 16, 11, 167, 0, 5, 16, 12, 182, 2, 5, 167, 255, 78]
theorem kX12_readsCondition_6 (j : Nat) {b : UInt8} (hj : bX12_readsCondition_6[j]? = some b) : AtB cX12_readsCondition (192 + j) b := at_of32 (by decide +kernel) j hj
theorem dX12_readsCondition_0 : decode cX12_readsCondition 0 = .ok (.aload_n 0, 1) := dq_42 (kX12_readsCondition_0 0 rfl)
theorem dX12_readsCondition_1 : decode cX12_readsCondition 1 = .ok (.iconst 0, 1) := dq_3 (kX12_readsCondition_0 1 rfl)
theorem dX12_readsCondition_2 : decode cX12_readsCondition 2 = .ok (.putfield 470, 3) := dq_181 (kX12_readsCondition_0 2 rfl) (kX12_readsCondition_0 3 rfl) (kX12_readsCondition_0 4 rfl) rfl
theorem dX12_readsCondition_5 : decode cX12_readsCondition 5 = .ok (.aload_n 0, 1) := dq_42 (kX12_readsCondition_0 5 rfl)
theorem dX12_readsCondition_6 : decode cX12_readsCondition 6 = .ok (.iconst 0, 1) := dq_3 (kX12_readsCondition_0 6 rfl)
theorem dX12_readsCondition_7 : decode cX12_readsCondition 7 = .ok (.putfield 473, 3) := dq_181 (kX12_readsCondition_0 7 rfl) (kX12_readsCondition_0 8 rfl) (kX12_readsCondition_0 9 rfl) rfl
theorem dX12_readsCondition_10 : decode cX12_readsCondition 10 = .ok (.aload_n 0, 1) := dq_42 (kX12_readsCondition_0 10 rfl)
theorem dX12_readsCondition_11 : decode cX12_readsCondition 11 = .ok (.invokevirtual 449, 3) := dq_182 (kX12_readsCondition_0 11 rfl) (kX12_readsCondition_0 12 rfl) (kX12_readsCondition_0 13 rfl) rfl
theorem dX12_readsCondition_14 : decode cX12_readsCondition 14 = .ok (.bipush 40, 2) := dq_16 (kX12_readsCondition_0 14 rfl) (kX12_readsCondition_0 15 rfl) (by decide)
theorem dX12_readsCondition_16 : decode cX12_readsCondition 16 = .ok (.if_icmp .eq 13, 3) := dq_159 (kX12_readsCondition_0 16 rfl) (kX12_readsCondition_0 17 rfl) (kX12_readsCondition_0 18 rfl) (by decide)
theorem dX12_readsCondition_19 : decode cX12_readsCondition 19 = .ok (.aload_n 0, 1) := dq_42 (kX12_readsCondition_0 19 rfl)
theorem dX12_readsCondition_20 : decode cX12_readsCondition 20 = .ok (.iconst 1, 1) := dq_4 (kX12_readsCondition_0 20 rfl)
theorem dX12_readsCondition_21 : decode cX12_readsCondition 21 = .ok (.aload_n 0, 1) := dq_42 (kX12_readsCondition_0 21 rfl)
theorem dX12_readsCondition_22 : decode cX12_readsCondition 22 = .ok (.getfield 443, 3) := dq_180 (kX12_readsCondition_0 22 rfl) (kX12_readsCondition_0 23 rfl) (kX12_readsCondition_0 24 rfl) rfl
theorem dX12_readsCondition_25 : decode cX12_readsCondition 25 = .ok (.invokevirtual 456, 3) := dq_182 (kX12_readsCondition_0 25 rfl) (kX12_readsCondition_0 26 rfl) (kX12_readsCondition_0 27 rfl) rfl
theorem dX12_readsCondition_28 : decode cX12_readsCondition 28 = .ok (.ireturn, 1) := dq_172 (kX12_readsCondition_0 28 rfl)
theorem dX12_readsCondition_29 : decode cX12_readsCondition 29 = .ok (.aload_n 0, 1) := dq_42 (kX12_readsCondition_0 29 rfl)
theorem dX12_readsCondition_30 : decode cX12_readsCondition 30 = .ok (.bipush 13, 2) := dq_16 (kX12_readsCondition_0 30 rfl) (kX12_readsCondition_0 31 rfl) (by decide)
theorem dX12_readsCondition_32 : decode cX12_readsCondition 32 = .ok (.invokevirtual 482, 3) := dq_182 (kX12_readsCondition_1 0 rfl) (kX12_readsCondition_1 1 rfl) (kX12_readsCondition_1 2 rfl) rfl
theorem dX12_readsCondition_35 : decode cX12_readsCondition 35 = .ok (.ifCond .ne 5, 3) := dq_154 (kX12_readsCondition_1 3 rfl) (kX12_readsCondition_1 4 rfl) (kX12_readsCondition_1 5 rfl) (by decide)
theorem dX12_readsCondition_38 : decode cX12_readsCondition 38 = .ok (.iconst 0, 1) := dq_3 (kX12_readsCondition_1 6 rfl)
theorem dX12_readsCondition_39 : decode cX12_readsCondition 39 = .ok (.ireturn, 1) := dq_172 (kX12_readsCondition_1 7 rfl)
theorem dX12_readsCondition_40 : decode cX12_readsCondition 40 = .ok (.aload_n 0, 1) := dq_42 (kX12_readsCondition_1 8 rfl)
theorem dX12_readsCondition_41 : decode cX12_readsCondition 41 = .ok (.invokevirtual 449, 3) := dq_182 (kX12_readsCondition_1 9 rfl) (kX12_readsCondition_1 10 rfl) (kX12_readsCondition_1 11 rfl) rfl
theorem dX12_readsCondition_44 : decode cX12_readsCondition 44 = .ok (.bipush 33, 2) := dq_16 (kX12_readsCondition_1 12 rfl) (kX12_readsCondition_1 13 rfl) (by decide)
theorem dX12_readsCondition_46 : decode cX12_readsCondition 46 = .ok (.if_icmp .eq 12, 3) := dq_159 (kX12_readsCondition_1 14 rfl) (kX12_readsCondition_1 15 rfl) (kX12_readsCondition_1 16 rfl) (by decide)
theorem dX12_readsCondition_49 : decode cX12_readsCondition 49 = .ok (.aload_n 0, 1) := dq_42 (kX12_readsCondition_1 17 rfl)
theorem dX12_readsCondition_50 : decode cX12_readsCondition 50 = .ok (.invokevirtual 449, 3) := dq_182 (kX12_readsCondition_1 18 rfl) (kX12_readsCondition_1 19 rfl) (kX12_readsCondition_1 20 rfl) rfl
theorem dX12_readsCondition_53 : decode cX12_readsCondition 53 = .ok (.bipush 40, 2) := dq_16 (kX12_readsCondition_1 21 rfl) (kX12_readsCondition_1 22 rfl) (by decide)
theorem dX12_readsCondition_55 : decode cX12_readsCondition 55 = .ok (.if_icmp .ne 28, 3) := dq_160 (kX12_readsCondition_1 23 rfl) (kX12_readsCondition_1 24 rfl) (kX12_readsCondition_1 25 rfl) (by decide)
theorem dX12_readsCondition_58 : decode cX12_readsCondition 58 = .ok (.aload_n 0, 1) := dq_42 (kX12_readsCondition_1 26 rfl)
theorem dX12_readsCondition_59 : decode cX12_readsCondition 59 = .ok (.aload_n 0, 1) := dq_42 (kX12_readsCondition_1 27 rfl)
theorem dX12_readsCondition_60 : decode cX12_readsCondition 60 = .ok (.invokevirtual 449, 3) := dq_182 (kX12_readsCondition_1 28 rfl) (kX12_readsCondition_1 29 rfl) (kX12_readsCondition_1 30 rfl) rfl
theorem dX12_readsCondition_63 : decode cX12_readsCondition 63 = .ok (.bipush 33, 2) := dq_16 (kX12_readsCondition_1 31 rfl) (kX12_readsCondition_2 0 rfl) (by decide)
theorem dX12_readsCondition_65 : decode cX12_readsCondition 65 = .ok (.if_icmp .ne 8, 3) := dq_160 (kX12_readsCondition_2 1 rfl) (kX12_readsCondition_2 2 rfl) (kX12_readsCondition_2 3 rfl) (by decide)
theorem dX12_readsCondition_68 : decode cX12_readsCondition 68 = .ok (.bipush 10, 2) := dq_16 (kX12_readsCondition_2 4 rfl) (kX12_readsCondition_2 5 rfl) (by decide)
theorem dX12_readsCondition_70 : decode cX12_readsCondition 70 = .ok (.goto 5, 3) := dq_167 (kX12_readsCondition_2 6 rfl) (kX12_readsCondition_2 7 rfl) (kX12_readsCondition_2 8 rfl) (by decide)
theorem dX12_readsCondition_73 : decode cX12_readsCondition 73 = .ok (.bipush 13, 2) := dq_16 (kX12_readsCondition_2 9 rfl) (kX12_readsCondition_2 10 rfl) (by decide)
theorem dX12_readsCondition_75 : decode cX12_readsCondition 75 = .ok (.invokevirtual 482, 3) := dq_182 (kX12_readsCondition_2 11 rfl) (kX12_readsCondition_2 12 rfl) (kX12_readsCondition_2 13 rfl) rfl
theorem dX12_readsCondition_78 : decode cX12_readsCondition 78 = .ok (.ifCond .ne (-38), 3) := dq_154 (kX12_readsCondition_2 14 rfl) (kX12_readsCondition_2 15 rfl) (kX12_readsCondition_2 16 rfl) (by decide)
theorem dX12_readsCondition_81 : decode cX12_readsCondition 81 = .ok (.iconst 0, 1) := dq_3 (kX12_readsCondition_2 17 rfl)
theorem dX12_readsCondition_82 : decode cX12_readsCondition 82 = .ok (.ireturn, 1) := dq_172 (kX12_readsCondition_2 18 rfl)
theorem dX12_readsCondition_83 : decode cX12_readsCondition 83 = .ok (.aload_n 0, 1) := dq_42 (kX12_readsCondition_2 19 rfl)
theorem dX12_readsCondition_84 : decode cX12_readsCondition 84 = .ok (.invokevirtual 511, 3) := dq_182 (kX12_readsCondition_2 20 rfl) (kX12_readsCondition_2 21 rfl) (kX12_readsCondition_2 22 rfl) rfl
theorem dX12_readsCondition_87 : decode cX12_readsCondition 87 = .ok (.ifCond .ne 5, 3) := dq_154 (kX12_readsCondition_2 23 rfl) (kX12_readsCondition_2 24 rfl) (kX12_readsCondition_2 25 rfl) (by decide)
theorem dX12_readsCondition_90 : decode cX12_readsCondition 90 = .ok (.iconst 0, 1) := dq_3 (kX12_readsCondition_2 26 rfl)
theorem dX12_readsCondition_91 : decode cX12_readsCondition 91 = .ok (.ireturn, 1) := dq_172 (kX12_readsCondition_2 27 rfl)
theorem dX12_readsCondition_92 : decode cX12_readsCondition 92 = .ok (.aload_n 0, 1) := dq_42 (kX12_readsCondition_2 28 rfl)
theorem dX12_readsCondition_93 : decode cX12_readsCondition 93 = .ok (.invokevirtual 449, 3) := dq_182 (kX12_readsCondition_2 29 rfl) (kX12_readsCondition_2 30 rfl) (kX12_readsCondition_2 31 rfl) rfl
theorem dX12_readsCondition_96 : decode cX12_readsCondition 96 = .ok (.bipush 41, 2) := dq_16 (kX12_readsCondition_3 0 rfl) (kX12_readsCondition_3 1 rfl) (by decide)
theorem dX12_readsCondition_98 : decode cX12_readsCondition 98 = .ok (.if_icmp .ne 54, 3) := dq_160 (kX12_readsCondition_3 2 rfl) (kX12_readsCondition_3 3 rfl) (kX12_readsCondition_3 4 rfl) (by decide)
theorem dX12_readsCondition_101 : decode cX12_readsCondition 101 = .ok (.aload_n 0, 1) := dq_42 (kX12_readsCondition_3 5 rfl)
theorem dX12_readsCondition_102 : decode cX12_readsCondition 102 = .ok (.iconst 1, 1) := dq_4 (kX12_readsCondition_3 6 rfl)
theorem dX12_readsCondition_103 : decode cX12_readsCondition 103 = .ok (.invokevirtual 514, 3) := dq_182 (kX12_readsCondition_3 7 rfl) (kX12_readsCondition_3 8 rfl) (kX12_readsCondition_3 9 rfl) rfl
theorem dX12_readsCondition_106 : decode cX12_readsCondition 106 = .ok (.aload_n 0, 1) := dq_42 (kX12_readsCondition_3 10 rfl)
theorem dX12_readsCondition_107 : decode cX12_readsCondition 107 = .ok (.aload_n 0, 1) := dq_42 (kX12_readsCondition_3 11 rfl)
theorem dX12_readsCondition_108 : decode cX12_readsCondition 108 = .ok (.getfield 473, 3) := dq_180 (kX12_readsCondition_3 12 rfl) (kX12_readsCondition_3 13 rfl) (kX12_readsCondition_3 14 rfl) rfl
theorem dX12_readsCondition_111 : decode cX12_readsCondition 111 = .ok (.iconst 1, 1) := dq_4 (kX12_readsCondition_3 15 rfl)
theorem dX12_readsCondition_112 : decode cX12_readsCondition 112 = .ok (.isub, 1) := dq_100 (kX12_readsCondition_3 16 rfl)
theorem dX12_readsCondition_113 : decode cX12_readsCondition 113 = .ok (.putfield 473, 3) := dq_181 (kX12_readsCondition_3 17 rfl) (kX12_readsCondition_3 18 rfl) (kX12_readsCondition_3 19 rfl) rfl
theorem dX12_readsCondition_116 : decode cX12_readsCondition 116 = .ok (.aload_n 0, 1) := dq_42 (kX12_readsCondition_3 20 rfl)
theorem dX12_readsCondition_117 : decode cX12_readsCondition 117 = .ok (.aload_n 0, 1) := dq_42 (kX12_readsCondition_3 21 rfl)
theorem dX12_readsCondition_118 : decode cX12_readsCondition 118 = .ok (.getfield 470, 3) := dq_180 (kX12_readsCondition_3 22 rfl) (kX12_readsCondition_3 23 rfl) (kX12_readsCondition_3 24 rfl) rfl
theorem dX12_readsCondition_121 : decode cX12_readsCondition 121 = .ok (.iconst 1, 1) := dq_4 (kX12_readsCondition_3 25 rfl)
theorem dX12_readsCondition_122 : decode cX12_readsCondition 122 = .ok (.isub, 1) := dq_100 (kX12_readsCondition_3 26 rfl)
theorem dX12_readsCondition_123 : decode cX12_readsCondition 123 = .ok (.putfield 470, 3) := dq_181 (kX12_readsCondition_3 27 rfl) (kX12_readsCondition_3 28 rfl) (kX12_readsCondition_3 29 rfl) rfl
theorem dX12_readsCondition_126 : decode cX12_readsCondition 126 = .ok (.aload_n 0, 1) := dq_42 (kX12_readsCondition_3 30 rfl)
theorem dX12_readsCondition_127 : decode cX12_readsCondition 127 = .ok (.aload_n 0, 1) := dq_42 (kX12_readsCondition_3 31 rfl)
theorem dX12_readsCondition_128 : decode cX12_readsCondition 128 = .ok (.getfield 443, 3) := dq_180 (kX12_readsCondition_4 0 rfl) (kX12_readsCondition_4 1 rfl) (kX12_readsCondition_4 2 rfl) rfl
theorem dX12_readsCondition_131 : decode cX12_readsCondition 131 = .ok (.iconst 1, 1) := dq_4 (kX12_readsCondition_4 3 rfl)
theorem dX12_readsCondition_132 : decode cX12_readsCondition 132 = .ok (.iadd, 1) := dq_96 (kX12_readsCondition_4 4 rfl)
theorem dX12_readsCondition_133 : decode cX12_readsCondition 133 = .ok (.putfield 443, 3) := dq_181 (kX12_readsCondition_4 5 rfl) (kX12_readsCondition_4 6 rfl) (kX12_readsCondition_4 7 rfl) rfl
theorem dX12_readsCondition_136 : decode cX12_readsCondition 136 = .ok (.aload_n 0, 1) := dq_42 (kX12_readsCondition_4 8 rfl)
theorem dX12_readsCondition_137 : decode cX12_readsCondition 137 = .ok (.getfield 473, 3) := dq_180 (kX12_readsCondition_4 9 rfl) (kX12_readsCondition_4 10 rfl) (kX12_readsCondition_4 11 rfl) rfl
theorem dX12_readsCondition_140 : decode cX12_readsCondition 140 = .ok (.ifCond .ne 5, 3) := dq_154 (kX12_readsCondition_4 12 rfl) (kX12_readsCondition_4 13 rfl) (kX12_readsCondition_4 14 rfl) (by decide)
theorem dX12_readsCondition_143 : decode cX12_readsCondition 143 = .ok (.iconst 1, 1) := dq_4 (kX12_readsCondition_4 15 rfl)
theorem dX12_readsCondition_144 : decode cX12_readsCondition 144 = .ok (.ireturn, 1) := dq_172 (kX12_readsCondition_4 16 rfl)
theorem dX12_readsCondition_145 : decode cX12_readsCondition 145 = .ok (.aload_n 0, 1) := dq_42 (kX12_readsCondition_4 17 rfl)
theorem dX12_readsCondition_146 : decode cX12_readsCondition 146 = .ok (.invokevirtual 508, 3) := dq_182 (kX12_readsCondition_4 18 rfl) (kX12_readsCondition_4 19 rfl) (kX12_readsCondition_4 20 rfl) rfl
theorem dX12_readsCondition_149 : decode cX12_readsCondition 149 = .ok (.goto (-57), 3) := dq_167 (kX12_readsCondition_4 21 rfl) (kX12_readsCondition_4 22 rfl) (kX12_readsCondition_4 23 rfl) (by decide)
theorem dX12_readsCondition_152 : decode cX12_readsCondition 152 = .ok (.aload_n 0, 1) := dq_42 (kX12_readsCondition_4 24 rfl)
theorem dX12_readsCondition_153 : decode cX12_readsCondition 153 = .ok (.invokevirtual 449, 3) := dq_182 (kX12_readsCondition_4 25 rfl) (kX12_readsCondition_4 26 rfl) (kX12_readsCondition_4 27 rfl) rfl
theorem dX12_readsCondition_156 : decode cX12_readsCondition 156 = .ok (.bipush 38, 2) := dq_16 (kX12_readsCondition_4 28 rfl) (kX12_readsCondition_4 29 rfl) (by decide)
theorem dX12_readsCondition_158 : decode cX12_readsCondition 158 = .ok (.if_icmp .eq 22, 3) := dq_159 (kX12_readsCondition_4 30 rfl) (kX12_readsCondition_4 31 rfl) (kX12_readsCondition_5 0 rfl) (by decide)
theorem dX12_readsCondition_161 : decode cX12_readsCondition 161 = .ok (.aload_n 0, 1) := dq_42 (kX12_readsCondition_5 1 rfl)
theorem dX12_readsCondition_162 : decode cX12_readsCondition 162 = .ok (.invokevirtual 449, 3) := dq_182 (kX12_readsCondition_5 2 rfl) (kX12_readsCondition_5 3 rfl) (kX12_readsCondition_5 4 rfl) rfl
theorem dX12_readsCondition_165 : decode cX12_readsCondition 165 = .ok (.bipush 124, 2) := dq_16 (kX12_readsCondition_5 5 rfl) (kX12_readsCondition_5 6 rfl) (by decide)
theorem dX12_readsCondition_167 : decode cX12_readsCondition 167 = .ok (.if_icmp .eq 13, 3) := dq_159 (kX12_readsCondition_5 7 rfl) (kX12_readsCondition_5 8 rfl) (kX12_readsCondition_5 9 rfl) (by decide)
theorem dX12_readsCondition_170 : decode cX12_readsCondition 170 = .ok (.aload_n 0, 1) := dq_42 (kX12_readsCondition_5 10 rfl)
theorem dX12_readsCondition_171 : decode cX12_readsCondition 171 = .ok (.iconst 1, 1) := dq_4 (kX12_readsCondition_5 11 rfl)
theorem dX12_readsCondition_172 : decode cX12_readsCondition 172 = .ok (.aload_n 0, 1) := dq_42 (kX12_readsCondition_5 12 rfl)
theorem dX12_readsCondition_173 : decode cX12_readsCondition 173 = .ok (.getfield 443, 3) := dq_180 (kX12_readsCondition_5 13 rfl) (kX12_readsCondition_5 14 rfl) (kX12_readsCondition_5 15 rfl) rfl
theorem dX12_readsCondition_176 : decode cX12_readsCondition 176 = .ok (.invokevirtual 456, 3) := dq_182 (kX12_readsCondition_5 16 rfl) (kX12_readsCondition_5 17 rfl) (kX12_readsCondition_5 18 rfl) rfl
theorem dX12_readsCondition_179 : decode cX12_readsCondition 179 = .ok (.ireturn, 1) := dq_172 (kX12_readsCondition_5 19 rfl)
theorem dX12_readsCondition_180 : decode cX12_readsCondition 180 = .ok (.aload_n 0, 1) := dq_42 (kX12_readsCondition_5 20 rfl)
theorem dX12_readsCondition_181 : decode cX12_readsCondition 181 = .ok (.aload_n 0, 1) := dq_42 (kX12_readsCondition_5 21 rfl)
theorem dX12_readsCondition_182 : decode cX12_readsCondition 182 = .ok (.invokevirtual 449, 3) := dq_182 (kX12_readsCondition_5 22 rfl) (kX12_readsCondition_5 23 rfl) (kX12_readsCondition_5 24 rfl) rfl
theorem dX12_readsCondition_185 : decode cX12_readsCondition 185 = .ok (.bipush 124, 2) := dq_16 (kX12_readsCondition_5 25 rfl) (kX12_readsCondition_5 26 rfl) (by decide)
theorem dX12_readsCondition_187 : decode cX12_readsCondition 187 = .ok (.if_icmp .ne 7, 3) := dq_160 (kX12_readsCondition_5 27 rfl) (kX12_readsCondition_5 28 rfl) (kX12_readsCondition_5 29 rfl) (by decide)
theorem dX12_readsCondition_190 : decode cX12_readsCondition 190 = .ok (.iconst 1, 1) := dq_4 (kX12_readsCondition_5 30 rfl)
theorem dX12_readsCondition_191 : decode cX12_readsCondition 191 = .ok (.goto 4, 3) := dq_167 (kX12_readsCondition_5 31 rfl) (kX12_readsCondition_6 0 rfl) (kX12_readsCondition_6 1 rfl) (by decide)
theorem dX12_readsCondition_194 : decode cX12_readsCondition 194 = .ok (.iconst 0, 1) := dq_3 (kX12_readsCondition_6 2 rfl)
theorem dX12_readsCondition_195 : decode cX12_readsCondition 195 = .ok (.invokevirtual 514, 3) := dq_182 (kX12_readsCondition_6 3 rfl) (kX12_readsCondition_6 4 rfl) (kX12_readsCondition_6 5 rfl) rfl
theorem dX12_readsCondition_198 : decode cX12_readsCondition 198 = .ok (.aload_n 0, 1) := dq_42 (kX12_readsCondition_6 6 rfl)
theorem dX12_readsCondition_199 : decode cX12_readsCondition 199 = .ok (.aload_n 0, 1) := dq_42 (kX12_readsCondition_6 7 rfl)
theorem dX12_readsCondition_200 : decode cX12_readsCondition 200 = .ok (.invokevirtual 449, 3) := dq_182 (kX12_readsCondition_6 8 rfl) (kX12_readsCondition_6 9 rfl) (kX12_readsCondition_6 10 rfl) rfl
theorem dX12_readsCondition_203 : decode cX12_readsCondition 203 = .ok (.bipush 38, 2) := dq_16 (kX12_readsCondition_6 11 rfl) (kX12_readsCondition_6 12 rfl) (by decide)
theorem dX12_readsCondition_205 : decode cX12_readsCondition 205 = .ok (.if_icmp .ne 8, 3) := dq_160 (kX12_readsCondition_6 13 rfl) (kX12_readsCondition_6 14 rfl) (kX12_readsCondition_6 15 rfl) (by decide)
theorem dX12_readsCondition_208 : decode cX12_readsCondition 208 = .ok (.bipush 11, 2) := dq_16 (kX12_readsCondition_6 16 rfl) (kX12_readsCondition_6 17 rfl) (by decide)
theorem dX12_readsCondition_210 : decode cX12_readsCondition 210 = .ok (.goto 5, 3) := dq_167 (kX12_readsCondition_6 18 rfl) (kX12_readsCondition_6 19 rfl) (kX12_readsCondition_6 20 rfl) (by decide)
theorem dX12_readsCondition_213 : decode cX12_readsCondition 213 = .ok (.bipush 12, 2) := dq_16 (kX12_readsCondition_6 21 rfl) (kX12_readsCondition_6 22 rfl) (by decide)
theorem dX12_readsCondition_215 : decode cX12_readsCondition 215 = .ok (.invokevirtual 517, 3) := dq_182 (kX12_readsCondition_6 23 rfl) (kX12_readsCondition_6 24 rfl) (kX12_readsCondition_6 25 rfl) rfl
theorem dX12_readsCondition_218 : decode cX12_readsCondition 218 = .ok (.goto (-178), 3) := dq_167 (kX12_readsCondition_6 26 rfl) (kX12_readsCondition_6 27 rfl) (kX12_readsCondition_6 28 rfl) (by decide)

def bX12_isAsking_0 : List UInt8 := [26, 16, 102, 159, 0, 27, 26, 16, 108, 159, 0, 21, 26, 16, 110, 159, 0, 15, 26, 16, 115, 159, 0, 9, 26, 16, 99, 160, 0, 7, 4, 167]
theorem kX12_isAsking_0 (j : Nat) {b : UInt8} (hj : bX12_isAsking_0[j]? = some b) : AtB cX12_isAsking (0 + j) b := at_of32 (by decide +kernel) j hj
def bX12_isAsking_1 : List UInt8 := [0, 4, 3, 172]
theorem kX12_isAsking_1 (j : Nat) {b : UInt8} (hj : bX12_isAsking_1[j]? = some b) : AtB cX12_isAsking (32 + j) b := at_of32 (by decide +kernel) j hj
theorem dX12_isAsking_0 : decode cX12_isAsking 0 = .ok (.iload_n 0, 1) := dq_26 (kX12_isAsking_0 0 rfl)
theorem dX12_isAsking_1 : decode cX12_isAsking 1 = .ok (.bipush 102, 2) := dq_16 (kX12_isAsking_0 1 rfl) (kX12_isAsking_0 2 rfl) (by decide)
theorem dX12_isAsking_3 : decode cX12_isAsking 3 = .ok (.if_icmp .eq 27, 3) := dq_159 (kX12_isAsking_0 3 rfl) (kX12_isAsking_0 4 rfl) (kX12_isAsking_0 5 rfl) (by decide)
theorem dX12_isAsking_6 : decode cX12_isAsking 6 = .ok (.iload_n 0, 1) := dq_26 (kX12_isAsking_0 6 rfl)
theorem dX12_isAsking_7 : decode cX12_isAsking 7 = .ok (.bipush 108, 2) := dq_16 (kX12_isAsking_0 7 rfl) (kX12_isAsking_0 8 rfl) (by decide)
theorem dX12_isAsking_9 : decode cX12_isAsking 9 = .ok (.if_icmp .eq 21, 3) := dq_159 (kX12_isAsking_0 9 rfl) (kX12_isAsking_0 10 rfl) (kX12_isAsking_0 11 rfl) (by decide)
theorem dX12_isAsking_12 : decode cX12_isAsking 12 = .ok (.iload_n 0, 1) := dq_26 (kX12_isAsking_0 12 rfl)
theorem dX12_isAsking_13 : decode cX12_isAsking 13 = .ok (.bipush 110, 2) := dq_16 (kX12_isAsking_0 13 rfl) (kX12_isAsking_0 14 rfl) (by decide)
theorem dX12_isAsking_15 : decode cX12_isAsking 15 = .ok (.if_icmp .eq 15, 3) := dq_159 (kX12_isAsking_0 15 rfl) (kX12_isAsking_0 16 rfl) (kX12_isAsking_0 17 rfl) (by decide)
theorem dX12_isAsking_18 : decode cX12_isAsking 18 = .ok (.iload_n 0, 1) := dq_26 (kX12_isAsking_0 18 rfl)
theorem dX12_isAsking_19 : decode cX12_isAsking 19 = .ok (.bipush 115, 2) := dq_16 (kX12_isAsking_0 19 rfl) (kX12_isAsking_0 20 rfl) (by decide)
theorem dX12_isAsking_21 : decode cX12_isAsking 21 = .ok (.if_icmp .eq 9, 3) := dq_159 (kX12_isAsking_0 21 rfl) (kX12_isAsking_0 22 rfl) (kX12_isAsking_0 23 rfl) (by decide)
theorem dX12_isAsking_24 : decode cX12_isAsking 24 = .ok (.iload_n 0, 1) := dq_26 (kX12_isAsking_0 24 rfl)
theorem dX12_isAsking_25 : decode cX12_isAsking 25 = .ok (.bipush 99, 2) := dq_16 (kX12_isAsking_0 25 rfl) (kX12_isAsking_0 26 rfl) (by decide)
theorem dX12_isAsking_27 : decode cX12_isAsking 27 = .ok (.if_icmp .ne 7, 3) := dq_160 (kX12_isAsking_0 27 rfl) (kX12_isAsking_0 28 rfl) (kX12_isAsking_0 29 rfl) (by decide)
theorem dX12_isAsking_30 : decode cX12_isAsking 30 = .ok (.iconst 1, 1) := dq_4 (kX12_isAsking_0 30 rfl)
theorem dX12_isAsking_31 : decode cX12_isAsking 31 = .ok (.goto 4, 3) := dq_167 (kX12_isAsking_0 31 rfl) (kX12_isAsking_1 0 rfl) (kX12_isAsking_1 1 rfl) (by decide)
theorem dX12_isAsking_34 : decode cX12_isAsking 34 = .ok (.iconst 0, 1) := dq_3 (kX12_isAsking_1 2 rfl)
theorem dX12_isAsking_35 : decode cX12_isAsking 35 = .ok (.ireturn, 1) := dq_172 (kX12_isAsking_1 3 rfl)

def bX12_isLetter_0 : List UInt8 := [26, 184, 2, 8, 154, 0, 39, 26, 16, 122, 159, 0, 33, 26, 16, 97, 159, 0, 27, 26, 16, 113, 159, 0, 21, 26, 16, 107, 159, 0, 15, 26]
theorem kX12_isLetter_0 (j : Nat) {b : UInt8} (hj : bX12_isLetter_0[j]? = some b) : AtB cX12_isLetter (0 + j) b := at_of32 (by decide +kernel) j hj
def bX12_isLetter_1 : List UInt8 := [16, 103, 159, 0, 9, 26, 16, 120, 160, 0, 7, 4, 167, 0, 4, 3, 172]
theorem kX12_isLetter_1 (j : Nat) {b : UInt8} (hj : bX12_isLetter_1[j]? = some b) : AtB cX12_isLetter (32 + j) b := at_of32 (by decide +kernel) j hj
theorem dX12_isLetter_0 : decode cX12_isLetter 0 = .ok (.iload_n 0, 1) := dq_26 (kX12_isLetter_0 0 rfl)
theorem dX12_isLetter_1 : decode cX12_isLetter 1 = .ok (.invokestatic 520, 3) := dq_184 (kX12_isLetter_0 1 rfl) (kX12_isLetter_0 2 rfl) (kX12_isLetter_0 3 rfl) rfl
theorem dX12_isLetter_4 : decode cX12_isLetter 4 = .ok (.ifCond .ne 39, 3) := dq_154 (kX12_isLetter_0 4 rfl) (kX12_isLetter_0 5 rfl) (kX12_isLetter_0 6 rfl) (by decide)
theorem dX12_isLetter_7 : decode cX12_isLetter 7 = .ok (.iload_n 0, 1) := dq_26 (kX12_isLetter_0 7 rfl)
theorem dX12_isLetter_8 : decode cX12_isLetter 8 = .ok (.bipush 122, 2) := dq_16 (kX12_isLetter_0 8 rfl) (kX12_isLetter_0 9 rfl) (by decide)
theorem dX12_isLetter_10 : decode cX12_isLetter 10 = .ok (.if_icmp .eq 33, 3) := dq_159 (kX12_isLetter_0 10 rfl) (kX12_isLetter_0 11 rfl) (kX12_isLetter_0 12 rfl) (by decide)
theorem dX12_isLetter_13 : decode cX12_isLetter 13 = .ok (.iload_n 0, 1) := dq_26 (kX12_isLetter_0 13 rfl)
theorem dX12_isLetter_14 : decode cX12_isLetter 14 = .ok (.bipush 97, 2) := dq_16 (kX12_isLetter_0 14 rfl) (kX12_isLetter_0 15 rfl) (by decide)
theorem dX12_isLetter_16 : decode cX12_isLetter 16 = .ok (.if_icmp .eq 27, 3) := dq_159 (kX12_isLetter_0 16 rfl) (kX12_isLetter_0 17 rfl) (kX12_isLetter_0 18 rfl) (by decide)
theorem dX12_isLetter_19 : decode cX12_isLetter 19 = .ok (.iload_n 0, 1) := dq_26 (kX12_isLetter_0 19 rfl)
theorem dX12_isLetter_20 : decode cX12_isLetter 20 = .ok (.bipush 113, 2) := dq_16 (kX12_isLetter_0 20 rfl) (kX12_isLetter_0 21 rfl) (by decide)
theorem dX12_isLetter_22 : decode cX12_isLetter 22 = .ok (.if_icmp .eq 21, 3) := dq_159 (kX12_isLetter_0 22 rfl) (kX12_isLetter_0 23 rfl) (kX12_isLetter_0 24 rfl) (by decide)
theorem dX12_isLetter_25 : decode cX12_isLetter 25 = .ok (.iload_n 0, 1) := dq_26 (kX12_isLetter_0 25 rfl)
theorem dX12_isLetter_26 : decode cX12_isLetter 26 = .ok (.bipush 107, 2) := dq_16 (kX12_isLetter_0 26 rfl) (kX12_isLetter_0 27 rfl) (by decide)
theorem dX12_isLetter_28 : decode cX12_isLetter 28 = .ok (.if_icmp .eq 15, 3) := dq_159 (kX12_isLetter_0 28 rfl) (kX12_isLetter_0 29 rfl) (kX12_isLetter_0 30 rfl) (by decide)
theorem dX12_isLetter_31 : decode cX12_isLetter 31 = .ok (.iload_n 0, 1) := dq_26 (kX12_isLetter_0 31 rfl)
theorem dX12_isLetter_32 : decode cX12_isLetter 32 = .ok (.bipush 103, 2) := dq_16 (kX12_isLetter_1 0 rfl) (kX12_isLetter_1 1 rfl) (by decide)
theorem dX12_isLetter_34 : decode cX12_isLetter 34 = .ok (.if_icmp .eq 9, 3) := dq_159 (kX12_isLetter_1 2 rfl) (kX12_isLetter_1 3 rfl) (kX12_isLetter_1 4 rfl) (by decide)
theorem dX12_isLetter_37 : decode cX12_isLetter 37 = .ok (.iload_n 0, 1) := dq_26 (kX12_isLetter_1 5 rfl)
theorem dX12_isLetter_38 : decode cX12_isLetter 38 = .ok (.bipush 120, 2) := dq_16 (kX12_isLetter_1 6 rfl) (kX12_isLetter_1 7 rfl) (by decide)
theorem dX12_isLetter_40 : decode cX12_isLetter 40 = .ok (.if_icmp .ne 7, 3) := dq_160 (kX12_isLetter_1 8 rfl) (kX12_isLetter_1 9 rfl) (kX12_isLetter_1 10 rfl) (by decide)
theorem dX12_isLetter_43 : decode cX12_isLetter 43 = .ok (.iconst 1, 1) := dq_4 (kX12_isLetter_1 11 rfl)
theorem dX12_isLetter_44 : decode cX12_isLetter 44 = .ok (.goto 4, 3) := dq_167 (kX12_isLetter_1 12 rfl) (kX12_isLetter_1 13 rfl) (kX12_isLetter_1 14 rfl) (by decide)
theorem dX12_isLetter_47 : decode cX12_isLetter 47 = .ok (.iconst 0, 1) := dq_3 (kX12_isLetter_1 15 rfl)
theorem dX12_isLetter_48 : decode cX12_isLetter 48 = .ok (.ireturn, 1) := dq_172 (kX12_isLetter_1 16 rfl)

def bX12_readsClause_0 : List UInt8 := [42, 182, 1, 193, 60, 27, 184, 2, 11, 154, 0, 13, 42, 4, 42, 180, 1, 187, 182, 1, 200, 172, 42, 180, 2, 14, 16, 12, 160, 0, 13, 42]
theorem kX12_readsClause_0 (j : Nat) {b : UInt8} (hj : bX12_readsClause_0[j]? = some b) : AtB cX12_readsClause (0 + j) b := at_of32 (by decide +kernel) j hj
def bX12_readsClause_1 : List UInt8 := [7, 42, 180, 1, 187, 182, 1, 200, 172, 42, 42, 180, 1, 187, 4, 96, 181, 1, 187, 42, 180, 2, 14, 61, 42, 180, 0, 94, 28, 27, 79, 42]
theorem kX12_readsClause_1 (j : Nat) {b : UInt8} (hj : bX12_readsClause_1[j]? = some b) : AtB cX12_readsClause (32 + j) b := at_of32 (by decide +kernel) j hj
def bX12_readsClause_2 : List UInt8 := [180, 0, 103, 28, 3, 79, 42, 180, 0, 106, 28, 3, 79, 42, 180, 0, 109, 28, 3, 79, 42, 180, 0, 97, 28, 42, 180, 1, 210, 79, 27, 184]
theorem kX12_readsClause_2 (j : Nat) {b : UInt8} (hj : bX12_readsClause_2[j]? = some b) : AtB cX12_readsClause (64 + j) b := at_of32 (by decide +kernel) j hj
def bX12_readsClause_3 : List UInt8 := [2, 8, 153, 0, 12, 42, 182, 2, 17, 154, 0, 5, 3, 172, 42, 180, 0, 100, 28, 42, 180, 1, 210, 79, 27, 16, 107, 159, 0, 9, 27, 16]
theorem kX12_readsClause_3 (j : Nat) {b : UInt8} (hj : bX12_readsClause_3[j]? = some b) : AtB cX12_readsClause (96 + j) b := at_of32 (by decide +kernel) j hj
def bX12_readsClause_4 : List UInt8 := [120, 160, 0, 91, 42, 27, 16, 107, 160, 0, 7, 6, 167, 0, 5, 16, 19, 182, 1, 230, 154, 0, 5, 3, 172, 42, 180, 0, 106, 28, 42, 180]
theorem kX12_readsClause_4 (j : Nat) {b : UInt8} (hj : bX12_readsClause_4[j]? = some b) : AtB cX12_readsClause (128 + j) b := at_of32 (by decide +kernel) j hj
def bX12_readsClause_5 : List UInt8 := [1, 203, 79, 42, 16, 46, 182, 2, 20, 153, 0, 22, 42, 27, 16, 107, 160, 0, 7, 6, 167, 0, 5, 16, 11, 182, 1, 230, 154, 0, 5, 3]
theorem kX12_readsClause_5 (j : Nat) {b : UInt8} (hj : bX12_readsClause_5[j]? = some b) : AtB cX12_readsClause (160 + j) b := at_of32 (by decide +kernel) j hj
def bX12_readsClause_6 : List UInt8 := [172, 42, 180, 0, 109, 28, 42, 180, 1, 203, 79, 27, 16, 107, 160, 0, 14, 42, 16, 61, 182, 2, 20, 154, 0, 5, 3, 172, 27, 16, 110, 159]
theorem kX12_readsClause_6 (j : Nat) {b : UInt8} (hj : bX12_readsClause_6[j]? = some b) : AtB cX12_readsClause (192 + j) b := at_of32 (by decide +kernel) j hj
def bX12_readsClause_7 : List UInt8 := [0, 33, 27, 16, 115, 159, 0, 27, 27, 16, 97, 159, 0, 21, 27, 16, 113, 159, 0, 15, 27, 16, 107, 159, 0, 9, 27, 16, 103, 160, 0, 25]
theorem kX12_readsClause_7 (j : Nat) {b : UInt8} (hj : bX12_readsClause_7[j]? = some b) : AtB cX12_readsClause (224 + j) b := at_of32 (by decide +kernel) j hj
def bX12_readsClause_8 : List UInt8 := [42, 19, 1, 229, 182, 1, 230, 154, 0, 5, 3, 172, 42, 180, 0, 103, 28, 42, 180, 1, 203, 79, 42, 42, 180, 2, 14, 4, 96, 181, 2, 14]
theorem kX12_readsClause_8 (j : Nat) {b : UInt8} (hj : bX12_readsClause_8[j]? = some b) : AtB cX12_readsClause (256 + j) b := at_of32 (by decide +kernel) j hj
def bX12_readsClause_9 : List UInt8 := [4, 172]
theorem kX12_readsClause_9 (j : Nat) {b : UInt8} (hj : bX12_readsClause_9[j]? = some b) : AtB cX12_readsClause (288 + j) b := at_of32 (by decide +kernel) j hj
theorem dX12_readsClause_0 : decode cX12_readsClause 0 = .ok (.aload_n 0, 1) := dq_42 (kX12_readsClause_0 0 rfl)
theorem dX12_readsClause_1 : decode cX12_readsClause 1 = .ok (.invokevirtual 449, 3) := dq_182 (kX12_readsClause_0 1 rfl) (kX12_readsClause_0 2 rfl) (kX12_readsClause_0 3 rfl) rfl
theorem dX12_readsClause_4 : decode cX12_readsClause 4 = .ok (.istore_n 1, 1) := dq_60 (kX12_readsClause_0 4 rfl)
theorem dX12_readsClause_5 : decode cX12_readsClause 5 = .ok (.iload_n 1, 1) := dq_27 (kX12_readsClause_0 5 rfl)
theorem dX12_readsClause_6 : decode cX12_readsClause 6 = .ok (.invokestatic 523, 3) := dq_184 (kX12_readsClause_0 6 rfl) (kX12_readsClause_0 7 rfl) (kX12_readsClause_0 8 rfl) rfl
theorem dX12_readsClause_9 : decode cX12_readsClause 9 = .ok (.ifCond .ne 13, 3) := dq_154 (kX12_readsClause_0 9 rfl) (kX12_readsClause_0 10 rfl) (kX12_readsClause_0 11 rfl) (by decide)
theorem dX12_readsClause_12 : decode cX12_readsClause 12 = .ok (.aload_n 0, 1) := dq_42 (kX12_readsClause_0 12 rfl)
theorem dX12_readsClause_13 : decode cX12_readsClause 13 = .ok (.iconst 1, 1) := dq_4 (kX12_readsClause_0 13 rfl)
theorem dX12_readsClause_14 : decode cX12_readsClause 14 = .ok (.aload_n 0, 1) := dq_42 (kX12_readsClause_0 14 rfl)
theorem dX12_readsClause_15 : decode cX12_readsClause 15 = .ok (.getfield 443, 3) := dq_180 (kX12_readsClause_0 15 rfl) (kX12_readsClause_0 16 rfl) (kX12_readsClause_0 17 rfl) rfl
theorem dX12_readsClause_18 : decode cX12_readsClause 18 = .ok (.invokevirtual 456, 3) := dq_182 (kX12_readsClause_0 18 rfl) (kX12_readsClause_0 19 rfl) (kX12_readsClause_0 20 rfl) rfl
theorem dX12_readsClause_21 : decode cX12_readsClause 21 = .ok (.ireturn, 1) := dq_172 (kX12_readsClause_0 21 rfl)
theorem dX12_readsClause_22 : decode cX12_readsClause 22 = .ok (.aload_n 0, 1) := dq_42 (kX12_readsClause_0 22 rfl)
theorem dX12_readsClause_23 : decode cX12_readsClause 23 = .ok (.getfield 526, 3) := dq_180 (kX12_readsClause_0 23 rfl) (kX12_readsClause_0 24 rfl) (kX12_readsClause_0 25 rfl) rfl
theorem dX12_readsClause_26 : decode cX12_readsClause 26 = .ok (.bipush 12, 2) := dq_16 (kX12_readsClause_0 26 rfl) (kX12_readsClause_0 27 rfl) (by decide)
theorem dX12_readsClause_28 : decode cX12_readsClause 28 = .ok (.if_icmp .ne 13, 3) := dq_160 (kX12_readsClause_0 28 rfl) (kX12_readsClause_0 29 rfl) (kX12_readsClause_0 30 rfl) (by decide)
theorem dX12_readsClause_31 : decode cX12_readsClause 31 = .ok (.aload_n 0, 1) := dq_42 (kX12_readsClause_0 31 rfl)
theorem dX12_readsClause_32 : decode cX12_readsClause 32 = .ok (.iconst 4, 1) := dq_7 (kX12_readsClause_1 0 rfl)
theorem dX12_readsClause_33 : decode cX12_readsClause 33 = .ok (.aload_n 0, 1) := dq_42 (kX12_readsClause_1 1 rfl)
theorem dX12_readsClause_34 : decode cX12_readsClause 34 = .ok (.getfield 443, 3) := dq_180 (kX12_readsClause_1 2 rfl) (kX12_readsClause_1 3 rfl) (kX12_readsClause_1 4 rfl) rfl
theorem dX12_readsClause_37 : decode cX12_readsClause 37 = .ok (.invokevirtual 456, 3) := dq_182 (kX12_readsClause_1 5 rfl) (kX12_readsClause_1 6 rfl) (kX12_readsClause_1 7 rfl) rfl
theorem dX12_readsClause_40 : decode cX12_readsClause 40 = .ok (.ireturn, 1) := dq_172 (kX12_readsClause_1 8 rfl)
theorem dX12_readsClause_41 : decode cX12_readsClause 41 = .ok (.aload_n 0, 1) := dq_42 (kX12_readsClause_1 9 rfl)
theorem dX12_readsClause_42 : decode cX12_readsClause 42 = .ok (.aload_n 0, 1) := dq_42 (kX12_readsClause_1 10 rfl)
theorem dX12_readsClause_43 : decode cX12_readsClause 43 = .ok (.getfield 443, 3) := dq_180 (kX12_readsClause_1 11 rfl) (kX12_readsClause_1 12 rfl) (kX12_readsClause_1 13 rfl) rfl
theorem dX12_readsClause_46 : decode cX12_readsClause 46 = .ok (.iconst 1, 1) := dq_4 (kX12_readsClause_1 14 rfl)
theorem dX12_readsClause_47 : decode cX12_readsClause 47 = .ok (.iadd, 1) := dq_96 (kX12_readsClause_1 15 rfl)
theorem dX12_readsClause_48 : decode cX12_readsClause 48 = .ok (.putfield 443, 3) := dq_181 (kX12_readsClause_1 16 rfl) (kX12_readsClause_1 17 rfl) (kX12_readsClause_1 18 rfl) rfl
theorem dX12_readsClause_51 : decode cX12_readsClause 51 = .ok (.aload_n 0, 1) := dq_42 (kX12_readsClause_1 19 rfl)
theorem dX12_readsClause_52 : decode cX12_readsClause 52 = .ok (.getfield 526, 3) := dq_180 (kX12_readsClause_1 20 rfl) (kX12_readsClause_1 21 rfl) (kX12_readsClause_1 22 rfl) rfl
theorem dX12_readsClause_55 : decode cX12_readsClause 55 = .ok (.istore_n 2, 1) := dq_61 (kX12_readsClause_1 23 rfl)
theorem dX12_readsClause_56 : decode cX12_readsClause 56 = .ok (.aload_n 0, 1) := dq_42 (kX12_readsClause_1 24 rfl)
theorem dX12_readsClause_57 : decode cX12_readsClause 57 = .ok (.getfield 94, 3) := dq_180 (kX12_readsClause_1 25 rfl) (kX12_readsClause_1 26 rfl) (kX12_readsClause_1 27 rfl) rfl
theorem dX12_readsClause_60 : decode cX12_readsClause 60 = .ok (.iload_n 2, 1) := dq_28 (kX12_readsClause_1 28 rfl)
theorem dX12_readsClause_61 : decode cX12_readsClause 61 = .ok (.iload_n 1, 1) := dq_27 (kX12_readsClause_1 29 rfl)
theorem dX12_readsClause_62 : decode cX12_readsClause 62 = .ok (.iastore, 1) := dq_79 (kX12_readsClause_1 30 rfl)
theorem dX12_readsClause_63 : decode cX12_readsClause 63 = .ok (.aload_n 0, 1) := dq_42 (kX12_readsClause_1 31 rfl)
theorem dX12_readsClause_64 : decode cX12_readsClause 64 = .ok (.getfield 103, 3) := dq_180 (kX12_readsClause_2 0 rfl) (kX12_readsClause_2 1 rfl) (kX12_readsClause_2 2 rfl) rfl
theorem dX12_readsClause_67 : decode cX12_readsClause 67 = .ok (.iload_n 2, 1) := dq_28 (kX12_readsClause_2 3 rfl)
theorem dX12_readsClause_68 : decode cX12_readsClause 68 = .ok (.iconst 0, 1) := dq_3 (kX12_readsClause_2 4 rfl)
theorem dX12_readsClause_69 : decode cX12_readsClause 69 = .ok (.iastore, 1) := dq_79 (kX12_readsClause_2 5 rfl)
theorem dX12_readsClause_70 : decode cX12_readsClause 70 = .ok (.aload_n 0, 1) := dq_42 (kX12_readsClause_2 6 rfl)
theorem dX12_readsClause_71 : decode cX12_readsClause 71 = .ok (.getfield 106, 3) := dq_180 (kX12_readsClause_2 7 rfl) (kX12_readsClause_2 8 rfl) (kX12_readsClause_2 9 rfl) rfl
theorem dX12_readsClause_74 : decode cX12_readsClause 74 = .ok (.iload_n 2, 1) := dq_28 (kX12_readsClause_2 10 rfl)
theorem dX12_readsClause_75 : decode cX12_readsClause 75 = .ok (.iconst 0, 1) := dq_3 (kX12_readsClause_2 11 rfl)
theorem dX12_readsClause_76 : decode cX12_readsClause 76 = .ok (.iastore, 1) := dq_79 (kX12_readsClause_2 12 rfl)
theorem dX12_readsClause_77 : decode cX12_readsClause 77 = .ok (.aload_n 0, 1) := dq_42 (kX12_readsClause_2 13 rfl)
theorem dX12_readsClause_78 : decode cX12_readsClause 78 = .ok (.getfield 109, 3) := dq_180 (kX12_readsClause_2 14 rfl) (kX12_readsClause_2 15 rfl) (kX12_readsClause_2 16 rfl) rfl
theorem dX12_readsClause_81 : decode cX12_readsClause 81 = .ok (.iload_n 2, 1) := dq_28 (kX12_readsClause_2 17 rfl)
theorem dX12_readsClause_82 : decode cX12_readsClause 82 = .ok (.iconst 0, 1) := dq_3 (kX12_readsClause_2 18 rfl)
theorem dX12_readsClause_83 : decode cX12_readsClause 83 = .ok (.iastore, 1) := dq_79 (kX12_readsClause_2 19 rfl)
theorem dX12_readsClause_84 : decode cX12_readsClause 84 = .ok (.aload_n 0, 1) := dq_42 (kX12_readsClause_2 20 rfl)
theorem dX12_readsClause_85 : decode cX12_readsClause 85 = .ok (.getfield 97, 3) := dq_180 (kX12_readsClause_2 21 rfl) (kX12_readsClause_2 22 rfl) (kX12_readsClause_2 23 rfl) rfl
theorem dX12_readsClause_88 : decode cX12_readsClause 88 = .ok (.iload_n 2, 1) := dq_28 (kX12_readsClause_2 24 rfl)
theorem dX12_readsClause_89 : decode cX12_readsClause 89 = .ok (.aload_n 0, 1) := dq_42 (kX12_readsClause_2 25 rfl)
theorem dX12_readsClause_90 : decode cX12_readsClause 90 = .ok (.getfield 466, 3) := dq_180 (kX12_readsClause_2 26 rfl) (kX12_readsClause_2 27 rfl) (kX12_readsClause_2 28 rfl) rfl
theorem dX12_readsClause_93 : decode cX12_readsClause 93 = .ok (.iastore, 1) := dq_79 (kX12_readsClause_2 29 rfl)
theorem dX12_readsClause_94 : decode cX12_readsClause 94 = .ok (.iload_n 1, 1) := dq_27 (kX12_readsClause_2 30 rfl)
theorem dX12_readsClause_95 : decode cX12_readsClause 95 = .ok (.invokestatic 520, 3) := dq_184 (kX12_readsClause_2 31 rfl) (kX12_readsClause_3 0 rfl) (kX12_readsClause_3 1 rfl) rfl
theorem dX12_readsClause_98 : decode cX12_readsClause 98 = .ok (.ifCond .eq 12, 3) := dq_153 (kX12_readsClause_3 2 rfl) (kX12_readsClause_3 3 rfl) (kX12_readsClause_3 4 rfl) (by decide)
theorem dX12_readsClause_101 : decode cX12_readsClause 101 = .ok (.aload_n 0, 1) := dq_42 (kX12_readsClause_3 5 rfl)
theorem dX12_readsClause_102 : decode cX12_readsClause 102 = .ok (.invokevirtual 529, 3) := dq_182 (kX12_readsClause_3 6 rfl) (kX12_readsClause_3 7 rfl) (kX12_readsClause_3 8 rfl) rfl
theorem dX12_readsClause_105 : decode cX12_readsClause 105 = .ok (.ifCond .ne 5, 3) := dq_154 (kX12_readsClause_3 9 rfl) (kX12_readsClause_3 10 rfl) (kX12_readsClause_3 11 rfl) (by decide)
theorem dX12_readsClause_108 : decode cX12_readsClause 108 = .ok (.iconst 0, 1) := dq_3 (kX12_readsClause_3 12 rfl)
theorem dX12_readsClause_109 : decode cX12_readsClause 109 = .ok (.ireturn, 1) := dq_172 (kX12_readsClause_3 13 rfl)
theorem dX12_readsClause_110 : decode cX12_readsClause 110 = .ok (.aload_n 0, 1) := dq_42 (kX12_readsClause_3 14 rfl)
theorem dX12_readsClause_111 : decode cX12_readsClause 111 = .ok (.getfield 100, 3) := dq_180 (kX12_readsClause_3 15 rfl) (kX12_readsClause_3 16 rfl) (kX12_readsClause_3 17 rfl) rfl
theorem dX12_readsClause_114 : decode cX12_readsClause 114 = .ok (.iload_n 2, 1) := dq_28 (kX12_readsClause_3 18 rfl)
theorem dX12_readsClause_115 : decode cX12_readsClause 115 = .ok (.aload_n 0, 1) := dq_42 (kX12_readsClause_3 19 rfl)
theorem dX12_readsClause_116 : decode cX12_readsClause 116 = .ok (.getfield 466, 3) := dq_180 (kX12_readsClause_3 20 rfl) (kX12_readsClause_3 21 rfl) (kX12_readsClause_3 22 rfl) rfl
theorem dX12_readsClause_119 : decode cX12_readsClause 119 = .ok (.iastore, 1) := dq_79 (kX12_readsClause_3 23 rfl)
theorem dX12_readsClause_120 : decode cX12_readsClause 120 = .ok (.iload_n 1, 1) := dq_27 (kX12_readsClause_3 24 rfl)
theorem dX12_readsClause_121 : decode cX12_readsClause 121 = .ok (.bipush 107, 2) := dq_16 (kX12_readsClause_3 25 rfl) (kX12_readsClause_3 26 rfl) (by decide)
theorem dX12_readsClause_123 : decode cX12_readsClause 123 = .ok (.if_icmp .eq 9, 3) := dq_159 (kX12_readsClause_3 27 rfl) (kX12_readsClause_3 28 rfl) (kX12_readsClause_3 29 rfl) (by decide)
theorem dX12_readsClause_126 : decode cX12_readsClause 126 = .ok (.iload_n 1, 1) := dq_27 (kX12_readsClause_3 30 rfl)
theorem dX12_readsClause_127 : decode cX12_readsClause 127 = .ok (.bipush 120, 2) := dq_16 (kX12_readsClause_3 31 rfl) (kX12_readsClause_4 0 rfl) (by decide)
theorem dX12_readsClause_129 : decode cX12_readsClause 129 = .ok (.if_icmp .ne 91, 3) := dq_160 (kX12_readsClause_4 1 rfl) (kX12_readsClause_4 2 rfl) (kX12_readsClause_4 3 rfl) (by decide)
theorem dX12_readsClause_132 : decode cX12_readsClause 132 = .ok (.aload_n 0, 1) := dq_42 (kX12_readsClause_4 4 rfl)
theorem dX12_readsClause_133 : decode cX12_readsClause 133 = .ok (.iload_n 1, 1) := dq_27 (kX12_readsClause_4 5 rfl)
theorem dX12_readsClause_134 : decode cX12_readsClause 134 = .ok (.bipush 107, 2) := dq_16 (kX12_readsClause_4 6 rfl) (kX12_readsClause_4 7 rfl) (by decide)
theorem dX12_readsClause_136 : decode cX12_readsClause 136 = .ok (.if_icmp .ne 7, 3) := dq_160 (kX12_readsClause_4 8 rfl) (kX12_readsClause_4 9 rfl) (kX12_readsClause_4 10 rfl) (by decide)
theorem dX12_readsClause_139 : decode cX12_readsClause 139 = .ok (.iconst 3, 1) := dq_6 (kX12_readsClause_4 11 rfl)
theorem dX12_readsClause_140 : decode cX12_readsClause 140 = .ok (.goto 5, 3) := dq_167 (kX12_readsClause_4 12 rfl) (kX12_readsClause_4 13 rfl) (kX12_readsClause_4 14 rfl) (by decide)
theorem dX12_readsClause_143 : decode cX12_readsClause 143 = .ok (.bipush 19, 2) := dq_16 (kX12_readsClause_4 15 rfl) (kX12_readsClause_4 16 rfl) (by decide)
theorem dX12_readsClause_145 : decode cX12_readsClause 145 = .ok (.invokevirtual 486, 3) := dq_182 (kX12_readsClause_4 17 rfl) (kX12_readsClause_4 18 rfl) (kX12_readsClause_4 19 rfl) rfl
theorem dX12_readsClause_148 : decode cX12_readsClause 148 = .ok (.ifCond .ne 5, 3) := dq_154 (kX12_readsClause_4 20 rfl) (kX12_readsClause_4 21 rfl) (kX12_readsClause_4 22 rfl) (by decide)
theorem dX12_readsClause_151 : decode cX12_readsClause 151 = .ok (.iconst 0, 1) := dq_3 (kX12_readsClause_4 23 rfl)
theorem dX12_readsClause_152 : decode cX12_readsClause 152 = .ok (.ireturn, 1) := dq_172 (kX12_readsClause_4 24 rfl)
theorem dX12_readsClause_153 : decode cX12_readsClause 153 = .ok (.aload_n 0, 1) := dq_42 (kX12_readsClause_4 25 rfl)
theorem dX12_readsClause_154 : decode cX12_readsClause 154 = .ok (.getfield 106, 3) := dq_180 (kX12_readsClause_4 26 rfl) (kX12_readsClause_4 27 rfl) (kX12_readsClause_4 28 rfl) rfl
theorem dX12_readsClause_157 : decode cX12_readsClause 157 = .ok (.iload_n 2, 1) := dq_28 (kX12_readsClause_4 29 rfl)
theorem dX12_readsClause_158 : decode cX12_readsClause 158 = .ok (.aload_n 0, 1) := dq_42 (kX12_readsClause_4 30 rfl)
theorem dX12_readsClause_159 : decode cX12_readsClause 159 = .ok (.getfield 459, 3) := dq_180 (kX12_readsClause_4 31 rfl) (kX12_readsClause_5 0 rfl) (kX12_readsClause_5 1 rfl) rfl
theorem dX12_readsClause_162 : decode cX12_readsClause 162 = .ok (.iastore, 1) := dq_79 (kX12_readsClause_5 2 rfl)
theorem dX12_readsClause_163 : decode cX12_readsClause 163 = .ok (.aload_n 0, 1) := dq_42 (kX12_readsClause_5 3 rfl)
theorem dX12_readsClause_164 : decode cX12_readsClause 164 = .ok (.bipush 46, 2) := dq_16 (kX12_readsClause_5 4 rfl) (kX12_readsClause_5 5 rfl) (by decide)
theorem dX12_readsClause_166 : decode cX12_readsClause 166 = .ok (.invokevirtual 532, 3) := dq_182 (kX12_readsClause_5 6 rfl) (kX12_readsClause_5 7 rfl) (kX12_readsClause_5 8 rfl) rfl
theorem dX12_readsClause_169 : decode cX12_readsClause 169 = .ok (.ifCond .eq 22, 3) := dq_153 (kX12_readsClause_5 9 rfl) (kX12_readsClause_5 10 rfl) (kX12_readsClause_5 11 rfl) (by decide)
theorem dX12_readsClause_172 : decode cX12_readsClause 172 = .ok (.aload_n 0, 1) := dq_42 (kX12_readsClause_5 12 rfl)
theorem dX12_readsClause_173 : decode cX12_readsClause 173 = .ok (.iload_n 1, 1) := dq_27 (kX12_readsClause_5 13 rfl)
theorem dX12_readsClause_174 : decode cX12_readsClause 174 = .ok (.bipush 107, 2) := dq_16 (kX12_readsClause_5 14 rfl) (kX12_readsClause_5 15 rfl) (by decide)
theorem dX12_readsClause_176 : decode cX12_readsClause 176 = .ok (.if_icmp .ne 7, 3) := dq_160 (kX12_readsClause_5 16 rfl) (kX12_readsClause_5 17 rfl) (kX12_readsClause_5 18 rfl) (by decide)
theorem dX12_readsClause_179 : decode cX12_readsClause 179 = .ok (.iconst 3, 1) := dq_6 (kX12_readsClause_5 19 rfl)
theorem dX12_readsClause_180 : decode cX12_readsClause 180 = .ok (.goto 5, 3) := dq_167 (kX12_readsClause_5 20 rfl) (kX12_readsClause_5 21 rfl) (kX12_readsClause_5 22 rfl) (by decide)
theorem dX12_readsClause_183 : decode cX12_readsClause 183 = .ok (.bipush 11, 2) := dq_16 (kX12_readsClause_5 23 rfl) (kX12_readsClause_5 24 rfl) (by decide)
theorem dX12_readsClause_185 : decode cX12_readsClause 185 = .ok (.invokevirtual 486, 3) := dq_182 (kX12_readsClause_5 25 rfl) (kX12_readsClause_5 26 rfl) (kX12_readsClause_5 27 rfl) rfl
theorem dX12_readsClause_188 : decode cX12_readsClause 188 = .ok (.ifCond .ne 5, 3) := dq_154 (kX12_readsClause_5 28 rfl) (kX12_readsClause_5 29 rfl) (kX12_readsClause_5 30 rfl) (by decide)
theorem dX12_readsClause_191 : decode cX12_readsClause 191 = .ok (.iconst 0, 1) := dq_3 (kX12_readsClause_5 31 rfl)
theorem dX12_readsClause_192 : decode cX12_readsClause 192 = .ok (.ireturn, 1) := dq_172 (kX12_readsClause_6 0 rfl)
theorem dX12_readsClause_193 : decode cX12_readsClause 193 = .ok (.aload_n 0, 1) := dq_42 (kX12_readsClause_6 1 rfl)
theorem dX12_readsClause_194 : decode cX12_readsClause 194 = .ok (.getfield 109, 3) := dq_180 (kX12_readsClause_6 2 rfl) (kX12_readsClause_6 3 rfl) (kX12_readsClause_6 4 rfl) rfl
theorem dX12_readsClause_197 : decode cX12_readsClause 197 = .ok (.iload_n 2, 1) := dq_28 (kX12_readsClause_6 5 rfl)
theorem dX12_readsClause_198 : decode cX12_readsClause 198 = .ok (.aload_n 0, 1) := dq_42 (kX12_readsClause_6 6 rfl)
theorem dX12_readsClause_199 : decode cX12_readsClause 199 = .ok (.getfield 459, 3) := dq_180 (kX12_readsClause_6 7 rfl) (kX12_readsClause_6 8 rfl) (kX12_readsClause_6 9 rfl) rfl
theorem dX12_readsClause_202 : decode cX12_readsClause 202 = .ok (.iastore, 1) := dq_79 (kX12_readsClause_6 10 rfl)
theorem dX12_readsClause_203 : decode cX12_readsClause 203 = .ok (.iload_n 1, 1) := dq_27 (kX12_readsClause_6 11 rfl)
theorem dX12_readsClause_204 : decode cX12_readsClause 204 = .ok (.bipush 107, 2) := dq_16 (kX12_readsClause_6 12 rfl) (kX12_readsClause_6 13 rfl) (by decide)
theorem dX12_readsClause_206 : decode cX12_readsClause 206 = .ok (.if_icmp .ne 14, 3) := dq_160 (kX12_readsClause_6 14 rfl) (kX12_readsClause_6 15 rfl) (kX12_readsClause_6 16 rfl) (by decide)
theorem dX12_readsClause_209 : decode cX12_readsClause 209 = .ok (.aload_n 0, 1) := dq_42 (kX12_readsClause_6 17 rfl)
theorem dX12_readsClause_210 : decode cX12_readsClause 210 = .ok (.bipush 61, 2) := dq_16 (kX12_readsClause_6 18 rfl) (kX12_readsClause_6 19 rfl) (by decide)
theorem dX12_readsClause_212 : decode cX12_readsClause 212 = .ok (.invokevirtual 532, 3) := dq_182 (kX12_readsClause_6 20 rfl) (kX12_readsClause_6 21 rfl) (kX12_readsClause_6 22 rfl) rfl
theorem dX12_readsClause_215 : decode cX12_readsClause 215 = .ok (.ifCond .ne 5, 3) := dq_154 (kX12_readsClause_6 23 rfl) (kX12_readsClause_6 24 rfl) (kX12_readsClause_6 25 rfl) (by decide)
theorem dX12_readsClause_218 : decode cX12_readsClause 218 = .ok (.iconst 0, 1) := dq_3 (kX12_readsClause_6 26 rfl)
theorem dX12_readsClause_219 : decode cX12_readsClause 219 = .ok (.ireturn, 1) := dq_172 (kX12_readsClause_6 27 rfl)
theorem dX12_readsClause_220 : decode cX12_readsClause 220 = .ok (.iload_n 1, 1) := dq_27 (kX12_readsClause_6 28 rfl)
theorem dX12_readsClause_221 : decode cX12_readsClause 221 = .ok (.bipush 110, 2) := dq_16 (kX12_readsClause_6 29 rfl) (kX12_readsClause_6 30 rfl) (by decide)
theorem dX12_readsClause_223 : decode cX12_readsClause 223 = .ok (.if_icmp .eq 33, 3) := dq_159 (kX12_readsClause_6 31 rfl) (kX12_readsClause_7 0 rfl) (kX12_readsClause_7 1 rfl) (by decide)
theorem dX12_readsClause_226 : decode cX12_readsClause 226 = .ok (.iload_n 1, 1) := dq_27 (kX12_readsClause_7 2 rfl)
theorem dX12_readsClause_227 : decode cX12_readsClause 227 = .ok (.bipush 115, 2) := dq_16 (kX12_readsClause_7 3 rfl) (kX12_readsClause_7 4 rfl) (by decide)
theorem dX12_readsClause_229 : decode cX12_readsClause 229 = .ok (.if_icmp .eq 27, 3) := dq_159 (kX12_readsClause_7 5 rfl) (kX12_readsClause_7 6 rfl) (kX12_readsClause_7 7 rfl) (by decide)
theorem dX12_readsClause_232 : decode cX12_readsClause 232 = .ok (.iload_n 1, 1) := dq_27 (kX12_readsClause_7 8 rfl)
theorem dX12_readsClause_233 : decode cX12_readsClause 233 = .ok (.bipush 97, 2) := dq_16 (kX12_readsClause_7 9 rfl) (kX12_readsClause_7 10 rfl) (by decide)
theorem dX12_readsClause_235 : decode cX12_readsClause 235 = .ok (.if_icmp .eq 21, 3) := dq_159 (kX12_readsClause_7 11 rfl) (kX12_readsClause_7 12 rfl) (kX12_readsClause_7 13 rfl) (by decide)
theorem dX12_readsClause_238 : decode cX12_readsClause 238 = .ok (.iload_n 1, 1) := dq_27 (kX12_readsClause_7 14 rfl)
theorem dX12_readsClause_239 : decode cX12_readsClause 239 = .ok (.bipush 113, 2) := dq_16 (kX12_readsClause_7 15 rfl) (kX12_readsClause_7 16 rfl) (by decide)
theorem dX12_readsClause_241 : decode cX12_readsClause 241 = .ok (.if_icmp .eq 15, 3) := dq_159 (kX12_readsClause_7 17 rfl) (kX12_readsClause_7 18 rfl) (kX12_readsClause_7 19 rfl) (by decide)
theorem dX12_readsClause_244 : decode cX12_readsClause 244 = .ok (.iload_n 1, 1) := dq_27 (kX12_readsClause_7 20 rfl)
theorem dX12_readsClause_245 : decode cX12_readsClause 245 = .ok (.bipush 107, 2) := dq_16 (kX12_readsClause_7 21 rfl) (kX12_readsClause_7 22 rfl) (by decide)
theorem dX12_readsClause_247 : decode cX12_readsClause 247 = .ok (.if_icmp .eq 9, 3) := dq_159 (kX12_readsClause_7 23 rfl) (kX12_readsClause_7 24 rfl) (kX12_readsClause_7 25 rfl) (by decide)
theorem dX12_readsClause_250 : decode cX12_readsClause 250 = .ok (.iload_n 1, 1) := dq_27 (kX12_readsClause_7 26 rfl)
theorem dX12_readsClause_251 : decode cX12_readsClause 251 = .ok (.bipush 103, 2) := dq_16 (kX12_readsClause_7 27 rfl) (kX12_readsClause_7 28 rfl) (by decide)
theorem dX12_readsClause_253 : decode cX12_readsClause 253 = .ok (.if_icmp .ne 25, 3) := dq_160 (kX12_readsClause_7 29 rfl) (kX12_readsClause_7 30 rfl) (kX12_readsClause_7 31 rfl) (by decide)
theorem dX12_readsClause_256 : decode cX12_readsClause 256 = .ok (.aload_n 0, 1) := dq_42 (kX12_readsClause_8 0 rfl)
theorem dX12_readsClause_257 : decode cX12_readsClause 257 = .ok (.ldc_w 485, 3) := dq_19 (kX12_readsClause_8 1 rfl) (kX12_readsClause_8 2 rfl) (kX12_readsClause_8 3 rfl) rfl
theorem dX12_readsClause_260 : decode cX12_readsClause 260 = .ok (.invokevirtual 486, 3) := dq_182 (kX12_readsClause_8 4 rfl) (kX12_readsClause_8 5 rfl) (kX12_readsClause_8 6 rfl) rfl
theorem dX12_readsClause_263 : decode cX12_readsClause 263 = .ok (.ifCond .ne 5, 3) := dq_154 (kX12_readsClause_8 7 rfl) (kX12_readsClause_8 8 rfl) (kX12_readsClause_8 9 rfl) (by decide)
theorem dX12_readsClause_266 : decode cX12_readsClause 266 = .ok (.iconst 0, 1) := dq_3 (kX12_readsClause_8 10 rfl)
theorem dX12_readsClause_267 : decode cX12_readsClause 267 = .ok (.ireturn, 1) := dq_172 (kX12_readsClause_8 11 rfl)
theorem dX12_readsClause_268 : decode cX12_readsClause 268 = .ok (.aload_n 0, 1) := dq_42 (kX12_readsClause_8 12 rfl)
theorem dX12_readsClause_269 : decode cX12_readsClause 269 = .ok (.getfield 103, 3) := dq_180 (kX12_readsClause_8 13 rfl) (kX12_readsClause_8 14 rfl) (kX12_readsClause_8 15 rfl) rfl
theorem dX12_readsClause_272 : decode cX12_readsClause 272 = .ok (.iload_n 2, 1) := dq_28 (kX12_readsClause_8 16 rfl)
theorem dX12_readsClause_273 : decode cX12_readsClause 273 = .ok (.aload_n 0, 1) := dq_42 (kX12_readsClause_8 17 rfl)
theorem dX12_readsClause_274 : decode cX12_readsClause 274 = .ok (.getfield 459, 3) := dq_180 (kX12_readsClause_8 18 rfl) (kX12_readsClause_8 19 rfl) (kX12_readsClause_8 20 rfl) rfl
theorem dX12_readsClause_277 : decode cX12_readsClause 277 = .ok (.iastore, 1) := dq_79 (kX12_readsClause_8 21 rfl)
theorem dX12_readsClause_278 : decode cX12_readsClause 278 = .ok (.aload_n 0, 1) := dq_42 (kX12_readsClause_8 22 rfl)
theorem dX12_readsClause_279 : decode cX12_readsClause 279 = .ok (.aload_n 0, 1) := dq_42 (kX12_readsClause_8 23 rfl)
theorem dX12_readsClause_280 : decode cX12_readsClause 280 = .ok (.getfield 526, 3) := dq_180 (kX12_readsClause_8 24 rfl) (kX12_readsClause_8 25 rfl) (kX12_readsClause_8 26 rfl) rfl
theorem dX12_readsClause_283 : decode cX12_readsClause 283 = .ok (.iconst 1, 1) := dq_4 (kX12_readsClause_8 27 rfl)
theorem dX12_readsClause_284 : decode cX12_readsClause 284 = .ok (.iadd, 1) := dq_96 (kX12_readsClause_8 28 rfl)
theorem dX12_readsClause_285 : decode cX12_readsClause 285 = .ok (.putfield 526, 3) := dq_181 (kX12_readsClause_8 29 rfl) (kX12_readsClause_8 30 rfl) (kX12_readsClause_8 31 rfl) rfl
theorem dX12_readsClause_288 : decode cX12_readsClause 288 = .ok (.iconst 1, 1) := dq_4 (kX12_readsClause_9 0 rfl)
theorem dX12_readsClause_289 : decode cX12_readsClause 289 = .ok (.ireturn, 1) := dq_172 (kX12_readsClause_9 1 rfl)
