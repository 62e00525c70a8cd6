/-! ### the law's bytes, in pieces: what stands at a place -/
def AtB (B : ByteArray) (p : Nat) (b : UInt8) : Prop := B.data.toList[p]? = some b
section D1
variable {B : ByteArray} {p q n v : Nat} {a b c : UInt8}
theorem AtB.lt (h : AtB B p b) : p < B.size := by
  have h1 := (List.getElem?_eq_some_iff.mp h).1
  simpa using h1
theorem AtB.val (h : AtB B p b) : B[p]'h.lt = b := by
  obtain ⟨h1, h2⟩ := List.getElem?_eq_some_iff.mp h
  exact (show B[p]'h.lt = B.data.toList[p]'h1 from rfl).trans h2
theorem at_of {l : List UInt8} {o : Nat} (h : (B.data.toList.drop o).take 64 = l) (j : Nat) {b : UInt8} (hj : l[j]? = some b) : AtB B (o + j) b := by
  unfold AtB
  have h64 : j < 64 := by
    have h1 := (List.getElem?_eq_some_iff.mp hj).1
    rw [← h, List.length_take] at h1
    omega
  rw [← h, List.getElem?_take_of_lt h64, List.getElem?_drop] at hj
  exact hj
theorem dc_bind {α β : Type} {x : Decoder α} {f : α → Decoder β} {r : α} (h : x B p = .ok (r, q)) : (x >>= f) B p = f r B q := by
  show (x B p >>= fun y => f y.1 B y.2) = _
  rw [h]
  rfl
theorem dc_u1 (h : AtB B p b) : (Reader.u1 : Decoder Nat) B p = .ok (b.toNat, p + 1) := by
  show (dite (p < B.size) (fun hp => (do set (p + 1); pure (B[p]'hp).toNat : Decoder Nat)) (fun _ => throw (HasTruncated.truncated p))) B p = _
  rw [dif_pos h.lt]
  show Except.ok ((B[p]'h.lt).toNat, p + 1) = _
  rw [h.val]
theorem dc_u2 (h : AtB B p a) (h2 : AtB B (p + 1) b) : (Reader.u2 : Decoder Nat) B p = .ok (a.toNat * 256 + b.toNat, p + 2) := by
  unfold Reader.u2
  rw [dc_bind (dc_u1 h), dc_bind (dc_u1 h2)]
  rfl
theorem dc_map {α β : Type} {x : Decoder α} {f : α → β} {r : α} (h : x B p = .ok (r, q)) : (f <$> x) B p = .ok (f r, q) := by
  show (x B p >>= fun y => pure (f y.1, y.2)) = _
  rw [h]
  rfl
theorem dc_s1 (h : AtB B p a) : (Reader.s1 : Decoder Int) B p = .ok (Reader.signed 8 a.toNat, p + 1) := dc_map (dc_u1 h)
theorem dc_s2 (h : AtB B p a) (h2 : AtB B (p + 1) b) : (Reader.s2 : Decoder Int) B p = .ok (Reader.signed 16 (a.toNat * 256 + b.toNat), p + 2) := dc_map (dc_u2 h h2)
theorem dc_of {i : Instr} (h : Decoder.instr p B p = .ok (i, q)) (hn : q - p = n) : decode B p = .ok (i, n) := by
  subst hn
  show (Decoder.instr p B p >>= fun y => pure (y.1, y.2 - p)) = _
  rw [h]
  rfl
set_option maxRecDepth 100000 in
theorem dk_iload_n_3 (h : AtB B p 29) : decode B p = .ok (.iload_n 3, 1) := dc_of (q := p + 1) (by
  unfold Decoder.instr
  rw [dc_bind (dc_u1 h)]
  rfl) (by omega)
set_option maxRecDepth 100000 in
theorem dk_aload_n_0 (h : AtB B p 42) : decode B p = .ok (.aload_n 0, 1) := dc_of (q := p + 1) (by
  unfold Decoder.instr
  rw [dc_bind (dc_u1 h)]
  rfl) (by omega)
set_option maxRecDepth 100000 in
theorem dk_aload_n_1 (h : AtB B p 43) : decode B p = .ok (.aload_n 1, 1) := dc_of (q := p + 1) (by
  unfold Decoder.instr
  rw [dc_bind (dc_u1 h)]
  rfl) (by omega)
set_option maxRecDepth 100000 in
theorem dk_aload_n_2 (h : AtB B p 44) : decode B p = .ok (.aload_n 2, 1) := dc_of (q := p + 1) (by
  unfold Decoder.instr
  rw [dc_bind (dc_u1 h)]
  rfl) (by omega)
set_option maxRecDepth 100000 in
theorem dk_iaload (h : AtB B p 46) : decode B p = .ok (.iaload, 1) := dc_of (q := p + 1) (by
  unfold Decoder.instr
  rw [dc_bind (dc_u1 h)]
  rfl) (by omega)
set_option maxRecDepth 100000 in
theorem dk_iadd (h : AtB B p 96) : decode B p = .ok (.iadd, 1) := dc_of (q := p + 1) (by
  unfold Decoder.instr
  rw [dc_bind (dc_u1 h)]
  rfl) (by omega)
set_option maxRecDepth 100000 in
theorem dk_pop (h : AtB B p 87) : decode B p = .ok (.pop, 1) := dc_of (q := p + 1) (by
  unfold Decoder.instr
  rw [dc_bind (dc_u1 h)]
  rfl) (by omega)
set_option maxRecDepth 100000 in
theorem dk_pop2 (h : AtB B p 88) : decode B p = .ok (.pop2, 1) := dc_of (q := p + 1) (by
  unfold Decoder.instr
  rw [dc_bind (dc_u1 h)]
  rfl) (by omega)
set_option maxRecDepth 100000 in
theorem dk_iconst_0 (h : AtB B p 3) : decode B p = .ok (.iconst 0, 1) := dc_of (q := p + 1) (by
  unfold Decoder.instr
  rw [dc_bind (dc_u1 h)]
  rfl) (by omega)
set_option maxRecDepth 100000 in
theorem dk_iconst_1 (h : AtB B p 4) : decode B p = .ok (.iconst 1, 1) := dc_of (q := p + 1) (by
  unfold Decoder.instr
  rw [dc_bind (dc_u1 h)]
  rfl) (by omega)
set_option maxRecDepth 100000 in
theorem dk_iconst_2 (h : AtB B p 5) : decode B p = .ok (.iconst 2, 1) := dc_of (q := p + 1) (by
  unfold Decoder.instr
  rw [dc_bind (dc_u1 h)]
  rfl) (by omega)
set_option maxRecDepth 100000 in
theorem dk_iconst_3 (h : AtB B p 6) : decode B p = .ok (.iconst 3, 1) := dc_of (q := p + 1) (by
  unfold Decoder.instr
  rw [dc_bind (dc_u1 h)]
  rfl) (by omega)
set_option maxRecDepth 100000 in
theorem dk_iconst_4 (h : AtB B p 7) : decode B p = .ok (.iconst 4, 1) := dc_of (q := p + 1) (by
  unfold Decoder.instr
  rw [dc_bind (dc_u1 h)]
  rfl) (by omega)
set_option maxRecDepth 100000 in
theorem dk_iconst_5 (h : AtB B p 8) : decode B p = .ok (.iconst 5, 1) := dc_of (q := p + 1) (by
  unfold Decoder.instr
  rw [dc_bind (dc_u1 h)]
  rfl) (by omega)
set_option maxRecDepth 100000 in
theorem dk_invokevirtual (h : AtB B p 182) (h1 : AtB B (p + 1) a) (h2 : AtB B (p + 1 + 1) b) (hv : a.toNat * 256 + b.toNat = v) : decode B p = .ok (.invokevirtual v, 3) := dc_of (q := p + 1 + 2) (by
  subst hv
  unfold Decoder.instr
  rw [dc_bind (dc_u1 h)]
  show (Reader.u2 >>= fun z => pure (.invokevirtual z) : Decoder Instr) B (p + 1) = _
  rw [dc_bind (dc_u2 h1 h2)]
  rfl) (by omega)
set_option maxRecDepth 100000 in
theorem dk_goto {w : Int} (h : AtB B p 167) (h1 : AtB B (p + 1) a) (h2 : AtB B (p + 1 + 1) b) (hv : Reader.signed 16 (a.toNat * 256 + b.toNat) = w) : decode B p = .ok (.goto w, 3) := dc_of (q := p + 1 + 2) (by
  subst hv
  unfold Decoder.instr
  rw [dc_bind (dc_u1 h)]
  show (Reader.s2 >>= fun z => pure (.goto z) : Decoder Instr) B (p + 1) = _
  rw [dc_bind (dc_s2 h1 h2)]
  rfl) (by omega)
set_option maxRecDepth 100000 in
theorem dk_ifeq {w : Int} (h : AtB B p 153) (h1 : AtB B (p + 1) a) (h2 : AtB B (p + 1 + 1) b) (hv : Reader.signed 16 (a.toNat * 256 + b.toNat) = w) : decode B p = .ok (.ifCond .eq w, 3) := dc_of (q := p + 1 + 2) (by
  subst hv
  unfold Decoder.instr
  rw [dc_bind (dc_u1 h)]
  show (Reader.s2 >>= fun z => pure (.ifCond .eq z) : Decoder Instr) B (p + 1) = _
  rw [dc_bind (dc_s2 h1 h2)]
  rfl) (by omega)
set_option maxRecDepth 100000 in
theorem dk_bipush {w : Int} (h : AtB B p 16) (h1 : AtB B (p + 1) a) (hv : Reader.signed 8 a.toNat = w) : decode B p = .ok (.bipush w, 2) := dc_of (q := p + 1 + 1) (by
  subst hv
  unfold Decoder.instr
  rw [dc_bind (dc_u1 h)]
  show (Reader.s1 >>= fun z => pure (.bipush z) : Decoder Instr) B (p + 1) = _
  rw [dc_bind (dc_s1 h1)]
  rfl) (by omega)
end D1
def cb_0 : List UInt8 := [187, 0, 7, 89, 183, 0, 9, 76, 187, 0, 10, 89, 183, 0, 12, 77, 3, 62, 29, 42, 190, 16, 8, 100, 163, 10, 167, 42, 29, 46, 16, 63, 126, 170, 0, 0, 0, 0, 10, 152, 0, 0, 0, 0, 0, 0, 0, 60, 0, 0, 1, 3, 0, 0, 1, 36, 0, 0, 1, 99, 0, 0, 1, 132]
theorem kc_0 (j : Nat) {b : UInt8} (hj : cb_0[j]? = some b) : AtB code (0 + j) b := at_of (by decide +kernel) j hj
def cb_1 : List UInt8 := [0, 0, 1, 171, 0, 0, 1, 224, 0, 0, 2, 1, 0, 0, 2, 54, 0, 0, 2, 87, 0, 0, 2, 130, 0, 0, 2, 179, 0, 0, 2, 242, 0, 0, 3, 29, 0, 0, 3, 62, 0, 0, 3, 115, 0, 0, 3, 158, 0, 0, 3, 201, 0, 0, 3, 234, 0, 0, 4, 65, 0, 0, 4, 98]
theorem kc_1 (j : Nat) {b : UInt8} (hj : cb_1[j]? = some b) : AtB code (64 + j) b := at_of (by decide +kernel) j hj
def cb_2 : List UInt8 := [0, 0, 4, 131, 0, 0, 4, 190, 0, 0, 4, 249, 0, 0, 5, 62, 0, 0, 5, 95, 0, 0, 5, 138, 0, 0, 5, 181, 0, 0, 5, 214, 0, 0, 6, 11, 0, 0, 6, 54, 0, 0, 6, 87, 0, 0, 6, 120, 0, 0, 6, 163, 0, 0, 6, 196, 0, 0, 6, 229, 0, 0, 6, 242]
theorem kc_2 (j : Nat) {b : UInt8} (hj : cb_2[j]? = some b) : AtB code (128 + j) b := at_of (by decide +kernel) j hj
def cb_3 : List UInt8 := [0, 0, 7, 29, 0, 0, 7, 52, 0, 0, 7, 85, 0, 0, 7, 118, 0, 0, 7, 161, 0, 0, 7, 224, 0, 0, 8, 1, 0, 0, 8, 64, 0, 0, 8, 77, 0, 0, 8, 100, 0, 0, 8, 123, 0, 0, 8, 166, 0, 0, 8, 189, 0, 0, 8, 202, 0, 0, 8, 235, 0, 0, 9, 32]
theorem kc_3 (j : Nat) {b : UInt8} (hj : cb_3[j]? = some b) : AtB code (192 + j) b := at_of (by decide +kernel) j hj
def cb_4 : List UInt8 := [0, 0, 9, 75, 0, 0, 9, 128, 0, 0, 9, 197, 0, 0, 9, 240, 0, 0, 10, 7, 0, 0, 10, 40, 0, 0, 10, 73, 0, 0, 10, 106, 0, 0, 10, 129, 43, 42, 29, 4, 96, 46, 42, 29, 5, 96, 46, 182, 0, 13, 87, 44, 42, 29, 4, 96, 46, 42, 29, 5, 96, 46, 182, 0]
theorem kc_4 (j : Nat) {b : UInt8} (hj : cb_4[j]? = some b) : AtB code (256 + j) b := at_of (by decide +kernel) j hj
def cb_5 : List UInt8 := [17, 87, 167, 9, 119, 43, 42, 29, 4, 96, 46, 42, 29, 5, 96, 46, 42, 29, 6, 96, 46, 42, 29, 7, 96, 46, 42, 29, 8, 96, 46, 182, 0, 18, 87, 44, 42, 29, 4, 96, 46, 42, 29, 5, 96, 46, 42, 29, 6, 96, 46, 42, 29, 7, 96, 46, 42, 29, 8, 96, 46, 182, 0, 22]
theorem kc_5 (j : Nat) {b : UInt8} (hj : cb_5[j]? = some b) : AtB code (320 + j) b := at_of (by decide +kernel) j hj
def cb_6 : List UInt8 := [87, 167, 9, 56, 43, 42, 29, 4, 96, 46, 42, 29, 5, 96, 46, 182, 0, 23, 87, 44, 42, 29, 4, 96, 46, 42, 29, 5, 96, 46, 182, 0, 26, 87, 167, 9, 23, 43, 42, 29, 4, 96, 46, 153, 0, 7, 4, 167, 0, 4, 3, 182, 0, 27, 87, 44, 42, 29, 4, 96, 46, 153, 0, 7]
theorem kc_6 (j : Nat) {b : UInt8} (hj : cb_6[j]? = some b) : AtB code (384 + j) b := at_of (by decide +kernel) j hj
def cb_7 : List UInt8 := [4, 167, 0, 4, 3, 182, 0, 31, 87, 167, 8, 240, 43, 42, 29, 4, 96, 46, 42, 29, 5, 96, 46, 42, 29, 6, 96, 46, 42, 29, 7, 96, 46, 182, 0, 32, 87, 44, 42, 29, 4, 96, 46, 42, 29, 5, 96, 46, 42, 29, 6, 96, 46, 42, 29, 7, 96, 46, 182, 0, 36, 87, 167, 8]
theorem kc_7 (j : Nat) {b : UInt8} (hj : cb_7[j]? = some b) : AtB code (448 + j) b := at_of (by decide +kernel) j hj
def cb_8 : List UInt8 := [187, 43, 42, 29, 4, 96, 46, 42, 29, 5, 96, 46, 182, 0, 37, 87, 44, 42, 29, 4, 96, 46, 42, 29, 5, 96, 46, 182, 0, 40, 87, 167, 8, 154, 43, 42, 29, 4, 96, 46, 42, 29, 5, 96, 46, 42, 29, 6, 96, 46, 42, 29, 7, 96, 46, 182, 0, 41, 87, 44, 42, 29, 4, 96]
theorem kc_8 (j : Nat) {b : UInt8} (hj : cb_8[j]? = some b) : AtB code (512 + j) b := at_of (by decide +kernel) j hj
def cb_9 : List UInt8 := [46, 42, 29, 5, 96, 46, 42, 29, 6, 96, 46, 42, 29, 7, 96, 46, 182, 0, 44, 87, 167, 8, 101, 43, 42, 29, 4, 96, 46, 42, 29, 5, 96, 46, 182, 0, 45, 87, 44, 42, 29, 4, 96, 46, 42, 29, 5, 96, 46, 182, 0, 49, 87, 167, 8, 68, 43, 42, 29, 4, 96, 46, 42, 29]
theorem kc_9 (j : Nat) {b : UInt8} (hj : cb_9[j]? = some b) : AtB code (576 + j) b := at_of (by decide +kernel) j hj
def cb_10 : List UInt8 := [5, 96, 46, 42, 29, 6, 96, 46, 182, 0, 50, 87, 44, 42, 29, 4, 96, 46, 42, 29, 5, 96, 46, 42, 29, 6, 96, 46, 182, 0, 54, 87, 167, 8, 25, 43, 42, 29, 4, 96, 46, 42, 29, 5, 96, 46, 153, 0, 7, 4, 167, 0, 4, 3, 182, 0, 55, 87, 44, 42, 29, 4, 96, 46]
theorem kc_10 (j : Nat) {b : UInt8} (hj : cb_10[j]? = some b) : AtB code (640 + j) b := at_of (by decide +kernel) j hj
def cb_11 : List UInt8 := [42, 29, 5, 96, 46, 153, 0, 7, 4, 167, 0, 4, 3, 182, 0, 59, 87, 167, 7, 232, 43, 42, 29, 4, 96, 46, 42, 29, 5, 96, 46, 42, 29, 6, 96, 46, 42, 29, 7, 96, 46, 42, 29, 8, 96, 46, 182, 0, 60, 87, 44, 42, 29, 4, 96, 46, 42, 29, 5, 96, 46, 42, 29, 6]
theorem kc_11 (j : Nat) {b : UInt8} (hj : cb_11[j]? = some b) : AtB code (704 + j) b := at_of (by decide +kernel) j hj
def cb_12 : List UInt8 := [96, 46, 42, 29, 7, 96, 46, 42, 29, 8, 96, 46, 182, 0, 64, 87, 167, 7, 169, 43, 42, 29, 4, 96, 46, 42, 29, 5, 96, 46, 42, 29, 6, 96, 46, 182, 0, 65, 87, 44, 42, 29, 4, 96, 46, 42, 29, 5, 96, 46, 42, 29, 6, 96, 46, 182, 0, 68, 87, 167, 7, 126, 43, 42]
theorem kc_12 (j : Nat) {b : UInt8} (hj : cb_12[j]? = some b) : AtB code (768 + j) b := at_of (by decide +kernel) j hj
def cb_13 : List UInt8 := [29, 4, 96, 46, 42, 29, 5, 96, 46, 182, 0, 69, 87, 44, 42, 29, 4, 96, 46, 42, 29, 5, 96, 46, 182, 0, 72, 87, 167, 7, 93, 43, 42, 29, 4, 96, 46, 42, 29, 5, 96, 46, 42, 29, 6, 96, 46, 42, 29, 7, 96, 46, 182, 0, 73, 87, 44, 42, 29, 4, 96, 46, 42, 29]
theorem kc_13 (j : Nat) {b : UInt8} (hj : cb_13[j]? = some b) : AtB code (832 + j) b := at_of (by decide +kernel) j hj
def cb_14 : List UInt8 := [5, 96, 46, 42, 29, 6, 96, 46, 42, 29, 7, 96, 46, 182, 0, 76, 87, 167, 7, 40, 43, 42, 29, 4, 96, 46, 42, 29, 5, 96, 46, 42, 29, 6, 96, 46, 182, 0, 77, 87, 44, 42, 29, 4, 96, 46, 42, 29, 5, 96, 46, 42, 29, 6, 96, 46, 182, 0, 80, 87, 167, 6, 253, 43]
theorem kc_14 (j : Nat) {b : UInt8} (hj : cb_14[j]? = some b) : AtB code (896 + j) b := at_of (by decide +kernel) j hj
def cb_15 : List UInt8 := [42, 29, 4, 96, 46, 42, 29, 5, 96, 46, 42, 29, 6, 96, 46, 182, 0, 81, 87, 44, 42, 29, 4, 96, 46, 42, 29, 5, 96, 46, 42, 29, 6, 96, 46, 182, 0, 84, 87, 167, 6, 210, 43, 42, 29, 4, 96, 46, 42, 29, 5, 96, 46, 182, 0, 85, 87, 44, 42, 29, 4, 96, 46, 42]
theorem kc_15 (j : Nat) {b : UInt8} (hj : cb_15[j]? = some b) : AtB code (960 + j) b := at_of (by decide +kernel) j hj
def cb_16 : List UInt8 := [29, 5, 96, 46, 182, 0, 88, 87, 167, 6, 177, 43, 42, 29, 4, 96, 46, 42, 29, 5, 96, 46, 42, 29, 6, 96, 46, 42, 29, 7, 96, 46, 42, 29, 8, 96, 46, 42, 29, 16, 6, 96, 46, 42, 29, 16, 7, 96, 46, 182, 0, 89, 87, 44, 42, 29, 4, 96, 46, 42, 29, 5, 96, 46]
theorem kc_16 (j : Nat) {b : UInt8} (hj : cb_16[j]? = some b) : AtB code (1024 + j) b := at_of (by decide +kernel) j hj
def cb_17 : List UInt8 := [42, 29, 6, 96, 46, 42, 29, 7, 96, 46, 42, 29, 8, 96, 46, 42, 29, 16, 6, 96, 46, 42, 29, 16, 7, 96, 46, 182, 0, 93, 87, 167, 6, 90, 43, 42, 29, 4, 96, 46, 42, 29, 5, 96, 46, 182, 0, 94, 87, 44, 42, 29, 4, 96, 46, 42, 29, 5, 96, 46, 182, 0, 97, 87]
theorem kc_17 (j : Nat) {b : UInt8} (hj : cb_17[j]? = some b) : AtB code (1088 + j) b := at_of (by decide +kernel) j hj
def cb_18 : List UInt8 := [167, 6, 57, 43, 42, 29, 4, 96, 46, 42, 29, 5, 96, 46, 182, 0, 98, 87, 44, 42, 29, 4, 96, 46, 42, 29, 5, 96, 46, 182, 0, 101, 87, 167, 6, 24, 43, 42, 29, 4, 96, 46, 42, 29, 5, 96, 46, 42, 29, 6, 96, 46, 153, 0, 7, 4, 167, 0, 4, 3, 182, 0, 102, 87]
theorem kc_18 (j : Nat) {b : UInt8} (hj : cb_18[j]? = some b) : AtB code (1152 + j) b := at_of (by decide +kernel) j hj
def cb_19 : List UInt8 := [44, 42, 29, 4, 96, 46, 42, 29, 5, 96, 46, 42, 29, 6, 96, 46, 153, 0, 7, 4, 167, 0, 4, 3, 182, 0, 106, 87, 167, 5, 221, 43, 42, 29, 4, 96, 46, 42, 29, 5, 96, 46, 42, 29, 6, 96, 46, 153, 0, 7, 4, 167, 0, 4, 3, 182, 0, 107, 87, 44, 42, 29, 4, 96]
theorem kc_19 (j : Nat) {b : UInt8} (hj : cb_19[j]? = some b) : AtB code (1216 + j) b := at_of (by decide +kernel) j hj
def cb_20 : List UInt8 := [46, 42, 29, 5, 96, 46, 42, 29, 6, 96, 46, 153, 0, 7, 4, 167, 0, 4, 3, 182, 0, 111, 87, 167, 5, 162, 43, 42, 29, 4, 96, 46, 42, 29, 5, 96, 46, 42, 29, 6, 96, 46, 153, 0, 7, 4, 167, 0, 4, 3, 42, 29, 7, 96, 46, 182, 0, 112, 87, 44, 42, 29, 4, 96]
theorem kc_20 (j : Nat) {b : UInt8} (hj : cb_20[j]? = some b) : AtB code (1280 + j) b := at_of (by decide +kernel) j hj
def cb_21 : List UInt8 := [46, 42, 29, 5, 96, 46, 42, 29, 6, 96, 46, 153, 0, 7, 4, 167, 0, 4, 3, 42, 29, 7, 96, 46, 182, 0, 116, 87, 167, 5, 93, 43, 42, 29, 4, 96, 46, 42, 29, 5, 96, 46, 182, 0, 117, 87, 44, 42, 29, 4, 96, 46, 42, 29, 5, 96, 46, 182, 0, 120, 87, 167, 5, 60]
theorem kc_21 (j : Nat) {b : UInt8} (hj : cb_21[j]? = some b) : AtB code (1344 + j) b := at_of (by decide +kernel) j hj
def cb_22 : List UInt8 := [43, 42, 29, 4, 96, 46, 42, 29, 5, 96, 46, 42, 29, 6, 96, 46, 182, 0, 121, 87, 44, 42, 29, 4, 96, 46, 42, 29, 5, 96, 46, 42, 29, 6, 96, 46, 182, 0, 124, 87, 167, 5, 17, 43, 42, 29, 4, 96, 46, 42, 29, 5, 96, 46, 42, 29, 6, 96, 46, 182, 0, 125, 87, 44]
theorem kc_22 (j : Nat) {b : UInt8} (hj : cb_22[j]? = some b) : AtB code (1408 + j) b := at_of (by decide +kernel) j hj
def cb_23 : List UInt8 := [42, 29, 4, 96, 46, 42, 29, 5, 96, 46, 42, 29, 6, 96, 46, 182, 0, 129, 87, 167, 4, 230, 43, 42, 29, 4, 96, 46, 42, 29, 5, 96, 46, 182, 0, 130, 87, 44, 42, 29, 4, 96, 46, 42, 29, 5, 96, 46, 182, 0, 133, 87, 167, 4, 197, 43, 42, 29, 4, 96, 46, 42, 29, 5]
theorem kc_23 (j : Nat) {b : UInt8} (hj : cb_23[j]? = some b) : AtB code (1472 + j) b := at_of (by decide +kernel) j hj
def cb_24 : List UInt8 := [96, 46, 42, 29, 6, 96, 46, 42, 29, 7, 96, 46, 182, 0, 134, 87, 44, 42, 29, 4, 96, 46, 42, 29, 5, 96, 46, 42, 29, 6, 96, 46, 42, 29, 7, 96, 46, 182, 0, 138, 87, 167, 4, 144, 43, 42, 29, 4, 96, 46, 42, 29, 5, 96, 46, 42, 29, 6, 96, 46, 182, 0, 139, 87]
theorem kc_24 (j : Nat) {b : UInt8} (hj : cb_24[j]? = some b) : AtB code (1536 + j) b := at_of (by decide +kernel) j hj
def cb_25 : List UInt8 := [44, 42, 29, 4, 96, 46, 42, 29, 5, 96, 46, 42, 29, 6, 96, 46, 182, 0, 142, 87, 167, 4, 101, 43, 42, 29, 4, 96, 46, 42, 29, 5, 96, 46, 182, 0, 143, 87, 44, 42, 29, 4, 96, 46, 42, 29, 5, 96, 46, 182, 0, 146, 87, 167, 4, 68, 43, 42, 29, 4, 96, 46, 42, 29]
theorem kc_25 (j : Nat) {b : UInt8} (hj : cb_25[j]? = some b) : AtB code (1600 + j) b := at_of (by decide +kernel) j hj
def cb_26 : List UInt8 := [5, 96, 46, 182, 0, 147, 87, 44, 42, 29, 4, 96, 46, 42, 29, 5, 96, 46, 182, 0, 150, 87, 167, 4, 35, 43, 42, 29, 4, 96, 46, 42, 29, 5, 96, 46, 42, 29, 6, 96, 46, 182, 0, 151, 87, 44, 42, 29, 4, 96, 46, 42, 29, 5, 96, 46, 42, 29, 6, 96, 46, 182, 0, 154]
theorem kc_26 (j : Nat) {b : UInt8} (hj : cb_26[j]? = some b) : AtB code (1664 + j) b := at_of (by decide +kernel) j hj
def cb_27 : List UInt8 := [87, 167, 3, 248, 43, 42, 29, 4, 96, 46, 42, 29, 5, 96, 46, 182, 0, 155, 87, 44, 42, 29, 4, 96, 46, 42, 29, 5, 96, 46, 182, 0, 158, 87, 167, 3, 215, 43, 42, 29, 4, 96, 46, 42, 29, 5, 96, 46, 182, 0, 159, 87, 44, 42, 29, 4, 96, 46, 42, 29, 5, 96, 46, 182]
theorem kc_27 (j : Nat) {b : UInt8} (hj : cb_27[j]? = some b) : AtB code (1728 + j) b := at_of (by decide +kernel) j hj
def cb_28 : List UInt8 := [0, 162, 87, 167, 3, 182, 43, 182, 0, 163, 87, 44, 182, 0, 167, 87, 167, 3, 169, 43, 42, 29, 4, 96, 46, 42, 29, 5, 96, 46, 42, 29, 6, 96, 46, 182, 0, 168, 87, 44, 42, 29, 4, 96, 46, 42, 29, 5, 96, 46, 42, 29, 6, 96, 46, 182, 0, 171, 87, 167, 3, 126, 43, 42]
theorem kc_28 (j : Nat) {b : UInt8} (hj : cb_28[j]? = some b) : AtB code (1792 + j) b := at_of (by decide +kernel) j hj
def cb_29 : List UInt8 := [29, 4, 96, 46, 182, 0, 172, 87, 44, 42, 29, 4, 96, 46, 182, 0, 176, 87, 167, 3, 103, 43, 42, 29, 4, 96, 46, 42, 29, 5, 96, 46, 182, 0, 177, 87, 44, 42, 29, 4, 96, 46, 42, 29, 5, 96, 46, 182, 0, 180, 87, 167, 3, 70, 43, 42, 29, 4, 96, 46, 42, 29, 5, 96]
theorem kc_29 (j : Nat) {b : UInt8} (hj : cb_29[j]? = some b) : AtB code (1856 + j) b := at_of (by decide +kernel) j hj
def cb_30 : List UInt8 := [46, 182, 0, 181, 87, 44, 42, 29, 4, 96, 46, 42, 29, 5, 96, 46, 182, 0, 184, 87, 167, 3, 37, 43, 42, 29, 4, 96, 46, 42, 29, 5, 96, 46, 42, 29, 6, 96, 46, 182, 0, 185, 87, 44, 42, 29, 4, 96, 46, 42, 29, 5, 96, 46, 42, 29, 6, 96, 46, 182, 0, 188, 87, 167]
theorem kc_30 (j : Nat) {b : UInt8} (hj : cb_30[j]? = some b) : AtB code (1920 + j) b := at_of (by decide +kernel) j hj
def cb_31 : List UInt8 := [2, 250, 43, 42, 29, 4, 96, 46, 42, 29, 5, 96, 46, 42, 29, 6, 96, 46, 42, 29, 7, 96, 46, 42, 29, 8, 96, 46, 182, 0, 189, 87, 44, 42, 29, 4, 96, 46, 42, 29, 5, 96, 46, 42, 29, 6, 96, 46, 42, 29, 7, 96, 46, 42, 29, 8, 96, 46, 182, 0, 192, 87, 167, 2]
theorem kc_31 (j : Nat) {b : UInt8} (hj : cb_31[j]? = some b) : AtB code (1984 + j) b := at_of (by decide +kernel) j hj
def cb_32 : List UInt8 := [187, 43, 42, 29, 4, 96, 46, 42, 29, 5, 96, 46, 182, 0, 193, 87, 44, 42, 29, 4, 96, 46, 42, 29, 5, 96, 46, 182, 0, 196, 87, 167, 2, 154, 43, 42, 29, 4, 96, 46, 42, 29, 5, 96, 46, 42, 29, 6, 96, 46, 42, 29, 7, 96, 46, 42, 29, 8, 96, 46, 182, 0, 197, 44]
theorem kc_32 (j : Nat) {b : UInt8} (hj : cb_32[j]? = some b) : AtB code (2048 + j) b := at_of (by decide +kernel) j hj
def cb_33 : List UInt8 := [42, 29, 4, 96, 46, 42, 29, 5, 96, 46, 42, 29, 6, 96, 46, 42, 29, 7, 96, 46, 42, 29, 8, 96, 46, 182, 0, 200, 159, 2, 93, 3, 172, 43, 182, 0, 201, 87, 44, 182, 0, 204, 87, 167, 2, 78, 43, 42, 29, 4, 96, 46, 182, 0, 205, 87, 44, 42, 29, 4, 96, 46, 182, 0]
theorem kc_33 (j : Nat) {b : UInt8} (hj : cb_33[j]? = some b) : AtB code (2112 + j) b := at_of (by decide +kernel) j hj
def cb_34 : List UInt8 := [208, 87, 167, 2, 55, 43, 42, 29, 4, 96, 46, 182, 0, 209, 87, 44, 42, 29, 4, 96, 46, 182, 0, 212, 87, 167, 2, 32, 43, 42, 29, 4, 96, 46, 42, 29, 5, 96, 46, 42, 29, 6, 96, 46, 182, 0, 213, 87, 44, 42, 29, 4, 96, 46, 42, 29, 5, 96, 46, 42, 29, 6, 96, 46]
theorem kc_34 (j : Nat) {b : UInt8} (hj : cb_34[j]? = some b) : AtB code (2176 + j) b := at_of (by decide +kernel) j hj
def cb_35 : List UInt8 := [182, 0, 216, 87, 167, 1, 245, 43, 42, 29, 4, 96, 46, 182, 0, 217, 87, 44, 42, 29, 4, 96, 46, 182, 0, 220, 87, 167, 1, 222, 43, 182, 0, 221, 87, 44, 182, 0, 224, 87, 167, 1, 209, 43, 42, 29, 4, 96, 46, 42, 29, 5, 96, 46, 182, 0, 225, 87, 44, 42, 29, 4, 96, 46]
theorem kc_35 (j : Nat) {b : UInt8} (hj : cb_35[j]? = some b) : AtB code (2240 + j) b := at_of (by decide +kernel) j hj
def cb_36 : List UInt8 := [42, 29, 5, 96, 46, 182, 0, 228, 87, 167, 1, 176, 43, 42, 29, 4, 96, 46, 42, 29, 5, 96, 46, 42, 29, 6, 96, 46, 42, 29, 7, 96, 46, 182, 0, 229, 87, 44, 42, 29, 4, 96, 46, 42, 29, 5, 96, 46, 42, 29, 6, 96, 46, 42, 29, 7, 96, 46, 182, 0, 232, 87, 167, 1]
theorem kc_36 (j : Nat) {b : UInt8} (hj : cb_36[j]? = some b) : AtB code (2304 + j) b := at_of (by decide +kernel) j hj
def cb_37 : List UInt8 := [123, 43, 42, 29, 4, 96, 46, 42, 29, 5, 96, 46, 42, 29, 6, 96, 46, 182, 0, 233, 87, 44, 42, 29, 4, 96, 46, 42, 29, 5, 96, 46, 42, 29, 6, 96, 46, 182, 0, 236, 87, 167, 1, 80, 43, 42, 29, 4, 96, 46, 42, 29, 5, 96, 46, 42, 29, 6, 96, 46, 42, 29, 7, 96]
theorem kc_37 (j : Nat) {b : UInt8} (hj : cb_37[j]? = some b) : AtB code (2368 + j) b := at_of (by decide +kernel) j hj
def cb_38 : List UInt8 := [46, 182, 0, 237, 87, 44, 42, 29, 4, 96, 46, 42, 29, 5, 96, 46, 42, 29, 6, 96, 46, 42, 29, 7, 96, 46, 182, 0, 240, 87, 167, 1, 27, 43, 42, 29, 4, 96, 46, 42, 29, 5, 96, 46, 42, 29, 6, 96, 46, 42, 29, 7, 96, 46, 153, 0, 7, 4, 167, 0, 4, 3, 182, 0]
theorem kc_38 (j : Nat) {b : UInt8} (hj : cb_38[j]? = some b) : AtB code (2432 + j) b := at_of (by decide +kernel) j hj
def cb_39 : List UInt8 := [241, 87, 44, 42, 29, 4, 96, 46, 42, 29, 5, 96, 46, 42, 29, 6, 96, 46, 42, 29, 7, 96, 46, 153, 0, 7, 4, 167, 0, 4, 3, 182, 0, 245, 87, 167, 0, 214, 43, 42, 29, 4, 96, 46, 42, 29, 5, 96, 46, 42, 29, 6, 96, 46, 182, 0, 246, 87, 44, 42, 29, 4, 96, 46]
theorem kc_39 (j : Nat) {b : UInt8} (hj : cb_39[j]? = some b) : AtB code (2496 + j) b := at_of (by decide +kernel) j hj
def cb_40 : List UInt8 := [42, 29, 5, 96, 46, 42, 29, 6, 96, 46, 182, 0, 249, 87, 167, 0, 171, 43, 42, 29, 4, 96, 46, 182, 0, 250, 87, 44, 42, 29, 4, 96, 46, 182, 0, 253, 87, 167, 0, 148, 43, 42, 29, 4, 96, 46, 42, 29, 5, 96, 46, 182, 0, 254, 87, 44, 42, 29, 4, 96, 46, 42, 29, 5]
theorem kc_40 (j : Nat) {b : UInt8} (hj : cb_40[j]? = some b) : AtB code (2560 + j) b := at_of (by decide +kernel) j hj
def cb_41 : List UInt8 := [96, 46, 182, 1, 1, 87, 167, 0, 115, 43, 42, 29, 4, 96, 46, 42, 29, 5, 96, 46, 182, 1, 2, 87, 44, 42, 29, 4, 96, 46, 42, 29, 5, 96, 46, 182, 1, 5, 87, 167, 0, 82, 43, 42, 29, 4, 96, 46, 42, 29, 5, 96, 46, 182, 1, 6, 87, 44, 42, 29, 4, 96, 46, 42]
theorem kc_41 (j : Nat) {b : UInt8} (hj : cb_41[j]? = some b) : AtB code (2624 + j) b := at_of (by decide +kernel) j hj
def cb_42 : List UInt8 := [29, 5, 96, 46, 182, 1, 9, 87, 167, 0, 49, 43, 42, 29, 4, 96, 46, 182, 1, 10, 88, 44, 42, 29, 4, 96, 46, 182, 1, 14, 88, 167, 0, 26, 43, 42, 29, 4, 96, 46, 182, 1, 15, 87, 44, 42, 29, 4, 96, 46, 182, 1, 18, 87, 167, 0, 3, 132, 3, 8, 167, 245, 86, 4]
theorem kc_42 (j : Nat) {b : UInt8} (hj : cb_42[j]? = some b) : AtB code (2688 + j) b := at_of (by decide +kernel) j hj
def cb_43 : List UInt8 := [172]
theorem kc_43 (j : Nat) {b : UInt8} (hj : cb_43[j]? = some b) : AtB code (2752 + j) b := at_of (by decide +kernel) j hj
def LL_law_x : List (Nat × Instr × Nat) := [(0, .new 7, 3), (3, .dup, 1), (4, .invokespecial 9, 3), (7, .astore_n 1, 1), (8, .new 10, 3), (11, .dup, 1), (12, .invokespecial 12, 3), (15, .astore_n 2, 1), (17, .istore_n 3, 1), (20, .arraylength, 1), (23, .isub, 1), (24, .if_icmp .gt 2727, 3), (32, .iand, 1), (33, .tableswitch 2712 0 60 #[259, 292, 355, 388, 427, 480, 513, 566, 599, 642, 691, 754, 797, 830, 883, 926, 969, 1002, 1089, 1122, 1155, 1214, 1273, 1342, 1375, 1418, 1461, 1494, 1547, 1590, 1623, 1656, 1699, 1732, 1765, 1778, 1821, 1844, 1877, 1910, 1953, 2016, 2049, 2112, 2125, 2148, 2171, 2214, 2237, 2250, 2283, 2336, 2379, 2432, 2501, 2544, 2567, 2600, 2633, 2666, 2689], 259), (2140, .if_icmp .eq 605, 3), (2144, .ireturn, 1), (2745, .iinc 3 8, 3), (2752, .ireturn, 1)]
theorem kL_law_x : chkB code LL_law_x = true := by decide +kernel
theorem dL_law_0 : decode code 0 = .ok (.new 7, 3) := getB' kL_law_x 0 rfl
theorem dL_law_3 : decode code 3 = .ok (.dup, 1) := getB' kL_law_x 1 rfl
theorem dL_law_4 : decode code 4 = .ok (.invokespecial 9, 3) := getB' kL_law_x 2 rfl
theorem dL_law_7 : decode code 7 = .ok (.astore_n 1, 1) := getB' kL_law_x 3 rfl
theorem dL_law_8 : decode code 8 = .ok (.new 10, 3) := getB' kL_law_x 4 rfl
theorem dL_law_11 : decode code 11 = .ok (.dup, 1) := getB' kL_law_x 5 rfl
theorem dL_law_12 : decode code 12 = .ok (.invokespecial 12, 3) := getB' kL_law_x 6 rfl
theorem dL_law_15 : decode code 15 = .ok (.astore_n 2, 1) := getB' kL_law_x 7 rfl
theorem dL_law_17 : decode code 17 = .ok (.istore_n 3, 1) := getB' kL_law_x 8 rfl
theorem dL_law_20 : decode code 20 = .ok (.arraylength, 1) := getB' kL_law_x 9 rfl
theorem dL_law_23 : decode code 23 = .ok (.isub, 1) := getB' kL_law_x 10 rfl
theorem dL_law_24 : decode code 24 = .ok (.if_icmp .gt 2727, 3) := getB' kL_law_x 11 rfl
theorem dL_law_32 : decode code 32 = .ok (.iand, 1) := getB' kL_law_x 12 rfl
theorem dL_law_33 : decode code 33 = .ok (.tableswitch 2712 0 60 #[259, 292, 355, 388, 427, 480, 513, 566, 599, 642, 691, 754, 797, 830, 883, 926, 969, 1002, 1089, 1122, 1155, 1214, 1273, 1342, 1375, 1418, 1461, 1494, 1547, 1590, 1623, 1656, 1699, 1732, 1765, 1778, 1821, 1844, 1877, 1910, 1953, 2016, 2049, 2112, 2125, 2148, 2171, 2214, 2237, 2250, 2283, 2336, 2379, 2432, 2501, 2544, 2567, 2600, 2633, 2666, 2689], 259) := getB' kL_law_x 13 rfl
theorem dL_law_2140 : decode code 2140 = .ok (.if_icmp .eq 605, 3) := getB' kL_law_x 14 rfl
theorem dL_law_2144 : decode code 2144 = .ok (.ireturn, 1) := getB' kL_law_x 15 rfl
theorem dL_law_2745 : decode code 2745 = .ok (.iinc 3 8, 3) := getB' kL_law_x 16 rfl
theorem dL_law_2752 : decode code 2752 = .ok (.ireturn, 1) := getB' kL_law_x 17 rfl
