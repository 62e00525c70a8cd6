/-! ### the law's bytes, in pieces: what stands at a place -/
def AtB (B : ByteArray) (p : Nat) (b : UInt8) : Prop := B.data.toList[p]? = some b
section D1
variable {B : ByteArray} {p q n v : Nat} {a b c : UInt8}
theorem AtB.lt (h : AtB B p b) : p < B.size := by
  have h1 := (List.getElem?_eq_some_iff.mp h).1
  simpa using h1
theorem AtB.val (h : AtB B p b) : B[p]'h.lt = b := by
  obtain ⟨h1, h2⟩ := List.getElem?_eq_some_iff.mp h
  exact (show B[p]'h.lt = B.data.toList[p]'h1 from rfl).trans h2
theorem at_of {l : List UInt8} {o : Nat} (h : (B.data.toList.drop o).take 64 = l) (j : Nat) {b : UInt8} (hj : l[j]? = some b) : AtB B (o + j) b := by
  unfold AtB
  have h64 : j < 64 := by
    have h1 := (List.getElem?_eq_some_iff.mp hj).1
    rw [← h, List.length_take] at h1
    omega
  rw [← h, List.getElem?_take_of_lt h64, List.getElem?_drop] at hj
  exact hj
theorem dc_bind {α β : Type} {x : Decoder α} {f : α → Decoder β} {r : α} (h : x B p = .ok (r, q)) : (x >>= f) B p = f r B q := by
  show (x B p >>= fun y => f y.1 B y.2) = _
  rw [h]
  rfl
theorem dc_u1 (h : AtB B p b) : (Reader.u1 : Decoder Nat) B p = .ok (b.toNat, p + 1) := by
  show (dite (p < B.size) (fun hp => (do set (p + 1); pure (B[p]'hp).toNat : Decoder Nat)) (fun _ => throw (HasTruncated.truncated p))) B p = _
  rw [dif_pos h.lt]
  show Except.ok ((B[p]'h.lt).toNat, p + 1) = _
  rw [h.val]
theorem dc_u2 (h : AtB B p a) (h2 : AtB B (p + 1) b) : (Reader.u2 : Decoder Nat) B p = .ok (a.toNat * 256 + b.toNat, p + 2) := by
  unfold Reader.u2
  rw [dc_bind (dc_u1 h), dc_bind (dc_u1 h2)]
  rfl
theorem dc_map {α β : Type} {x : Decoder α} {f : α → β} {r : α} (h : x B p = .ok (r, q)) : (f <$> x) B p = .ok (f r, q) := by
  show (x B p >>= fun y => pure (f y.1, y.2)) = _
  rw [h]
  rfl
theorem dc_s1 (h : AtB B p a) : (Reader.s1 : Decoder Int) B p = .ok (Reader.signed 8 a.toNat, p + 1) := dc_map (dc_u1 h)
theorem dc_s2 (h : AtB B p a) (h2 : AtB B (p + 1) b) : (Reader.s2 : Decoder Int) B p = .ok (Reader.signed 16 (a.toNat * 256 + b.toNat), p + 2) := dc_map (dc_u2 h h2)
theorem dc_of {i : Instr} (h : Decoder.instr p B p = .ok (i, q)) (hn : q - p = n) : decode B p = .ok (i, n) := by
  subst hn
  show (Decoder.instr p B p >>= fun y => pure (y.1, y.2 - p)) = _
  rw [h]
  rfl
end D1
theorem at_of32 {B : ByteArray} {l : List UInt8} {o : Nat} (h : (B.data.toList.drop o).take 32 = l) (j : Nat) {b : UInt8} (hj : l[j]? = some b) : AtB B (o + j) b := by
  unfold AtB
  have h32 : j < 32 := by
    have h1 := (List.getElem?_eq_some_iff.mp hj).1
    rw [← h, List.length_take] at h1
    omega
  rw [← h, List.getElem?_take_of_lt h32, List.getElem?_drop] at hj
  exact hj
section D2
variable {B : ByteArray} {p v : Nat} {w w2 : Int} {a b : UInt8}
set_option maxRecDepth 100000 in
theorem dq_1 (h : AtB B p 1) : decode B p = .ok (.aconst_null, 1) := dc_of (q := p + 1) ((dc_bind (dc_u1 h)).trans rfl) (by omega)
set_option maxRecDepth 100000 in
theorem dq_2 (h : AtB B p 2) : decode B p = .ok ((.iconst (-1)), 1) := dc_of (q := p + 1) ((dc_bind (dc_u1 h)).trans rfl) (by omega)
set_option maxRecDepth 100000 in
theorem dq_3 (h : AtB B p 3) : decode B p = .ok ((.iconst 0), 1) := dc_of (q := p + 1) ((dc_bind (dc_u1 h)).trans rfl) (by omega)
set_option maxRecDepth 100000 in
theorem dq_4 (h : AtB B p 4) : decode B p = .ok ((.iconst 1), 1) := dc_of (q := p + 1) ((dc_bind (dc_u1 h)).trans rfl) (by omega)
set_option maxRecDepth 100000 in
theorem dq_5 (h : AtB B p 5) : decode B p = .ok ((.iconst 2), 1) := dc_of (q := p + 1) ((dc_bind (dc_u1 h)).trans rfl) (by omega)
set_option maxRecDepth 100000 in
theorem dq_6 (h : AtB B p 6) : decode B p = .ok ((.iconst 3), 1) := dc_of (q := p + 1) ((dc_bind (dc_u1 h)).trans rfl) (by omega)
set_option maxRecDepth 100000 in
theorem dq_7 (h : AtB B p 7) : decode B p = .ok ((.iconst 4), 1) := dc_of (q := p + 1) ((dc_bind (dc_u1 h)).trans rfl) (by omega)
set_option maxRecDepth 100000 in
theorem dq_8 (h : AtB B p 8) : decode B p = .ok ((.iconst 5), 1) := dc_of (q := p + 1) ((dc_bind (dc_u1 h)).trans rfl) (by omega)
set_option maxRecDepth 100000 in
theorem dq_9 (h : AtB B p 9) : decode B p = .ok ((.lconst 0), 1) := dc_of (q := p + 1) ((dc_bind (dc_u1 h)).trans rfl) (by omega)
set_option maxRecDepth 100000 in
theorem dq_16 (h : AtB B p 16) (h1 : AtB B (p + 1) a) (hv : Reader.signed 8 a.toNat = w) : decode B p = .ok (.bipush w, 2) := dc_of (q := p + 1 + 1) ((dc_bind (dc_u1 h)).trans (by
  subst hv
  exact (dc_bind (dc_s1 h1)).trans rfl)) (by omega)
set_option maxRecDepth 100000 in
theorem dq_17 (h : AtB B p 17) (h1 : AtB B (p + 1) a) (h2 : AtB B (p + 1 + 1) b) (hv : Reader.signed 16 (a.toNat * 256 + b.toNat) = w) : decode B p = .ok (.sipush w, 3) := dc_of (q := p + 1 + 2) ((dc_bind (dc_u1 h)).trans (by
  subst hv
  exact (dc_bind (dc_s2 h1 h2)).trans rfl)) (by omega)
set_option maxRecDepth 100000 in
theorem dq_18 (h : AtB B p 18) (h1 : AtB B (p + 1) a) (hv : a.toNat = v) : decode B p = .ok (.ldc v, 2) := dc_of (q := p + 1 + 1) ((dc_bind (dc_u1 h)).trans (by
  subst hv
  exact (dc_bind (dc_u1 h1)).trans rfl)) (by omega)
set_option maxRecDepth 100000 in
theorem dq_19 (h : AtB B p 19) (h1 : AtB B (p + 1) a) (h2 : AtB B (p + 1 + 1) b) (hv : a.toNat * 256 + b.toNat = v) : decode B p = .ok (.ldc_w v, 3) := dc_of (q := p + 1 + 2) ((dc_bind (dc_u1 h)).trans (by
  subst hv
  exact (dc_bind (dc_u2 h1 h2)).trans rfl)) (by omega)
set_option maxRecDepth 100000 in
theorem dq_20 (h : AtB B p 20) (h1 : AtB B (p + 1) a) (h2 : AtB B (p + 1 + 1) b) (hv : a.toNat * 256 + b.toNat = v) : decode B p = .ok (.ldc2_w v, 3) := dc_of (q := p + 1 + 2) ((dc_bind (dc_u1 h)).trans (by
  subst hv
  exact (dc_bind (dc_u2 h1 h2)).trans rfl)) (by omega)
set_option maxRecDepth 100000 in
theorem dq_21 (h : AtB B p 21) (h1 : AtB B (p + 1) a) (hv : a.toNat = v) : decode B p = .ok (.iload v, 2) := dc_of (q := p + 1 + 1) ((dc_bind (dc_u1 h)).trans (by
  subst hv
  exact (dc_bind (dc_u1 h1)).trans rfl)) (by omega)
set_option maxRecDepth 100000 in
theorem dq_25 (h : AtB B p 25) (h1 : AtB B (p + 1) a) (hv : a.toNat = v) : decode B p = .ok (.aload v, 2) := dc_of (q := p + 1 + 1) ((dc_bind (dc_u1 h)).trans (by
  subst hv
  exact (dc_bind (dc_u1 h1)).trans rfl)) (by omega)
set_option maxRecDepth 100000 in
theorem dq_26 (h : AtB B p 26) : decode B p = .ok ((.iload_n 0), 1) := dc_of (q := p + 1) ((dc_bind (dc_u1 h)).trans rfl) (by omega)
set_option maxRecDepth 100000 in
theorem dq_27 (h : AtB B p 27) : decode B p = .ok ((.iload_n 1), 1) := dc_of (q := p + 1) ((dc_bind (dc_u1 h)).trans rfl) (by omega)
set_option maxRecDepth 100000 in
theorem dq_28 (h : AtB B p 28) : decode B p = .ok ((.iload_n 2), 1) := dc_of (q := p + 1) ((dc_bind (dc_u1 h)).trans rfl) (by omega)
set_option maxRecDepth 100000 in
theorem dq_29 (h : AtB B p 29) : decode B p = .ok ((.iload_n 3), 1) := dc_of (q := p + 1) ((dc_bind (dc_u1 h)).trans rfl) (by omega)
set_option maxRecDepth 100000 in
theorem dq_33 (h : AtB B p 33) : decode B p = .ok ((.lload_n 3), 1) := dc_of (q := p + 1) ((dc_bind (dc_u1 h)).trans rfl) (by omega)
set_option maxRecDepth 100000 in
theorem dq_42 (h : AtB B p 42) : decode B p = .ok ((.aload_n 0), 1) := dc_of (q := p + 1) ((dc_bind (dc_u1 h)).trans rfl) (by omega)
set_option maxRecDepth 100000 in
theorem dq_43 (h : AtB B p 43) : decode B p = .ok ((.aload_n 1), 1) := dc_of (q := p + 1) ((dc_bind (dc_u1 h)).trans rfl) (by omega)
set_option maxRecDepth 100000 in
theorem dq_44 (h : AtB B p 44) : decode B p = .ok ((.aload_n 2), 1) := dc_of (q := p + 1) ((dc_bind (dc_u1 h)).trans rfl) (by omega)
set_option maxRecDepth 100000 in
theorem dq_45 (h : AtB B p 45) : decode B p = .ok ((.aload_n 3), 1) := dc_of (q := p + 1) ((dc_bind (dc_u1 h)).trans rfl) (by omega)
set_option maxRecDepth 100000 in
theorem dq_46 (h : AtB B p 46) : decode B p = .ok (.iaload, 1) := dc_of (q := p + 1) ((dc_bind (dc_u1 h)).trans rfl) (by omega)
set_option maxRecDepth 100000 in
theorem dq_47 (h : AtB B p 47) : decode B p = .ok (.laload, 1) := dc_of (q := p + 1) ((dc_bind (dc_u1 h)).trans rfl) (by omega)
set_option maxRecDepth 100000 in
theorem dq_50 (h : AtB B p 50) : decode B p = .ok (.aaload, 1) := dc_of (q := p + 1) ((dc_bind (dc_u1 h)).trans rfl) (by omega)
set_option maxRecDepth 100000 in
theorem dq_51 (h : AtB B p 51) : decode B p = .ok (.baload, 1) := dc_of (q := p + 1) ((dc_bind (dc_u1 h)).trans rfl) (by omega)
set_option maxRecDepth 100000 in
theorem dq_54 (h : AtB B p 54) (h1 : AtB B (p + 1) a) (hv : a.toNat = v) : decode B p = .ok (.istore v, 2) := dc_of (q := p + 1 + 1) ((dc_bind (dc_u1 h)).trans (by
  subst hv
  exact (dc_bind (dc_u1 h1)).trans rfl)) (by omega)
set_option maxRecDepth 100000 in
theorem dq_58 (h : AtB B p 58) (h1 : AtB B (p + 1) a) (hv : a.toNat = v) : decode B p = .ok (.astore v, 2) := dc_of (q := p + 1 + 1) ((dc_bind (dc_u1 h)).trans (by
  subst hv
  exact (dc_bind (dc_u1 h1)).trans rfl)) (by omega)
set_option maxRecDepth 100000 in
theorem dq_59 (h : AtB B p 59) : decode B p = .ok ((.istore_n 0), 1) := dc_of (q := p + 1) ((dc_bind (dc_u1 h)).trans rfl) (by omega)
set_option maxRecDepth 100000 in
theorem dq_60 (h : AtB B p 60) : decode B p = .ok ((.istore_n 1), 1) := dc_of (q := p + 1) ((dc_bind (dc_u1 h)).trans rfl) (by omega)
set_option maxRecDepth 100000 in
theorem dq_61 (h : AtB B p 61) : decode B p = .ok ((.istore_n 2), 1) := dc_of (q := p + 1) ((dc_bind (dc_u1 h)).trans rfl) (by omega)
set_option maxRecDepth 100000 in
theorem dq_62 (h : AtB B p 62) : decode B p = .ok ((.istore_n 3), 1) := dc_of (q := p + 1) ((dc_bind (dc_u1 h)).trans rfl) (by omega)
set_option maxRecDepth 100000 in
theorem dq_66 (h : AtB B p 66) : decode B p = .ok ((.lstore_n 3), 1) := dc_of (q := p + 1) ((dc_bind (dc_u1 h)).trans rfl) (by omega)
set_option maxRecDepth 100000 in
theorem dq_76 (h : AtB B p 76) : decode B p = .ok ((.astore_n 1), 1) := dc_of (q := p + 1) ((dc_bind (dc_u1 h)).trans rfl) (by omega)
set_option maxRecDepth 100000 in
theorem dq_77 (h : AtB B p 77) : decode B p = .ok ((.astore_n 2), 1) := dc_of (q := p + 1) ((dc_bind (dc_u1 h)).trans rfl) (by omega)
set_option maxRecDepth 100000 in
theorem dq_78 (h : AtB B p 78) : decode B p = .ok ((.astore_n 3), 1) := dc_of (q := p + 1) ((dc_bind (dc_u1 h)).trans rfl) (by omega)
set_option maxRecDepth 100000 in
theorem dq_79 (h : AtB B p 79) : decode B p = .ok (.iastore, 1) := dc_of (q := p + 1) ((dc_bind (dc_u1 h)).trans rfl) (by omega)
set_option maxRecDepth 100000 in
theorem dq_80 (h : AtB B p 80) : decode B p = .ok (.lastore, 1) := dc_of (q := p + 1) ((dc_bind (dc_u1 h)).trans rfl) (by omega)
set_option maxRecDepth 100000 in
theorem dq_83 (h : AtB B p 83) : decode B p = .ok (.aastore, 1) := dc_of (q := p + 1) ((dc_bind (dc_u1 h)).trans rfl) (by omega)
set_option maxRecDepth 100000 in
theorem dq_84 (h : AtB B p 84) : decode B p = .ok (.bastore, 1) := dc_of (q := p + 1) ((dc_bind (dc_u1 h)).trans rfl) (by omega)
set_option maxRecDepth 100000 in
theorem dq_87 (h : AtB B p 87) : decode B p = .ok (.pop, 1) := dc_of (q := p + 1) ((dc_bind (dc_u1 h)).trans rfl) (by omega)
set_option maxRecDepth 100000 in
theorem dq_88 (h : AtB B p 88) : decode B p = .ok (.pop2, 1) := dc_of (q := p + 1) ((dc_bind (dc_u1 h)).trans rfl) (by omega)
set_option maxRecDepth 100000 in
theorem dq_89 (h : AtB B p 89) : decode B p = .ok (.dup, 1) := dc_of (q := p + 1) ((dc_bind (dc_u1 h)).trans rfl) (by omega)
set_option maxRecDepth 100000 in
theorem dq_90 (h : AtB B p 90) : decode B p = .ok (.dup_x1, 1) := dc_of (q := p + 1) ((dc_bind (dc_u1 h)).trans rfl) (by omega)
set_option maxRecDepth 100000 in
theorem dq_92 (h : AtB B p 92) : decode B p = .ok (.dup2, 1) := dc_of (q := p + 1) ((dc_bind (dc_u1 h)).trans rfl) (by omega)
set_option maxRecDepth 100000 in
theorem dq_96 (h : AtB B p 96) : decode B p = .ok (.iadd, 1) := dc_of (q := p + 1) ((dc_bind (dc_u1 h)).trans rfl) (by omega)
set_option maxRecDepth 100000 in
theorem dq_97 (h : AtB B p 97) : decode B p = .ok (.ladd, 1) := dc_of (q := p + 1) ((dc_bind (dc_u1 h)).trans rfl) (by omega)
set_option maxRecDepth 100000 in
theorem dq_100 (h : AtB B p 100) : decode B p = .ok (.isub, 1) := dc_of (q := p + 1) ((dc_bind (dc_u1 h)).trans rfl) (by omega)
set_option maxRecDepth 100000 in
theorem dq_104 (h : AtB B p 104) : decode B p = .ok (.imul, 1) := dc_of (q := p + 1) ((dc_bind (dc_u1 h)).trans rfl) (by omega)
set_option maxRecDepth 100000 in
theorem dq_108 (h : AtB B p 108) : decode B p = .ok (.idiv, 1) := dc_of (q := p + 1) ((dc_bind (dc_u1 h)).trans rfl) (by omega)
set_option maxRecDepth 100000 in
theorem dq_112 (h : AtB B p 112) : decode B p = .ok (.irem, 1) := dc_of (q := p + 1) ((dc_bind (dc_u1 h)).trans rfl) (by omega)
set_option maxRecDepth 100000 in
theorem dq_116 (h : AtB B p 116) : decode B p = .ok (.ineg, 1) := dc_of (q := p + 1) ((dc_bind (dc_u1 h)).trans rfl) (by omega)
set_option maxRecDepth 100000 in
theorem dq_120 (h : AtB B p 120) : decode B p = .ok (.ishl, 1) := dc_of (q := p + 1) ((dc_bind (dc_u1 h)).trans rfl) (by omega)
set_option maxRecDepth 100000 in
theorem dq_122 (h : AtB B p 122) : decode B p = .ok (.ishr, 1) := dc_of (q := p + 1) ((dc_bind (dc_u1 h)).trans rfl) (by omega)
set_option maxRecDepth 100000 in
theorem dq_124 (h : AtB B p 124) : decode B p = .ok (.iushr, 1) := dc_of (q := p + 1) ((dc_bind (dc_u1 h)).trans rfl) (by omega)
set_option maxRecDepth 100000 in
theorem dq_126 (h : AtB B p 126) : decode B p = .ok (.iand, 1) := dc_of (q := p + 1) ((dc_bind (dc_u1 h)).trans rfl) (by omega)
set_option maxRecDepth 100000 in
theorem dq_128 (h : AtB B p 128) : decode B p = .ok (.ior, 1) := dc_of (q := p + 1) ((dc_bind (dc_u1 h)).trans rfl) (by omega)
set_option maxRecDepth 100000 in
theorem dq_130 (h : AtB B p 130) : decode B p = .ok (.ixor, 1) := dc_of (q := p + 1) ((dc_bind (dc_u1 h)).trans rfl) (by omega)
set_option maxRecDepth 100000 in
theorem dq_132 (h : AtB B p 132) (h1 : AtB B (p + 1) a) (h2 : AtB B (p + 1 + 1) b) (hv : a.toNat = v) (hw : Reader.signed 8 b.toNat = w) : decode B p = .ok (.iinc v w, 3) := dc_of (q := p + 1 + 1 + 1) ((dc_bind (dc_u1 h)).trans (by
  subst hv hw
  exact (dc_bind (dc_u1 h1)).trans ((dc_bind (dc_s1 h2)).trans rfl))) (by omega)
set_option maxRecDepth 100000 in
theorem dq_133 (h : AtB B p 133) : decode B p = .ok (.i2l, 1) := dc_of (q := p + 1) ((dc_bind (dc_u1 h)).trans rfl) (by omega)
set_option maxRecDepth 100000 in
theorem dq_145 (h : AtB B p 145) : decode B p = .ok (.i2b, 1) := dc_of (q := p + 1) ((dc_bind (dc_u1 h)).trans rfl) (by omega)
set_option maxRecDepth 100000 in
theorem dq_146 (h : AtB B p 146) : decode B p = .ok (.i2c, 1) := dc_of (q := p + 1) ((dc_bind (dc_u1 h)).trans rfl) (by omega)
set_option maxRecDepth 100000 in
theorem dq_148 (h : AtB B p 148) : decode B p = .ok (.lcmp, 1) := dc_of (q := p + 1) ((dc_bind (dc_u1 h)).trans rfl) (by omega)
set_option maxRecDepth 100000 in
theorem dq_153 (h : AtB B p 153) (h1 : AtB B (p + 1) a) (h2 : AtB B (p + 1 + 1) b) (hv : Reader.signed 16 (a.toNat * 256 + b.toNat) = w) : decode B p = .ok (.ifCond .eq w, 3) := dc_of (q := p + 1 + 2) ((dc_bind (dc_u1 h)).trans (by
  subst hv
  exact (dc_bind (dc_s2 h1 h2)).trans rfl)) (by omega)
set_option maxRecDepth 100000 in
theorem dq_154 (h : AtB B p 154) (h1 : AtB B (p + 1) a) (h2 : AtB B (p + 1 + 1) b) (hv : Reader.signed 16 (a.toNat * 256 + b.toNat) = w) : decode B p = .ok (.ifCond .ne w, 3) := dc_of (q := p + 1 + 2) ((dc_bind (dc_u1 h)).trans (by
  subst hv
  exact (dc_bind (dc_s2 h1 h2)).trans rfl)) (by omega)
set_option maxRecDepth 100000 in
theorem dq_155 (h : AtB B p 155) (h1 : AtB B (p + 1) a) (h2 : AtB B (p + 1 + 1) b) (hv : Reader.signed 16 (a.toNat * 256 + b.toNat) = w) : decode B p = .ok (.ifCond .lt w, 3) := dc_of (q := p + 1 + 2) ((dc_bind (dc_u1 h)).trans (by
  subst hv
  exact (dc_bind (dc_s2 h1 h2)).trans rfl)) (by omega)
set_option maxRecDepth 100000 in
theorem dq_156 (h : AtB B p 156) (h1 : AtB B (p + 1) a) (h2 : AtB B (p + 1 + 1) b) (hv : Reader.signed 16 (a.toNat * 256 + b.toNat) = w) : decode B p = .ok (.ifCond .ge w, 3) := dc_of (q := p + 1 + 2) ((dc_bind (dc_u1 h)).trans (by
  subst hv
  exact (dc_bind (dc_s2 h1 h2)).trans rfl)) (by omega)
set_option maxRecDepth 100000 in
theorem dq_157 (h : AtB B p 157) (h1 : AtB B (p + 1) a) (h2 : AtB B (p + 1 + 1) b) (hv : Reader.signed 16 (a.toNat * 256 + b.toNat) = w) : decode B p = .ok (.ifCond .gt w, 3) := dc_of (q := p + 1 + 2) ((dc_bind (dc_u1 h)).trans (by
  subst hv
  exact (dc_bind (dc_s2 h1 h2)).trans rfl)) (by omega)
set_option maxRecDepth 100000 in
theorem dq_158 (h : AtB B p 158) (h1 : AtB B (p + 1) a) (h2 : AtB B (p + 1 + 1) b) (hv : Reader.signed 16 (a.toNat * 256 + b.toNat) = w) : decode B p = .ok (.ifCond .le w, 3) := dc_of (q := p + 1 + 2) ((dc_bind (dc_u1 h)).trans (by
  subst hv
  exact (dc_bind (dc_s2 h1 h2)).trans rfl)) (by omega)
set_option maxRecDepth 100000 in
theorem dq_159 (h : AtB B p 159) (h1 : AtB B (p + 1) a) (h2 : AtB B (p + 1 + 1) b) (hv : Reader.signed 16 (a.toNat * 256 + b.toNat) = w) : decode B p = .ok (.if_icmp .eq w, 3) := dc_of (q := p + 1 + 2) ((dc_bind (dc_u1 h)).trans (by
  subst hv
  exact (dc_bind (dc_s2 h1 h2)).trans rfl)) (by omega)
set_option maxRecDepth 100000 in
theorem dq_160 (h : AtB B p 160) (h1 : AtB B (p + 1) a) (h2 : AtB B (p + 1 + 1) b) (hv : Reader.signed 16 (a.toNat * 256 + b.toNat) = w) : decode B p = .ok (.if_icmp .ne w, 3) := dc_of (q := p + 1 + 2) ((dc_bind (dc_u1 h)).trans (by
  subst hv
  exact (dc_bind (dc_s2 h1 h2)).trans rfl)) (by omega)
set_option maxRecDepth 100000 in
theorem dq_161 (h : AtB B p 161) (h1 : AtB B (p + 1) a) (h2 : AtB B (p + 1 + 1) b) (hv : Reader.signed 16 (a.toNat * 256 + b.toNat) = w) : decode B p = .ok (.if_icmp .lt w, 3) := dc_of (q := p + 1 + 2) ((dc_bind (dc_u1 h)).trans (by
  subst hv
  exact (dc_bind (dc_s2 h1 h2)).trans rfl)) (by omega)
set_option maxRecDepth 100000 in
theorem dq_162 (h : AtB B p 162) (h1 : AtB B (p + 1) a) (h2 : AtB B (p + 1 + 1) b) (hv : Reader.signed 16 (a.toNat * 256 + b.toNat) = w) : decode B p = .ok (.if_icmp .ge w, 3) := dc_of (q := p + 1 + 2) ((dc_bind (dc_u1 h)).trans (by
  subst hv
  exact (dc_bind (dc_s2 h1 h2)).trans rfl)) (by omega)
set_option maxRecDepth 100000 in
theorem dq_163 (h : AtB B p 163) (h1 : AtB B (p + 1) a) (h2 : AtB B (p + 1 + 1) b) (hv : Reader.signed 16 (a.toNat * 256 + b.toNat) = w) : decode B p = .ok (.if_icmp .gt w, 3) := dc_of (q := p + 1 + 2) ((dc_bind (dc_u1 h)).trans (by
  subst hv
  exact (dc_bind (dc_s2 h1 h2)).trans rfl)) (by omega)
set_option maxRecDepth 100000 in
theorem dq_164 (h : AtB B p 164) (h1 : AtB B (p + 1) a) (h2 : AtB B (p + 1 + 1) b) (hv : Reader.signed 16 (a.toNat * 256 + b.toNat) = w) : decode B p = .ok (.if_icmp .le w, 3) := dc_of (q := p + 1 + 2) ((dc_bind (dc_u1 h)).trans (by
  subst hv
  exact (dc_bind (dc_s2 h1 h2)).trans rfl)) (by omega)
set_option maxRecDepth 100000 in
theorem dq_167 (h : AtB B p 167) (h1 : AtB B (p + 1) a) (h2 : AtB B (p + 1 + 1) b) (hv : Reader.signed 16 (a.toNat * 256 + b.toNat) = w) : decode B p = .ok (.goto w, 3) := dc_of (q := p + 1 + 2) ((dc_bind (dc_u1 h)).trans (by
  subst hv
  exact (dc_bind (dc_s2 h1 h2)).trans rfl)) (by omega)
set_option maxRecDepth 100000 in
theorem dq_172 (h : AtB B p 172) : decode B p = .ok (.ireturn, 1) := dc_of (q := p + 1) ((dc_bind (dc_u1 h)).trans rfl) (by omega)
set_option maxRecDepth 100000 in
theorem dq_173 (h : AtB B p 173) : decode B p = .ok (.lreturn, 1) := dc_of (q := p + 1) ((dc_bind (dc_u1 h)).trans rfl) (by omega)
set_option maxRecDepth 100000 in
theorem dq_176 (h : AtB B p 176) : decode B p = .ok (.areturn, 1) := dc_of (q := p + 1) ((dc_bind (dc_u1 h)).trans rfl) (by omega)
set_option maxRecDepth 100000 in
theorem dq_177 (h : AtB B p 177) : decode B p = .ok (.return_, 1) := dc_of (q := p + 1) ((dc_bind (dc_u1 h)).trans rfl) (by omega)
set_option maxRecDepth 100000 in
theorem dq_178 (h : AtB B p 178) (h1 : AtB B (p + 1) a) (h2 : AtB B (p + 1 + 1) b) (hv : a.toNat * 256 + b.toNat = v) : decode B p = .ok (.getstatic v, 3) := dc_of (q := p + 1 + 2) ((dc_bind (dc_u1 h)).trans (by
  subst hv
  exact (dc_bind (dc_u2 h1 h2)).trans rfl)) (by omega)
set_option maxRecDepth 100000 in
theorem dq_180 (h : AtB B p 180) (h1 : AtB B (p + 1) a) (h2 : AtB B (p + 1 + 1) b) (hv : a.toNat * 256 + b.toNat = v) : decode B p = .ok (.getfield v, 3) := dc_of (q := p + 1 + 2) ((dc_bind (dc_u1 h)).trans (by
  subst hv
  exact (dc_bind (dc_u2 h1 h2)).trans rfl)) (by omega)
set_option maxRecDepth 100000 in
theorem dq_181 (h : AtB B p 181) (h1 : AtB B (p + 1) a) (h2 : AtB B (p + 1 + 1) b) (hv : a.toNat * 256 + b.toNat = v) : decode B p = .ok (.putfield v, 3) := dc_of (q := p + 1 + 2) ((dc_bind (dc_u1 h)).trans (by
  subst hv
  exact (dc_bind (dc_u2 h1 h2)).trans rfl)) (by omega)
set_option maxRecDepth 100000 in
theorem dq_182 (h : AtB B p 182) (h1 : AtB B (p + 1) a) (h2 : AtB B (p + 1 + 1) b) (hv : a.toNat * 256 + b.toNat = v) : decode B p = .ok (.invokevirtual v, 3) := dc_of (q := p + 1 + 2) ((dc_bind (dc_u1 h)).trans (by
  subst hv
  exact (dc_bind (dc_u2 h1 h2)).trans rfl)) (by omega)
set_option maxRecDepth 100000 in
theorem dq_183 (h : AtB B p 183) (h1 : AtB B (p + 1) a) (h2 : AtB B (p + 1 + 1) b) (hv : a.toNat * 256 + b.toNat = v) : decode B p = .ok (.invokespecial v, 3) := dc_of (q := p + 1 + 2) ((dc_bind (dc_u1 h)).trans (by
  subst hv
  exact (dc_bind (dc_u2 h1 h2)).trans rfl)) (by omega)
set_option maxRecDepth 100000 in
theorem dq_184 (h : AtB B p 184) (h1 : AtB B (p + 1) a) (h2 : AtB B (p + 1 + 1) b) (hv : a.toNat * 256 + b.toNat = v) : decode B p = .ok (.invokestatic v, 3) := dc_of (q := p + 1 + 2) ((dc_bind (dc_u1 h)).trans (by
  subst hv
  exact (dc_bind (dc_u2 h1 h2)).trans rfl)) (by omega)
set_option maxRecDepth 100000 in
theorem dq_187 (h : AtB B p 187) (h1 : AtB B (p + 1) a) (h2 : AtB B (p + 1 + 1) b) (hv : a.toNat * 256 + b.toNat = v) : decode B p = .ok (.new v, 3) := dc_of (q := p + 1 + 2) ((dc_bind (dc_u1 h)).trans (by
  subst hv
  exact (dc_bind (dc_u2 h1 h2)).trans rfl)) (by omega)
set_option maxRecDepth 100000 in
theorem dq_188_4 (h : AtB B p 188) (h1 : AtB B (p + 1) 4) : decode B p = .ok (.newarray .boolean, 2) := dc_of (q := p + 1 + 1) ((dc_bind (dc_u1 h)).trans ((dc_bind (dc_u1 h1)).trans rfl)) (by omega)
set_option maxRecDepth 100000 in
theorem dq_188_10 (h : AtB B p 188) (h1 : AtB B (p + 1) 10) : decode B p = .ok (.newarray .int, 2) := dc_of (q := p + 1 + 1) ((dc_bind (dc_u1 h)).trans ((dc_bind (dc_u1 h1)).trans rfl)) (by omega)
set_option maxRecDepth 100000 in
theorem dq_188_11 (h : AtB B p 188) (h1 : AtB B (p + 1) 11) : decode B p = .ok (.newarray .long, 2) := dc_of (q := p + 1 + 1) ((dc_bind (dc_u1 h)).trans ((dc_bind (dc_u1 h1)).trans rfl)) (by omega)
set_option maxRecDepth 100000 in
theorem dq_188_8 (h : AtB B p 188) (h1 : AtB B (p + 1) 8) : decode B p = .ok (.newarray .byte, 2) := dc_of (q := p + 1 + 1) ((dc_bind (dc_u1 h)).trans ((dc_bind (dc_u1 h1)).trans rfl)) (by omega)
set_option maxRecDepth 100000 in
theorem dq_189 (h : AtB B p 189) (h1 : AtB B (p + 1) a) (h2 : AtB B (p + 1 + 1) b) (hv : a.toNat * 256 + b.toNat = v) : decode B p = .ok (.anewarray v, 3) := dc_of (q := p + 1 + 2) ((dc_bind (dc_u1 h)).trans (by
  subst hv
  exact (dc_bind (dc_u2 h1 h2)).trans rfl)) (by omega)
set_option maxRecDepth 100000 in
theorem dq_190 (h : AtB B p 190) : decode B p = .ok (.arraylength, 1) := dc_of (q := p + 1) ((dc_bind (dc_u1 h)).trans rfl) (by omega)
set_option maxRecDepth 100000 in
theorem dq_198 (h : AtB B p 198) (h1 : AtB B (p + 1) a) (h2 : AtB B (p + 1 + 1) b) (hv : Reader.signed 16 (a.toNat * 256 + b.toNat) = w) : decode B p = .ok (.ifnull w, 3) := dc_of (q := p + 1 + 2) ((dc_bind (dc_u1 h)).trans (by
  subst hv
  exact (dc_bind (dc_s2 h1 h2)).trans rfl)) (by omega)
set_option maxRecDepth 100000 in
theorem dq_199 (h : AtB B p 199) (h1 : AtB B (p + 1) a) (h2 : AtB B (p + 1 + 1) b) (hv : Reader.signed 16 (a.toNat * 256 + b.toNat) = w) : decode B p = .ok (.ifnonnull w, 3) := dc_of (q := p + 1 + 2) ((dc_bind (dc_u1 h)).trans (by
  subst hv
  exact (dc_bind (dc_s2 h1 h2)).trans rfl)) (by omega)
end D2
