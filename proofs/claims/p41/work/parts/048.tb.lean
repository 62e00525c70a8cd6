/-! ### tables: what is read of them and written to them -/
section TB
variable {K : Kmap} {V V0 V1 V2 V3 V4 V5 V6 : Vmap} {x : Nat} {r c n X i z : Int}
abbrev TIN (V : Vmap) (x : Nat) (r c : Int) : Prop := 0 ≤ r ∧ r < vi V x 3 ∧ 0 ≤ c ∧ c < vi V x 0
def tgv (V : Vmap) (x : Nat) (r c : Int) : Int := if TIN V x r c then vi V (vq V x 2) (r * vi V x 0 + c).toNat else 0
def tpv (V : Vmap) (x : Nat) (r c n : Int) : Vmap := if TIN V x r c then upd2 V (vq V x 2) (r * vi V x 0 + c).toNat (ti n) else V
/-- as wide as w, m rows at most, and room for them -/
def TRM (K : Kmap) (V : Vmap) (x w m : Nat) : Prop := vi V x 0 = (w : Int) ∧ 0 ≤ vi V x 3 ∧ vi V x 3 ≤ (m : Int) ∧ ∃ t, K (vq V x 2) = some (t + 1, w * m)
def TG (K : Kmap) (V : Vmap) (x : Nat) (r c X : Int) : Prop := ∀ w m : Nat, w ≤ 6 → m ≤ 400 → TRM K V x w m → X = tgv V x r c
def TPU (K : Kmap) (V V1 : Vmap) (x : Nat) (r c n : Int) : Prop := (V1 = V ∨ ∃ j, V1 = upd2 V (vq V x 2) j (ti n)) ∧ ∀ w m : Nat, w ≤ 6 → m ≤ 400 → TRM K V x w m → V1 = tpv V x r c n
theorem mul_w {r : Int} {w m : Nat} (hw : w ≤ 6) (hm : m ≤ 400) (h0 : 0 ≤ r) (h1 : r < (m : Int)) : 0 ≤ r * (w : Int) ∧ r * (w : Int) ≤ 2394 ∧ r * (w : Int) + (w : Int) ≤ ((w * m : Nat) : Int) := by
  obtain ⟨r, rfl⟩ := Int.eq_ofNat_of_zero_le h0
  have h2 : r + 1 ≤ m := by omega
  have h3 : (r + 1) * w ≤ m * w := Nat.mul_le_mul_right w h2
  have h4 : r * w ≤ 399 * 6 := Nat.mul_le_mul (by omega) hw
  have h5 : ((r * w : Nat) : Int) = (r : Int) * (w : Int) := Int.natCast_mul r w
  have h6 : (r + 1) * w = r * w + w := Nat.succ_mul r w
  have h7 : m * w = w * m := Nat.mul_comm m w
  rw [← h5]
  omega
theorem t_ix {w m : Nat} (hw : w ≤ 6) (hm : m ≤ 400) (hT : TRM K V x w m) (hz : ir (r * vi V x 0) → z = r * vi V x 0) (hi : ir (z + c) → i = z + c) (h : TIN V x r c) : i = r * vi V x 0 + c ∧ 0 ≤ i ∧ i < ((w * m : Nat) : Int) := by
  obtain ⟨h1, h2, h3, -⟩ := hT
  obtain ⟨g1, g2, g3, g4⟩ := h
  have q := mul_w (r := r) hw hm g1 (by omega)
  rw [h1] at hz g4 ⊢
  have ez := hz ⟨by omega, by omega⟩
  have ei := hi ⟨by omega, by omega⟩
  omega
theorem TG.in (hz : ir (r * vi V x 0) → z = r * vi V x 0) (hi : ir (z + c) → i = z + c) (h : TIN V x r c) : TG K V x r c (vi V (vq V x 2) i.toNat) := fun w m hw hm hT => by
  have q := t_ix hw hm hT hz hi h
  unfold tgv
  rw [if_pos h, ← q.1]
theorem TG.out (h : ¬ (0 ≤ r ∧ r < vi V x 3 ∧ 0 ≤ c ∧ c < vi V x 0)) (hX : X = 0) : TG K V x r c X := fun w m hw hm hT => by
  unfold tgv
  rw [if_neg h, hX]
theorem TG.bad {t N : Nat} (hz : ir (r * vi V x 0) → z = r * vi V x 0) (hi : ir (z + c) → i = z + c) (h : TIN V x r c) (hK : K (vq V x 2) = some (t + 1, N)) (hb : i < 0 ∨ (N : Int) ≤ i) : TG K V x r c X := fun w m hw hm hT => by
  have q := t_ix hw hm hT hz hi h
  obtain ⟨-, -, -, t1, h4⟩ := hT
  rw [hK] at h4
  have e : N = w * m := congrArg Prod.snd (Option.some.inj h4)
  exfalso
  omega
theorem TPU.in (hz : ir (r * vi V x 0) → z = r * vi V x 0) (hi : ir (z + c) → i = z + c) (h : TIN V x r c) (e : V1 = upd2 V (vq V x 2) i.toNat (ti n)) : TPU K V V1 x r c n := ⟨Or.inr ⟨_, e⟩, fun w m hw hm hT => by
  have q := t_ix hw hm hT hz hi h
  unfold tpv
  rw [if_pos h, ← q.1]
  exact e⟩
theorem TPU.out (h : ¬ (0 ≤ r ∧ r < vi V x 3 ∧ 0 ≤ c ∧ c < vi V x 0)) : TPU K V V x r c n := ⟨Or.inl rfl, fun w m hw hm hT => by
  unfold tpv
  rw [if_neg h]⟩
theorem TPU.bad {t N : Nat} (hz : ir (r * vi V x 0) → z = r * vi V x 0) (hi : ir (z + c) → i = z + c) (h : TIN V x r c) (hK : K (vq V x 2) = some (t + 1, N)) (hb : i < 0 ∨ (N : Int) ≤ i) : TPU K V V x r c n := ⟨Or.inl rfl, fun w m hw hm hT => by
  have q := t_ix hw hm hT hz hi h
  obtain ⟨-, -, -, t1, h4⟩ := hT
  rw [hK] at h4
  have e : N = w * m := congrArg Prod.snd (Option.some.inj h4)
  exfalso
  omega⟩
theorem TG.neg (hz : ir (r * vi V x 0) → z = r * vi V x 0) (hi : ir (z + c) → i = z + c) (h : TIN V x r c) (hb : i < 0) : TG K V x r c X := fun w m hw hm hT => by
  have q := t_ix hw hm hT hz hi h
  exfalso
  omega
theorem TPU.neg (hz : ir (r * vi V x 0) → z = r * vi V x 0) (hi : ir (z + c) → i = z + c) (h : TIN V x r c) (hb : i < 0) : TPU K V V x r c n := ⟨Or.inl rfl, fun w m hw hm hT => by
  have q := t_ix hw hm hT hz hi h
  exfalso
  omega⟩
/-! what a put leaves -/
theorem tpv_o {o : Nat} (h : o ≠ vq V x 2) : tpv V x r c n o = V o := by
  unfold tpv
  split
  · exact funext fun j => uq_ne rfl (Or.inl h)
  · rfl
theorem tpv_i {o j : Nat} (h : o ≠ vq V x 2) : vi (tpv V x r c n) o j = vi V o j := by unfold vi; rw [tpv_o h]
theorem tpv_q {o j : Nat} (h : o ≠ vq V x 2) : vq (tpv V x r c n) o j = vq V o j := by unfold vq; rw [tpv_o h]
theorem tpv_at {j : Nat} (rn : ir n) : vi (tpv V x r c n) (vq V x 2) j = if TIN V x r c ∧ j = (r * vi V x 0 + c).toNat then n else vi V (vq V x 2) j := by
  unfold tpv
  by_cases h : TIN V x r c
  · rw [if_pos h]
    by_cases hj : j = (r * vi V x 0 + c).toNat
    · rw [if_pos ⟨h, hj⟩, hj]; exact upd2_int rfl rn
    · rw [if_neg (fun q => hj q.2)]; exact vi_up rfl (Or.inr hj)
  · rw [if_neg h, if_neg (fun q => h q.1)]
/-- a table's numbers are no row -/
theorem TRM.ne {w m kd : Nat} (hT : TRM K V x w m) (hx : K x = some (0, kd)) : x ≠ vq V x 2 := by
  obtain ⟨-, -, -, t, h⟩ := hT
  exact K_ne hx h (by simp)
theorem TRM.put {w m kd : Nat} (hT : TRM K V x w m) (hx : K x = some (0, kd)) : TRM K (tpv V x r c n) x w m := by
  have hne := hT.ne hx
  obtain ⟨h1, h2, h3, t, h4⟩ := hT
  exact ⟨by rw [tpv_i hne]; exact h1, by rw [tpv_i hne]; exact h2, by rw [tpv_i hne]; exact h3, t, by rw [tpv_q hne]; exact h4⟩
/-- a row more -/
def apv (V : Vmap) (x : Nat) (a b c d e : Int) : Vmap := tpv (tpv (tpv (tpv (tpv (upd2 V x 3 (ti (vi V x 3 + 1))) x (vi V x 3) 0 a) x (vi V x 3) 1 b) x (vi V x 3) 2 c) x (vi V x 3) 3 d) x (vi V x 3) 4 e
def APP (K : Kmap) (V V1 : Vmap) (x : Nat) (a b c d e X : Int) : Prop := ∀ w m : Nat, w ≤ 6 → m ≤ 400 → TRM K V x w m → vi V x 1 = (m : Int) → ((m : Int) ≤ vi V x 3 ∧ X = -1 ∧ V1 = V) ∨ (vi V x 3 < (m : Int) ∧ X = vi V x 3 ∧ V1 = apv V x a b c d e)
theorem APP.no {a b c d e : Int} (h : vi V x 1 ≤ vi V x 3) (hX : X = -1) : APP K V V x a b c d e X := fun w m hw hm hT hm1 => Or.inl ⟨by omega, hX, rfl⟩
theorem APP.yes {kd : Nat} {a b c d e Z : Int} (hx : K x = some (0, kd)) (h : vi V x 3 < vi V x 1) (hX : X = vi V x 3) (e0 : V1 = upd2 V x 3 (ti Z)) (hZ : Z = vi V x 3 + 1) (rZ : ir Z) (h0 : TPU K V1 V2 x X 0 a) (h1 : TPU K V2 V3 x X 1 b) (h2 : TPU K V3 V4 x X 2 c) (h3 : TPU K V4 V5 x X 3 d) (h4 : TPU K V5 V6 x X 4 e) : APP K V V6 x a b c d e X := fun w m hw hm hT hm1 => by
  have hq : vq V1 x 2 = vq V x 2 := vq_up e0 (Or.inr (by decide))
  have hT1 : TRM K V1 x w m := by
    obtain ⟨g1, g2, g3, t, g4⟩ := hT
    exact ⟨by rw [vi_up e0 (Or.inr (by decide))]; exact g1, by rw [upd2_int e0 rZ]; omega, by rw [upd2_int e0 rZ]; omega, t, by rw [hq]; exact g4⟩
  have q0 := h0.2 w m hw hm hT1
  have hT2 : TRM K V2 x w m := q0 ▸ hT1.put hx
  have q1 := h1.2 w m hw hm hT2
  have hT3 : TRM K V3 x w m := q1 ▸ hT2.put hx
  have q2 := h2.2 w m hw hm hT3
  have hT4 : TRM K V4 x w m := q2 ▸ hT3.put hx
  have q3 := h3.2 w m hw hm hT4
  have hT5 : TRM K V5 x w m := q3 ▸ hT4.put hx
  have q4 := h4.2 w m hw hm hT5
  refine Or.inr ⟨by omega, hX, ?_⟩
  unfold apv
  rw [← hX, ← show Z = X + 1 by omega, ← e0, ← q0, ← q1, ← q2, ← q3]
  exact q4
section APV
variable {kd w m : Nat} {a b c d e : Int}
/-- what a row more leaves -/
theorem apv_all (hT : TRM K V x w m) (hx : K x = some (0, kd)) (hlt : vi V x 3 < (m : Int)) (hm : m ≤ 400) (ra : ir a) (rb : ir b) (rc : ir c) (rd : ir d) (re : ir e) :
    vi (apv V x a b c d e) x 3 = vi V x 3 + 1 ∧ (∀ k, k ≠ 3 → apv V x a b c d e x k = V x k) ∧ (∀ o, o ≠ x → o ≠ vq V x 2 → apv V x a b c d e o = V o) ∧
    ∀ j : Nat, vi (apv V x a b c d e) (vq V x 2) j = if (j : Int) < vi V x 3 * (w : Int) ∨ vi V x 3 * (w : Int) + (w : Int) ≤ (j : Int) ∨ vi V x 3 * (w : Int) + 5 ≤ (j : Int) then vi V (vq V x 2) j else if (j : Int) = vi V x 3 * (w : Int) then a else if (j : Int) = vi V x 3 * (w : Int) + 1 then b else if (j : Int) = vi V x 3 * (w : Int) + 2 then c else if (j : Int) = vi V x 3 * (w : Int) + 3 then d else e := by
  have hne := hT.ne hx
  obtain ⟨g1, g2, g3, t, g4⟩ := hT
  generalize hR : vq V x 2 = R at *
  generalize hr : vi V x 3 = r at *
  have rZ : ir (r + 1) := ⟨by omega, by omega⟩
  have key : ∀ (k : Nat) (W : Vmap) (v : Int), ir v → k ≤ 4 → vi W x 0 = (w : Int) → vi W x 3 = r + 1 → vq W x 2 = R → (tpv W x r (k : Int) v x = W x) ∧ (∀ o, o ≠ R → tpv W x r (k : Int) v o = W o) ∧ ∀ j : Nat, vi (tpv W x r (k : Int) v) R j = if k < w ∧ (j : Int) = r * (w : Int) + (k : Int) then v else vi W R j := fun k W v rv hk w0 w3 w2 => by
    refine ⟨tpv_o (by rw [w2]; exact hne), fun o ho => tpv_o (by rw [w2]; exact ho), fun j => ?_⟩
    have q := tpv_at (V := W) (x := x) (r := r) (c := (k : Int)) (n := v) (j := j) rv
    rw [w2] at q
    rw [q]
    have hp : 0 ≤ r * (w : Int) := Int.mul_nonneg g2 (Int.natCast_nonneg w)
    have e1 : (TIN W x r (k : Int) ∧ j = (r * vi W x 0 + (k : Int)).toNat) ↔ (k < w ∧ (j : Int) = r * (w : Int) + (k : Int)) := by
      unfold TIN
      rw [w0, w3]
      omega
    by_cases h : k < w ∧ (j : Int) = r * (w : Int) + (k : Int)
    · rw [if_pos h, if_pos (e1.mpr h)]
    · rw [if_neg h, if_neg (fun z => h (e1.mp z))]
  unfold apv
  rw [hr]
  generalize e0 : upd2 V x 3 (ti (r + 1)) = U0
  have a0 : vi U0 x 0 = (w : Int) := by rw [vi_up e0.symm (Or.inr (by decide))]; exact g1
  have a3 : vi U0 x 3 = r + 1 := upd2_int e0.symm rZ
  have a2 : vq U0 x 2 = R := by rw [vq_up e0.symm (Or.inr (by decide))]; exact hR
  have n3 : ∀ k, k ≠ 3 → U0 x k = V x k := fun k hk => uq_ne e0.symm (Or.inr hk)
  have n4 : ∀ o, o ≠ x → U0 o = V o := fun o ho => funext fun j => uq_ne e0.symm (Or.inl ho)
  have nR : ∀ j, vi U0 R j = vi V R j := fun j => vi_up e0.symm (Or.inl (Ne.symm hne))
  have st : ∀ (W : Vmap), W x = U0 x → vi W x 0 = (w : Int) ∧ vi W x 3 = r + 1 ∧ vq W x 2 = R := fun W hW => by
    refine ⟨?_, ?_, ?_⟩
    · unfold vi at a0 ⊢; rw [hW]; exact a0
    · unfold vi at a3 ⊢; rw [hW]; exact a3
    · unfold vq at a2 ⊢; rw [hW]; exact a2
  obtain ⟨p1, p2, p3⟩ := key 0 U0 a ra (by decide) a0 a3 a2
  generalize e1 : tpv U0 x r ((0 : Nat) : Int) a = U1 at p1 p2 p3
  obtain ⟨s1, s2, s3⟩ := st U1 p1
  obtain ⟨t1, t2, t3⟩ := key 1 U1 b rb (by decide) s1 s2 s3
  generalize e2 : tpv U1 x r ((1 : Nat) : Int) b = U2 at t1 t2 t3
  obtain ⟨s1, s2, s3⟩ := st U2 (t1.trans p1)
  obtain ⟨u1, u2, u3⟩ := key 2 U2 c rc (by decide) s1 s2 s3
  generalize e3 : tpv U2 x r ((2 : Nat) : Int) c = U3 at u1 u2 u3
  obtain ⟨s1, s2, s3⟩ := st U3 (u1.trans (t1.trans p1))
  obtain ⟨v1, v2, v3⟩ := key 3 U3 d rd (by decide) s1 s2 s3
  generalize e4 : tpv U3 x r ((3 : Nat) : Int) d = U4 at v1 v2 v3
  obtain ⟨s1, s2, s3⟩ := st U4 (v1.trans (u1.trans (t1.trans p1)))
  obtain ⟨y1, y2, y3⟩ := key 4 U4 e re (by decide) s1 s2 s3
  have Y : ((4 : Nat) : Int) = 4 := rfl
  rw [Y] at y1 y2 y3
  have hx6 : tpv U4 x r 4 e x = U0 x := y1.trans (v1.trans (u1.trans (t1.trans p1)))
  refine ⟨?_, fun k hk => ?_, fun o h1 h2 => ?_, fun j => ?_⟩
  · exact (st _ hx6).2.1
  · rw [hx6]; exact n3 k hk
  · rw [y2 o h2, v2 o h2, u2 o h2, t2 o h2, p2 o h2]; exact n4 o h1
  · rw [y3, v3, u3, t3, p3, nR]
    by_cases c4 : 4 < w ∧ (j : Int) = r * (w : Int) + 4
    · rw [if_pos c4, if_neg (by omega), if_neg (by omega), if_neg (by omega), if_neg (by omega), if_neg (by omega)]
    · rw [if_neg c4]
      by_cases c3 : 3 < w ∧ (j : Int) = r * (w : Int) + ((3 : Nat) : Int)
      · rw [if_pos c3, if_neg (by omega), if_neg (by omega), if_neg (by omega), if_neg (by omega), if_pos (by omega)]
      · rw [if_neg c3]
        by_cases c2 : 2 < w ∧ (j : Int) = r * (w : Int) + ((2 : Nat) : Int)
        · rw [if_pos c2, if_neg (by omega), if_neg (by omega), if_neg (by omega), if_pos (by omega)]
        · rw [if_neg c2]
          by_cases c1 : 1 < w ∧ (j : Int) = r * (w : Int) + ((1 : Nat) : Int)
          · rw [if_pos c1, if_neg (by omega), if_neg (by omega), if_pos (by omega)]
          · rw [if_neg c1]
            by_cases c0 : 0 < w ∧ (j : Int) = r * (w : Int) + ((0 : Nat) : Int)
            · rw [if_pos c0, if_neg (by omega), if_pos (by omega)]
            · rw [if_neg c0, if_pos (by omega)]
end APV
end TB
