/-! ### ships: the reference's methods -/
section Q6
variable {K K0 K1 K2 : Kmap} {V V0 V1 V2 V3 W W1 W2 : Vmap} {x m o t q f N l : Nat} {i j n e d p a b w z y v X Y Z Q R P D room cov u s : Int} {r g c c' τ : Nat → Int} {A B : Nat → Int} {pr : Int × (Nat → Int)} {k : Nat}
def msv (V : Vmap) (m s : Nat) : Nat → Int := fun f => if f = 0 then ar 94 V m s else if f = 1 then ar 95 V m s else if f = 2 then ar 96 V m s else if f = 3 then ar 97 V m s else if f = 4 then ar 102 V m s else if f = 5 then ar 103 V m s else if f = 6 then ar 98 V m s else if f = 7 then ar 99 V m s else if f = 8 then ar 100 V m s else if f = 9 then ar 101 V m s else if f = 10 then ar 104 V m s else 0
theorem msv_at {s : Nat} : msv V m s 0 = ar 94 V m s ∧ msv V m s 1 = ar 95 V m s ∧ msv V m s 2 = ar 96 V m s ∧ msv V m s 3 = ar 97 V m s ∧ msv V m s 4 = ar 102 V m s ∧ msv V m s 5 = ar 103 V m s ∧ msv V m s 6 = ar 98 V m s ∧ msv V m s 7 = ar 99 V m s ∧ msv V m s 8 = ar 100 V m s ∧ msv V m s 9 = ar 101 V m s ∧ msv V m s 10 = ar 104 V m s := ⟨rfl, rfl, rfl, rfl, rfl, rfl, rfl, rfl, rfl, rfl, rfl⟩
theorem msv_0 {s : Nat} (h : 11 ≤ f) : msv V m s f = 0 := by
  unfold msv
  rw [if_neg (by omega), if_neg (by omega), if_neg (by omega), if_neg (by omega), if_neg (by omega), if_neg (by omega), if_neg (by omega), if_neg (by omega), if_neg (by omega), if_neg (by omega), if_neg (by omega)]
theorem msv_up {s : Nat} (h0 : ∀ j, ar 94 V1 m j = if j = s then c 0 else ar 94 V m j) (h1 : ∀ j, ar 95 V1 m j = if j = s then c 1 else ar 95 V m j) (h2 : ∀ j, ar 96 V1 m j = if j = s then c 2 else ar 96 V m j) (h3 : ∀ j, ar 97 V1 m j = if j = s then c 3 else ar 97 V m j) (h4 : ∀ j, ar 102 V1 m j = if j = s then c 4 else ar 102 V m j) (h5 : ∀ j, ar 103 V1 m j = if j = s then c 5 else ar 103 V m j) (h6 : ∀ j, ar 98 V1 m j = if j = s then c 6 else ar 98 V m j) (h7 : ∀ j, ar 99 V1 m j = if j = s then c 7 else ar 99 V m j) (h8 : ∀ j, ar 100 V1 m j = if j = s then c 8 else ar 100 V m j) (h9 : ∀ j, ar 101 V1 m j = if j = s then c 9 else ar 101 V m j) (h10 : ∀ j, ar 104 V1 m j = if j = s then c 10 else ar 104 V m j) (hc : ∀ f, 11 ≤ f → c f = 0) : msv V1 m = upg (msv V m) s c := by
  funext j f
  unfold upg
  by_cases q : j = s
  · rw [if_pos q]
    by_cases g : 11 ≤ f
    · rw [hc f g, msv_0 g]
    · unfold msv
      rw [h0, h1, h2, h3, h4, h5, h6, h7, h8, h9, h10, if_pos q, if_pos q, if_pos q, if_pos q, if_pos q, if_pos q, if_pos q, if_pos q, if_pos q, if_pos q, if_pos q]
      rcases (show f = 0 ∨ f = 1 ∨ f = 2 ∨ f = 3 ∨ f = 4 ∨ f = 5 ∨ f = 6 ∨ f = 7 ∨ f = 8 ∨ f = 9 ∨ f = 10 by omega) with rfl | rfl | rfl | rfl | rfl | rfl | rfl | rfl | rfl | rfl | rfl <;> rfl
  · rw [if_neg q]
    unfold msv
    rw [h0, h1, h2, h3, h4, h5, h6, h7, h8, h9, h10, if_neg q, if_neg q, if_neg q, if_neg q, if_neg q, if_neg q, if_neg q, if_neg q, if_neg q, if_neg q, if_neg q]
/-- arrays of ships that no way of a ship writes -/
def MWQ (V V1 : Vmap) (m : Nat) : Prop := ar 94 V1 m = ar 94 V m ∧ ar 95 V1 m = ar 95 V m ∧ ar 96 V1 m = ar 96 V m ∧ ar 102 V1 m = ar 102 V m ∧ ar 103 V1 m = ar 103 V m ∧ ar 104 V1 m = ar 104 V m ∧ ar 19 V1 m = ar 19 V m ∧ ar 21 V1 m = ar 21 V m ∧ ar 22 V1 m = ar 22 V m ∧ ar 28 V1 m = ar 28 V m ∧ ar 15 V1 m = ar 15 V m ∧ ar 105 V1 m = ar 105 V m ∧ vi V1 m 2 = vi V m 2
def mwqbits (ws : Nat) : Bool := [keyK (0, 11) 94, keyK (0, 11) 95, keyK (0, 11) 96, keyK (0, 11) 102, keyK (0, 11) 103, keyK (0, 11) 104, keyK (0, 11) 19, keyK (0, 11) 21, keyK (0, 11) 22, keyK (0, 11) 28, keyK (0, 11) 15, keyK (0, 11) 105, keyK (0, 11) 2].all (fun b => !ws.testBit b) && [72 + 1, 73 + 1, 74 + 1, 80 + 1, 81 + 1, 82 + 1, 21 + 1, 23 + 1, 24 + 1, 30 + 1, 17 + 1, 83 + 1].all (fun b => !ws.testBit (abase + b))
theorem MWQ.fr {ws : Nat} (hF : FR ws K V K1 V1) (hE : ext K K1) (hW : WT K V) (hm : K m = some (0, 11)) (hb : mwqbits ws = true) : MWQ V V1 m := by
  simp only [mwqbits, List.all_cons, List.all_nil, Bool.and_true, Bool.and_eq_true, Bool.not_eq_true'] at hb
  obtain ⟨⟨c0, c1, c2, c3, c4, c5, c6, c7, c8, c9, c10, c11, c12⟩, b0, b1, b2, b3, b4, b5, b6, b7, b8, b9, b10, b11⟩ := hb
  exact ⟨arq hF hE hm (hW.ref hm (j := 94) (Nat.le_of_ble_eq_true rfl) rfl).2 c0 b0, arq hF hE hm (hW.ref hm (j := 95) (Nat.le_of_ble_eq_true rfl) rfl).2 c1 b1, arq hF hE hm (hW.ref hm (j := 96) (Nat.le_of_ble_eq_true rfl) rfl).2 c2 b2, arq hF hE hm (hW.ref hm (j := 102) (Nat.le_of_ble_eq_true rfl) rfl).2 c3 b3, arq hF hE hm (hW.ref hm (j := 103) (Nat.le_of_ble_eq_true rfl) rfl).2 c4 b4, arq hF hE hm (hW.ref hm (j := 104) (Nat.le_of_ble_eq_true rfl) rfl).2 c5 b5, arq hF hE hm (hW.ref hm (j := 19) (Nat.le_of_ble_eq_true rfl) rfl).2 c6 b6, arq hF hE hm (hW.ref hm (j := 21) (Nat.le_of_ble_eq_true rfl) rfl).2 c7 b7, arq hF hE hm (hW.ref hm (j := 22) (Nat.le_of_ble_eq_true rfl) rfl).2 c8 b8, arq hF hE hm (hW.ref hm (j := 28) (Nat.le_of_ble_eq_true rfl) rfl).2 c9 b9, arq hF hE hm (hW.ref hm (j := 15) (Nat.le_of_ble_eq_true rfl) rfl).2 c10 b10, arq hF hE hm (hW.ref hm (j := 105) (Nat.le_of_ble_eq_true rfl) rfl).2 c11 b11, vi_fr hF hm (hE.obj (Or.inl (by decide)) hm) c12⟩
theorem MWQ.rf : MWQ V V m := ⟨rfl, rfl, rfl, rfl, rfl, rfl, rfl, rfl, rfl, rfl, rfl, rfl, rfl⟩
/-- what is written of ships: five arrays -/
theorem msv_w {s : Nat} (h : MWQ V V1 m) (e3 : ∀ j, ar 97 V1 m j = if j = s then c 3 else ar 97 V m j) (e6 : ∀ j, ar 98 V1 m j = if j = s then c 6 else ar 98 V m j) (e7 : ∀ j, ar 99 V1 m j = if j = s then c 7 else ar 99 V m j) (e8 : ∀ j, ar 100 V1 m j = if j = s then c 8 else ar 100 V m j) (e9 : ∀ j, ar 101 V1 m j = if j = s then c 9 else ar 101 V m j) (hc : ∀ f, f ≠ 3 → f ≠ 6 → f ≠ 7 → f ≠ 8 → f ≠ 9 → c f = msv V m s f) : msv V1 m = upg (msv V m) s c := by
  obtain ⟨g0, g1, g2, g4, g5, g10, -⟩ := h
  exact msv_up (as_s g0 (hc 0 (by decide) (by decide) (by decide) (by decide) (by decide))) (as_s g1 (hc 1 (by decide) (by decide) (by decide) (by decide) (by decide))) (as_s g2 (hc 2 (by decide) (by decide) (by decide) (by decide) (by decide))) e3 (as_s g4 (hc 4 (by decide) (by decide) (by decide) (by decide) (by decide))) (as_s g5 (hc 5 (by decide) (by decide) (by decide) (by decide) (by decide))) e6 e7 e8 e9 (as_s g10 (hc 10 (by decide) (by decide) (by decide) (by decide) (by decide))) (fun f hf => (hc f (by omega) (by omega) (by omega) (by omega) (by omega)).trans (msv_0 hf))
/-- what is written of stores: fuel and waste -/
theorem rst_w (h : MWQ V V1 m) (e7 : ∀ j, ar 20 V1 m j = if j = k then c 7 else ar 20 V m j) (e23 : ∀ j r, r < 4 → ar 23 V1 m (4 * j + r) = if j = k then c (10 + r) else ar 23 V m (4 * j + r)) (hc : ∀ f, f ≠ 7 → f < 10 ∨ 14 ≤ f → c f = rst V m k f) : rst V1 m = upg (rst V m) k c := by
  obtain ⟨-, -, -, -, -, -, g19, g21, g22, g28, -⟩ := h
  exact rst_up (as_s g19 (hc 6 (by decide) (Or.inl (by decide)))) e7 (as_s g21 (hc 8 (by decide) (Or.inl (by decide)))) (as_s g22 (hc 9 (by decide) (Or.inl (by decide)))) (as_s g28 (hc 5 (by decide) (Or.inl (by decide)))) e23 (fun f hf => (hc f (by omega) (by omega)).trans (rst_0 hf))
theorem rst_n (h : MWQ V V1 m) (a20 : ar 20 V1 m = ar 20 V m) (a23 : ar 23 V1 m = ar 23 V m) : rst V1 m = rst V m := by
  obtain ⟨-, -, -, -, -, -, g19, g21, g22, g28, -⟩ := h
  funext j f
  unfold rst
  rw [g19, g21, g22, g28, a20, a23]
/-! turning back -/
def MTB (V V1 : Vmap) (m : Nat) (s : Int) : Prop := ar 97 V1 m = updf (ar 97 V m) s.toNat 3 ∧ ar 100 V1 m = updf (ar 100 V m) s.toNat (wr (vi V m 2 + ar 104 V m s.toNat))
theorem MTB.mk {k1 k2 : Nat} (a97 : ar 97 V1 m = updf (ar 97 V m) k1 3) (a100 : ar 100 V1 m = updf (ar 100 V m) k2 z) (hz : z = wr (X + Y)) (hX : X = vi V m 2) (hY : Y = ar 104 V m s.toNat) (q1 : k1 = s.toNat) (q2 : k2 = s.toNat) : MTB V V1 m s := by
  subst q1 q2
  unfold MTB
  rw [← hX, ← hY, ← hz]
  exact ⟨a97, a100⟩
/-! arriving -/
def NSM (V : Vmap) (m : Nat) (c : Int) : Prop := ∃ j : Nat, (j : Int) < vi V m 0 * vi V m 1 ∧ rgv V (vq V m 6) 144 (j : Int) = 2 ∧ (((j : Int) / vi V m 0 - c / vi V m 0 ≤ 1 ∧ c / vi V m 0 - (j : Int) / vi V m 0 ≤ 1) ∧ (j : Int) % vi V m 0 - c % vi V m 0 ≤ 1 ∧ c % vi V m 0 - (j : Int) % vi V m 0 ≤ 1)
def OKM (V : Vmap) (m : Nat) (z : Int) : Prop := ar 28 V m z.toNat = 0 ∧ NSM V m (ar 15 V m z.toNat)
theorem okm_s (h : MSM V W m) : OKM W m = OKM V m := by
  obtain ⟨-, ⟨h15, -, h28⟩, h0, h1, h5⟩ := h
  have h6 := h5 6 (by decide) (by decide)
  funext z
  unfold OKM NSM
  rw [h28, h15, h0, h1, h6]
theorem OKM.n1 (hz : z = vi V (vq V m 103) s.toNat) (h : vi V (vq V m 28) z.toNat ≠ 0) : ¬ OKM V m (vi V (vq V m 103) s.toNat) := fun g => by
  rw [← hz] at g
  exact h g.1
theorem OKM.n2 (hz : z = vi V (vq V m 103) s.toNat) (hn : X ≠ 0 ↔ NSM V m (vi V (vq V m 15) z.toNat)) (hX : X = 0) : ¬ OKM V m (vi V (vq V m 103) s.toNat) := fun g => by
  rw [← hz] at g
  exact absurd hX (hn.mpr g.2)
theorem OKM.ys (hz : z = vi V (vq V m 103) s.toNat) (h : vi V (vq V m 28) z.toNat = 0) (hn : X ≠ 0 ↔ NSM V m (vi V (vq V m 15) z.toNat)) (hX : X ≠ 0) : OKM V m (vi V (vq V m 103) s.toNat) := by
  rw [← hz]
  exact ⟨h, hn.mp hX⟩
/-! how far cells are apart -/
def FAV (w a b X : Int) : Prop := 0 ≤ a → 0 ≤ b → a ≤ 143 → b ≤ 143 → 4 ≤ w → w ≤ 12 → (X ≤ 1 ↔ ((a / w - b / w ≤ 1 ∧ b / w - a / w ≤ 1) ∧ a % w - b % w ≤ 1 ∧ b % w - a % w ≤ 1))
theorem FAV.mk (h1 : ABS (a / w - b / w) Y) (h2 : ABS (a % w - b % w) Z) (hX : (X = Z ∧ Y ≤ Z) ∨ (X = Y ∧ Z ≤ Y)) : FAV w a b X := fun a0 b0 a1 b1 w4 w12 => by
  have ra := div_rng (a := a) (b := w) a0 (by omega)
  have rb := div_rng (a := b) (b := w) b0 (by omega)
  have ma := rem_rng (a := a) (b := w) (by omega)
  have mb := rem_rng (a := b) (b := w) (by omega)
  have e1 : (0 ≤ a / w - b / w → Y = a / w - b / w) ∧ (a / w - b / w < 0 → Y = b / w - a / w) := ⟨h1.1, fun q => by have := h1.2 q (by omega); omega⟩
  have e2 : (0 ≤ a % w - b % w → Z = a % w - b % w) ∧ (a % w - b % w < 0 → Z = b % w - a % w) := ⟨h2.1, fun q => by have := h2.2 q (by omega); omega⟩
  clear h1 h2
  generalize a / w = A at *
  generalize b / w = B at *
  generalize a % w = C at *
  generalize b % w = D at *
  constructor
  · intro hx
    refine ⟨⟨?_, ?_⟩, ?_, ?_⟩ <;> omega
  · intro hx
    omega
def NMI (V : Vmap) (m : Nat) (c i : Int) : Prop := ∀ j : Nat, (j : Int) < i → (j : Int) < vi V m 0 * vi V m 1 → ¬ (rgv V (vq V m 6) 144 (j : Int) = 2 ∧ (((j : Int) / vi V m 0 - c / vi V m 0 ≤ 1 ∧ c / vi V m 0 - (j : Int) / vi V m 0 ≤ 1) ∧ (j : Int) % vi V m 0 - c % vi V m 0 ≤ 1 ∧ c % vi V m 0 - (j : Int) % vi V m 0 ≤ 1))
theorem NMI.beg : NMI V m e 0 := fun j hj => by omega
theorem NMI.n1 (h : NMI V m e i) (i0 : 0 ≤ i) (i1 : i < 144) (hG : vi V (vq V m 6) i.toNat ≠ 2) (hn : n = i + 1) : NMI V m e n := fun j hj hc => by
  by_cases q : (j : Int) = i
  · rintro ⟨g, -⟩
    rw [q, ← rgv_in i0 (by omega)] at g
    exact hG g
  · exact h j (by omega) hc
theorem NMI.n2 (h : NMI V m e i) (i0 : 0 ≤ i) (i1 : i < 144) (hf : FAV (vi V m 0) i e X) (hX : 1 < X) (e0 : 0 ≤ e) (e1 : e ≤ 143) (hw : 4 ≤ vi V m 0) (hw2 : vi V m 0 ≤ 12) (hn : n = i + 1) : NMI V m e n := fun j hj hc => by
  by_cases q : (j : Int) = i
  · rintro ⟨-, g⟩
    rw [q] at g
    have := (hf i0 e0 (by omega) e1 hw hw2).mpr g
    omega
  · exact h j (by omega) hc
theorem NSM.no (h : NMI V m e i) (hi : vi V m 0 * vi V m 1 ≤ i) (hX : X = 0) : X ≠ 0 ↔ NSM V m e := ⟨fun g => absurd hX g, fun ⟨j, a, b, c⟩ => absurd ⟨b, c⟩ (h j (by omega) a)⟩
theorem NSM.ys (i0 : 0 ≤ i) (i1 : i < 144) (hc : i < vi V m 0 * vi V m 1) (hG : vi V (vq V m 6) i.toNat = 2) (hf : FAV (vi V m 0) i e X) (hX : X ≤ 1) (e0 : 0 ≤ e) (e1 : e ≤ 143) (hw : 4 ≤ vi V m 0) (hw2 : vi V m 0 ≤ 12) (hY : Y ≠ 0) : Y ≠ 0 ↔ NSM V m e := ⟨fun _ => ⟨i.toNat, by omega, by
  have g := (hf i0 e0 (by omega) e1 hw hw2).mp hX
  have ei : ((i.toNat : Nat) : Int) = i := by omega
  rw [ei]
  exact ⟨by rw [← rgv_in i0 (by omega)]; exact hG, g⟩⟩, fun _ => hY⟩
theorem tkr_of {i : Nat} (h : f < 10 ∨ 14 ≤ f) (hi : i < 4) : (tkr i room pr).2 f = pr.2 f := by
  unfold tkr
  exact updf_of (by omega)
theorem uni_of (h : f < 10 ∨ 14 ≤ f) : ∀ i, (uni room pr i).2 f = pr.2 f := by
  intro i
  induction i with
  | zero => rfl
  | succ i ih => exact (tkr_of h (by omega)).trans ih
def g0v (V : Vmap) (m s k : Nat) : Nat → Int := updf (rst V m k) 7 (wr (ar 20 V m k + ar 98 V m s))
def MAI (V W : Vmap) (m s k : Nat) (i : Int) : Prop := ar 99 W m = updf (ar 99 V m) s (uni (ar 95 V m s) (ar 99 V m s, g0v V m s k) (3 - i).toNat).1 ∧ (∀ r, r < 4 → ar 23 W m (4 * k + r) = (uni (ar 95 V m s) (ar 99 V m s, g0v V m s k) (3 - i).toNat).2 (10 + r)) ∧ ∀ j, j < 4 * k ∨ 4 * k + 4 ≤ j → ar 23 W m j = ar 23 V m j
theorem MAI.beg {s : Nat} (a99 : ar 99 W m = ar 99 V m) (a23 : ar 23 W m = ar 23 V m) : MAI V W m s k 3 := by
  have k0 : ((3 : Int) - 3).toNat = 0 := by decide
  unfold MAI
  rw [k0]
  refine ⟨a99.trans (updf_self rfl).symm, fun r hr => ?_, fun j _ => by rw [a23]⟩
  rw [a23]
  show ar 23 V m (4 * k + r) = g0v V m s k (10 + r)
  unfold g0v
  rw [updf_of (by omega)]
  exact (rst_at.2.2.2.2.2 r hr).symm
theorem MAI.step {s t k1 : Nat} {ki : Int} (h : MAI V W m s k i) (h95 : Q = ar 95 V m s) (hR : R = ar 99 W m s) (hX : X = ar 23 W m t) (ht : t = 4 * k + i.toNat) (hZ : Z = wr (Q - R)) (hw : w = wr (X - n)) (hn : (n = Z ∧ Z ≤ X) ∨ (n = X ∧ X ≤ Z)) (hy : y = wr (P + n)) (hP : P = R) (a23 : ar 23 W1 m = updf (ar 23 W m) t w) (a99 : ar 99 W1 m = updf (ar 99 W m) k1 y) (q1 : k1 = s) (i0 : 0 ≤ i) (i4 : i ≤ 3) (hk : ki = i + -1) : MAI V W1 m s k ki := by
  obtain ⟨h1, h2, h3⟩ := h
  subst q1 ht
  have ek : (3 - ki).toNat = (3 - i).toNat + 1 := by omega
  have er : 3 - (3 - i).toNat = i.toNat := by omega
  have e1 : ar 99 W m k1 = (uni (ar 95 V m k1) (ar 99 V m k1, g0v V m k1 k) (3 - i).toNat).1 := by rw [h1, updf_at]
  have e2 := h2 i.toNat (by omega)
  unfold MAI
  rw [ek]
  show ar 99 W1 m = updf (ar 99 V m) k1 (tkr (3 - (3 - i).toNat) (ar 95 V m k1) (uni (ar 95 V m k1) (ar 99 V m k1, g0v V m k1 k) (3 - i).toNat)).1 ∧ (∀ r, r < 4 → ar 23 W1 m (4 * k + r) = (tkr (3 - (3 - i).toNat) (ar 95 V m k1) (uni (ar 95 V m k1) (ar 99 V m k1, g0v V m k1 k) (3 - i).toNat)).2 (10 + r)) ∧ ∀ j, j < 4 * k ∨ 4 * k + 4 ≤ j → ar 23 W1 m j = ar 23 V m j
  rw [er]
  generalize uni (ar 95 V m k1) (ar 99 V m k1, g0v V m k1 k) (3 - i).toNat = p at h1 h2 e1 e2 ⊢
  have en : n = mnv (wr (ar 95 V m k1 - p.1)) (p.2 (10 + i.toNat)) := by
    rw [← e2, ← e1, ← hX, ← hR, ← h95, ← hZ]
    unfold mnv
    by_cases g : Z ≤ X
    · rw [if_pos g]
      omega
    · rw [if_neg g]
      omega
  have t1 : (tkr i.toNat (ar 95 V m k1) p).1 = wr (p.1 + n) := by
    rw [en]
    rfl
  have t2 : (tkr i.toNat (ar 95 V m k1) p).2 = updf p.2 (10 + i.toNat) (wr (p.2 (10 + i.toNat) - n)) := by
    rw [en]
    rfl
  rw [t1, t2]
  refine ⟨?_, fun r hr => ?_, fun j hj => ?_⟩
  · rw [a99, h1, updf_upd, hy, hP, hR, e1]
  · rw [a23]
    by_cases q : r = i.toNat
    · subst q
      rw [updf_at, updf_at, hw, hX, e2]
    · rw [updf_of (by omega), updf_of (by omega)]
      exact h2 r hr
  · rw [a23, updf_of (by omega)]
    exact h3 j hj
def MAR (V V1 : Vmap) (m : Nat) (s : Int) : Prop := (¬ OKM V m (ar 103 V m s.toNat) ∧ msv V1 m = upg (msv V m) s.toNat (tb3 (vi V m 2) (msv V m s.toNat)) ∧ rst V1 m = rst V m) ∨ (OKM V m (ar 103 V m s.toNat) ∧ msv V1 m = upg (msv V m) s.toNat (arr (vi V m 2) (msv V m s.toNat) (rst V m (ar 103 V m s.toNat).toNat)) ∧ rst V1 m = upg (rst V m) (ar 103 V m s.toNat).toNat (arp (msv V m s.toNat) (rst V m (ar 103 V m s.toNat).toNat)).2)
theorem MAR.no (h : ¬ OKM V m (vi V (vq V m 103) s.toNat)) (hs : MWQ V V1 m) (ht : MTB V V1 m s) (a98 : ar 98 V1 m = ar 98 V m) (a99 : ar 99 V1 m = ar 99 V m) (a101 : ar 101 V1 m = ar 101 V m) (a20 : ar 20 V1 m = ar 20 V m) (a23 : ar 23 V1 m = ar 23 V m) : MAR V V1 m s := by
  obtain ⟨t1, t2⟩ := ht
  obtain ⟨c3, c8, cf⟩ := tb3_is (D := vi V m 2) (t := msv V m s.toNat)
  refine Or.inl ⟨h, msv_w hs (as_u t1 rfl c3) (as_s a98 (cf 6 (by decide) (by decide))) (as_s a99 (cf 7 (by decide) (by decide))) (as_u t2 rfl c8) (as_s a101 (cf 9 (by decide) (by decide))) (fun f g3 g6 g7 g8 g9 => cf f g3 g8), rst_n hs a20 a23⟩
theorem MAR.ok {k2 k3 : Nat} (h : OKM V m (vi V (vq V m 103) s.toNat)) (hk : Y = vi V (vq V m 103) s.toNat) (hi : i < 0) (hi2 : -1 ≤ i) (hm : MAI V W m s.toNat Y.toNat i) (hs : MWQ V V1 m) (hsw : MWQ V W m) (ht : MTB W V1 m s) (a97 : ar 97 W m = ar 97 V m) (a100 : ar 100 W m = ar 100 V m) (a98 : ar 98 V1 m = updf (ar 98 V m) k2 0) (q2 : k2 = s.toNat) (a20 : ar 20 V1 m = updf (ar 20 V m) k3 z) (q3 : k3 = Y.toNat) (hz : z = wr (vi V (vq V m 20) Y.toNat + vi V (vq V m 98) s.toNat)) (b99 : ar 99 V1 m = ar 99 W m) (b23 : ar 23 V1 m = ar 23 W m) (a101 : ar 101 V1 m = ar 101 V m) : MAR V V1 m s := by
  subst q2 q3
  obtain ⟨t1, t2⟩ := ht
  obtain ⟨m1, m2, m3⟩ := hm
  have e3 : (3 - i).toNat = 4 := by omega
  rw [e3] at m1 m2
  have eY : ar 103 V m s.toNat = Y := hk.symm
  have ep : uni (ar 95 V m s.toNat) (ar 99 V m s.toNat, g0v V m s.toNat Y.toNat) 4 = arp (msv V m s.toNat) (rst V m Y.toNat) := rfl
  rw [ep] at m1 m2
  obtain ⟨c3, c8, cf⟩ := tb3_is (D := vi V m 2) (t := updf (updf (msv V m s.toNat) 6 0) 7 (arp (msv V m s.toNat) (rst V m Y.toNat)).1)
  have e7 : (arp (msv V m s.toNat) (rst V m Y.toNat)).2 7 = z := by
    show (uni (ar 95 V m s.toNat) (ar 99 V m s.toNat, g0v V m s.toNat Y.toNat) 4).2 7 = z
    rw [uni_of (Or.inl (by decide)), hz]
    show updf (rst V m Y.toNat) 7 (wr (ar 20 V m Y.toNat + ar 98 V m s.toNat)) 7 = wr (ar 20 V m Y.toNat + ar 98 V m s.toNat)
    exact updf_at
  have ef : ∀ f, f ≠ 7 → f < 10 ∨ 14 ≤ f → (arp (msv V m s.toNat) (rst V m Y.toNat)).2 f = rst V m Y.toNat f := fun f g7 hf => by
    show (uni (ar 95 V m s.toNat) (ar 99 V m s.toNat, g0v V m s.toNat Y.toNat) 4).2 f = _
    rw [uni_of hf]
    show updf (rst V m Y.toNat) 7 (wr (ar 20 V m Y.toNat + ar 98 V m s.toNat)) f = rst V m Y.toNat f
    exact updf_of g7
  have hd : vi W m 2 = vi V m 2 := hsw.2.2.2.2.2.2.2.2.2.2.2.2
  have h104 : ar 104 W m = ar 104 V m := hsw.2.2.2.2.2.1
  unfold MAR
  rw [eY]
  rw [← hk] at h
  refine Or.inr ⟨h, msv_w hs (as_u (t1.trans (by rw [a97])) rfl c3) (as_u a98 rfl ?_) (as_u (b99.trans m1) rfl ?_) (as_u (t2.trans (by rw [a100, hd, h104])) rfl ?_) (as_s a101 ?_) (fun f g3 g6 g7 g8 g9 => ?_), rst_w hs (as_u a20 rfl e7) (fun j r hr => ?_) ef⟩
  · exact (cf 6 (by decide) (by decide)).trans (by rw [updf_of (by decide), updf_at])
  · exact (cf 7 (by decide) (by decide)).trans updf_at
  · exact c8.trans (by rw [updf_of (by decide), updf_of (by decide)]; rfl)
  · exact (cf 9 (by decide) (by decide)).trans (by rw [updf_of (by decide), updf_of (by decide)]; rfl)
  · exact (cf f g3 g8).trans (by rw [updf_of g7, updf_of g6])
  · rw [b23]
    by_cases q : j = Y.toNat
    · rw [if_pos q, q, m2 r hr]
    · rw [if_neg q, m3 _ (by omega)]
/-! waiting -/
def MWA (V V1 : Vmap) (m : Nat) (s : Int) : Prop :=
  (vi V (vq V m 105) (12 * msv V m s.toNat 4 + vi V m 2 % 360 / 30).toNat ≤ msv V m s.toNat 2 ∧ MAR V V1 m s) ∨ (msv V m s.toNat 2 < vi V (vq V m 105) (12 * msv V m s.toNat 4 + vi V m 2 % 360 / 30).toNat ∧ rst V1 m = rst V m ∧ msv V1 m = upg (msv V m) s.toNat (if wr (msv V m s.toNat 9 + 1) = 60 then tb3 (vi V m 2) (updf (msv V m s.toNat) 9 (wr (msv V m s.toNat 9 + 1))) else updf (msv V m s.toNat) 9 (wr (msv V m s.toNat 9 + 1))))
theorem MWA.in (h : MAR V V1 m s) (hc : vi V (vq V m 105) (12 * vi V (vq V m 102) s.toNat + vi V m 2 % 360 / 30).toNat ≤ vi V (vq V m 96) s.toNat) : MWA V V1 m s := Or.inl ⟨hc, h⟩
theorem MWA.wt {k1 : Nat} (hc : vi V (vq V m 96) s.toNat < vi V (vq V m 105) (12 * vi V (vq V m 102) s.toNat + vi V m 2 % 360 / 30).toNat) (hs : MWQ V V1 m) (a101 : ar 101 V1 m = updf (ar 101 V m) k1 y) (q1 : k1 = s.toNat) (hy : y = wr (vi V (vq V m 101) s.toNat + 1)) (hl : y ≠ 60) (a97 : ar 97 V1 m = ar 97 V m) (a98 : ar 98 V1 m = ar 98 V m) (a99 : ar 99 V1 m = ar 99 V m) (a100 : ar 100 V1 m = ar 100 V m) (a20 : ar 20 V1 m = ar 20 V m) (a23 : ar 23 V1 m = ar 23 V m) : MWA V V1 m s := by
  subst q1
  have e9 : wr (msv V m s.toNat 9 + 1) = y := hy.symm
  refine Or.inr ⟨hc, rst_n hs a20 a23, ?_⟩
  rw [e9, if_neg hl]
  exact msv_w hs (as_s a97 (updf_of (by decide))) (as_s a98 (updf_of (by decide))) (as_s a99 (updf_of (by decide))) (as_s a100 (updf_of (by decide))) (as_u a101 rfl updf_at) (fun f _ _ _ _ g9 => updf_of g9)
theorem MWA.wb {k1 : Nat} (hc : vi V (vq V m 96) s.toNat < vi V (vq V m 105) (12 * vi V (vq V m 102) s.toNat + vi V m 2 % 360 / 30).toNat) (hs : MWQ V V1 m) (hsw : MWQ V W m) (a101 : ar 101 V1 m = updf (ar 101 V m) k1 y) (q1 : k1 = s.toNat) (hy : y = wr (vi V (vq V m 101) s.toNat + 1)) (hl : y = 60) (ht : MTB W V1 m s) (a97 : ar 97 W m = ar 97 V m) (a100 : ar 100 W m = ar 100 V m) (a98 : ar 98 V1 m = ar 98 V m) (a99 : ar 99 V1 m = ar 99 V m) (a20 : ar 20 V1 m = ar 20 V m) (a23 : ar 23 V1 m = ar 23 V m) : MWA V V1 m s := by
  subst q1
  obtain ⟨t1, t2⟩ := ht
  have e9 : wr (msv V m s.toNat 9 + 1) = y := hy.symm
  have hd : vi W m 2 = vi V m 2 := hsw.2.2.2.2.2.2.2.2.2.2.2.2
  have h104 : ar 104 W m = ar 104 V m := hsw.2.2.2.2.2.1
  refine Or.inr ⟨hc, rst_n hs a20 a23, ?_⟩
  rw [e9, if_pos hl]
  obtain ⟨c3, c8, cf⟩ := tb3_is (D := vi V m 2) (t := updf (msv V m s.toNat) 9 y)
  exact msv_w hs (as_u (t1.trans (by rw [a97])) rfl c3) (as_s a98 ((cf 6 (by decide) (by decide)).trans (updf_of (by decide)))) (as_s a99 ((cf 7 (by decide) (by decide)).trans (updf_of (by decide)))) (as_u (t2.trans (by rw [a100, hd, h104])) rfl (c8.trans (by rw [updf_of (by decide)]; rfl))) (as_u a101 rfl ((cf 9 (by decide) (by decide)).trans updf_at)) (fun f g3 _ _ g8 g9 => (cf f g3 g8).trans (updf_of g9))
/-! the day of a ship -/
theorem pre_of (h3 : f ≠ 3) (h8 : f ≠ 8) : pre τ f = τ f := by
  unfold pre
  split
  · rfl
  · rw [updf_of h8, updf_of h3]
theorem tb3_pre (h : ∀ f, f ≠ 3 → f ≠ 8 → c f = c' f) : tb3 D c = tb3 D c' := by
  funext f
  obtain ⟨a3, a8, af⟩ := tb3_is (D := D) (t := c)
  obtain ⟨b3, b8, bf⟩ := tb3_is (D := D) (t := c')
  by_cases g3 : f = 3
  · rw [g3, a3, b3]
  · by_cases g8 : f = 8
    · rw [g8, a8, b8, h 10 (by decide) (by decide)]
    · rw [af f g3 g8, bf f g3 g8, h f g3 g8]
theorem MSG.pr1 (h : vi V (vq V m 97) s.toNat = 2) : msv V m = upg (msv V m) s.toNat (pre (msv V m s.toNat)) := by
  have e : pre (msv V m s.toNat) = msv V m s.toNat := by
    unfold pre
    rw [if_pos (show msv V m s.toNat 3 = 2 from h)]
  rw [e]
  exact (upg_id rfl).symm
theorem MSG.pr2 {k1 k2 : Nat} (hs : MWQ V W m) (a97 : ar 97 W m = updf (ar 97 V m) k1 2) (a100 : ar 100 W m = updf (ar 100 V m) k2 (-1)) (a98 : ar 98 W m = ar 98 V m) (a99 : ar 99 W m = ar 99 V m) (a101 : ar 101 W m = ar 101 V m) (q1 : k1 = s.toNat) (q2 : k2 = s.toNat) (h : vi V (vq V m 97) s.toNat ≠ 2) : msv W m = upg (msv V m) s.toNat (pre (msv V m s.toNat)) := by
  have e : pre (msv V m s.toNat) = updf (updf (msv V m s.toNat) 3 2) 8 (-1) := by
    unfold pre
    rw [if_neg (show ¬ msv V m s.toNat 3 = 2 from h)]
  rw [e]
  exact msv_w hs (as_u a97 q1 (by rw [updf_of (by decide), updf_at])) (as_s a98 (by rw [updf_of (by decide), updf_of (by decide)]; rfl)) (as_s a99 (by rw [updf_of (by decide), updf_of (by decide)]; rfl)) (as_u a100 q2 updf_at) (as_s a101 (by rw [updf_of (by decide), updf_of (by decide)]; rfl)) (fun f g3 _ _ g8 _ => by rw [updf_of g8, updf_of g3])
def MSG (V V1 : Vmap) (m : Nat) (s : Int) : Prop := ∃ t' g', SPR (vi V m 2) (vi V (vq V m 105) (12 * msv V m s.toNat 4 + vi V m 2 % 360 / 30).toNat) (OKM V m (msv V m s.toNat 5)) (msv V m s.toNat) (rst V m (msv V m s.toNat 5).toNat) t' g' ∧ msv V1 m = upg (msv V m) s.toNat t' ∧ rst V1 m = upg (rst V m) (msv V m s.toNat 5).toNat g'
theorem MSG.not (h1 : ¬ (vi V (vq V m 97) s.toNat = 2 ∨ (vi V (vq V m 97) s.toNat = 1 ∧ vi V (vq V m 100) s.toNat ≤ vi V m 2))) (h2 : ¬ (vi V (vq V m 97) s.toNat = 3 ∧ vi V (vq V m 100) s.toNat ≤ vi V m 2)) : MSG V V m s := ⟨_, _, Or.inr (Or.inr (Or.inr (Or.inr ⟨h1, h2, rfl, rfl⟩))), (upg_id rfl).symm, (upg_id rfl).symm⟩
theorem MSG.home {k3 k6 k7 k8 : Nat} (h1 : ¬ (vi V (vq V m 97) s.toNat = 2 ∨ (vi V (vq V m 97) s.toNat = 1 ∧ vi V (vq V m 100) s.toNat ≤ vi V m 2))) (h3 : vi V (vq V m 97) s.toNat = 3) (h8 : vi V (vq V m 100) s.toNat ≤ vi V m 2) (hs : MWQ V V1 m) (a97 : ar 97 V1 m = updf (ar 97 V m) k3 0) (a98 : ar 98 V1 m = updf (ar 98 V m) k6 0) (a99 : ar 99 V1 m = updf (ar 99 V m) k7 0) (a100 : ar 100 V1 m = updf (ar 100 V m) k8 (-1)) (a101 : ar 101 V1 m = ar 101 V m) (a20 : ar 20 V1 m = ar 20 V m) (a23 : ar 23 V1 m = ar 23 V m) (q3 : k3 = s.toNat) (q6 : k6 = s.toNat) (q7 : k7 = s.toNat) (q8 : k8 = s.toNat) : MSG V V1 m s := by
  refine ⟨_, _, Or.inr (Or.inr (Or.inr (Or.inl ⟨h1, h3, h8, rfl, rfl⟩))), ?_, (rst_n hs a20 a23).trans (upg_id rfl).symm⟩
  refine msv_w hs (as_u a97 q3 ?_) (as_u a98 q6 ?_) (as_u a99 q7 ?_) (as_u a100 q8 ?_) (as_s a101 ?_) (fun f g3 g6 g7 g8 g9 => ?_)
  · unfold hmr hme
    rw [updf_of (by decide), updf_at]
  · unfold hmr hme
    rw [updf_of (by decide), updf_of (by decide), updf_of (by decide), updf_at]
  · unfold hmr hme
    rw [updf_of (by decide), updf_of (by decide), updf_at]
  · unfold hmr
    rw [updf_at]
  · unfold hmr hme
    rw [updf_of (by decide), updf_of (by decide), updf_of (by decide), updf_of (by decide)]
    rfl
  · unfold hmr hme
    rw [updf_of g8, updf_of g3, updf_of g7, updf_of g6]
/-- where it meets the ice: W, the memory in which it is said to wait -/
theorem MSG.ice (hc : vi V (vq V m 97) s.toNat = 2 ∨ (vi V (vq V m 97) s.toNat = 1 ∧ vi V (vq V m 100) s.toNat ≤ vi V m 2)) (hs : MWQ V W m) (hM : MSM V W m) (hm : msv W m = upg (msv V m) s.toNat (pre (msv V m s.toNat))) (hr : rst W m = rst V m) (hw : MWA W V1 m s) : MSG V V1 m s := by
  have e2 : vi W m 2 = vi V m 2 := hs.2.2.2.2.2.2.2.2.2.2.2.2
  have e105 : ar 105 W m = ar 105 V m := hs.2.2.2.2.2.2.2.2.2.2.2.1
  have em : msv W m s.toNat = pre (msv V m s.toNat) := by rw [hm, upg_at]
  have e4 : msv W m s.toNat 4 = msv V m s.toNat 4 := by rw [em, pre_of (by decide) (by decide)]
  have e5 : msv W m s.toNat 5 = msv V m s.toNat 5 := by rw [em, pre_of (by decide) (by decide)]
  have e22 : msv W m s.toNat 2 = msv V m s.toNat 2 := by rw [em, pre_of (by decide) (by decide)]
  have e9 : msv W m s.toNat 9 = msv V m s.toNat 9 := by rw [em, pre_of (by decide) (by decide)]
  have eok : OKM W m (msv W m s.toNat 5) ↔ OKM V m (msv V m s.toNat 5) := by
    rw [e5, okm_s hM]
  have ecv : ∀ z : Nat, vi W (vq W m 105) z = vi V (vq V m 105) z := fun z => congrFun e105 z
  have eup : ∀ c, upg (upg (msv V m) s.toNat (pre (msv V m s.toNat))) s.toNat c = upg (msv V m) s.toNat c := fun c => by
    funext j
    unfold upg
    split <;> rfl
  have eap : ∀ g, arp (pre (msv V m s.toNat)) g = arp (msv V m s.toNat) g := fun g => arp_eq (pre_of (by decide) (by decide)) (pre_of (by decide) (by decide)) (pre_of (by decide) (by decide))
  unfold MWA at hw
  rw [ecv, e2, e4, e22, e9, hr, hm, upg_at] at hw
  rcases hw with ⟨c1, c2⟩ | ⟨c1, c2, c3⟩
  · have e5' : ar 103 W m s.toNat = msv V m s.toNat 5 := e5
    rcases c2 with ⟨d1, d2, d3⟩ | ⟨d1, d2, d3⟩
    · rw [e2, hm, upg_at, eup] at d2
      have d1' : ¬ OKM V m (msv V m s.toNat 5) := fun g => d1 (eok.mpr g)
      refine ⟨_, _, Or.inr (Or.inl ⟨hc, c1, d1', rfl, rfl⟩), ?_, ?_⟩
      · rw [d2, tb3_pre (c' := msv V m s.toNat) (fun f g3 g8 => pre_of g3 g8)]
      · rw [d3, hr]
        exact (upg_id rfl).symm
    · rw [e5', e2, hm, upg_at, eup, hr] at d2
      rw [e5', hr, hm, upg_at, eap] at d3
      refine ⟨_, _, Or.inl ⟨hc, c1, eok.mp d1, rfl, rfl⟩, ?_, d3⟩
      rw [d2]
      unfold arr
      rw [eap, tb3_pre (c' := updf (updf (msv V m s.toNat) 6 0) 7 (arp (msv V m s.toNat) (rst V m (msv V m s.toNat 5).toNat)).1) (fun f g3 g8 => ?_)]
      by_cases q7 : f = 7
      · rw [q7, updf_at, updf_at]
      · rw [updf_of q7, updf_of q7]
        by_cases q6 : f = 6
        · rw [q6, updf_at, updf_at]
        · rw [updf_of q6, updf_of q6, pre_of g3 g8]
  · rw [eup] at c3
    refine ⟨_, _, Or.inr (Or.inr (Or.inl ⟨hc, c1, rfl, rfl⟩)), ?_, ?_⟩
    · rw [c3]
      rfl
    · rw [c2]
      exact (upg_id rfl).symm
end Q6
