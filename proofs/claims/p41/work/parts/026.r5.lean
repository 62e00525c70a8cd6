/-! codes that may run -/
section UF
variable {M : MRec} {K0 : Kmap} {V0 : Vmap} {Φ : Option Value → Kmap → Vmap → Prop} {K : Kmap} {V : Vmap} {cells slots pc : Nat} {ls : List (Option Value)} {st : List Value}
theorem GO.useFR (kk : FR (m_ws M) K0 V0 K V → GO M K0 V0 Φ K V cells slots pc ls st) : GO M K0 V0 Φ K V cells slots pc ls st := fun p l e s m args below meth c D dA H locs lsA C hn S hW hF hS hL => kk hF p l e s m args below meth c D dA H locs lsA C hn S hW hF hS hL
end UF
def ASK (c : Int) : Prop := c = 102 ∨ c = 108 ∨ c = 110 ∨ c = 115 ∨ c = 99
theorem SHt_diff {S T : Nat → Int} {fr to n : Nat} (h : ∀ j, fr ≤ j → j < to → S j = T j) (h1 : fr ≤ n) (h2 : n ≤ to) : SHt S n - SHt S fr = SHt T n - SHt T fr := by
  induction n with
  | zero => have : fr = 0 := by omega
            subst this; omega
  | succ n ih =>
    by_cases e : fr = n + 1
    · rw [e]; omega
    · have := ih (by omega) (by omega)
      simp only [SHt]
      rw [h n (by omega) (by omega)]
      omega
theorem SHt_up {S : Nat → Int} {fr n : Nat} (h1 : fr ≤ n) : SHt S n - SHt S fr ≤ (n : Int) - fr := by
  induction n with
  | zero => have : fr = 0 := by omega
            subst this; omega
  | succ n ih =>
    by_cases e : fr = n + 1
    · rw [e]; omega
    · have := ih (by omega)
      simp only [SHt]
      have hd : dl (S n) ≤ 1 := by unfold dl; split <;> (try split) <;> omega
      push_cast
      omega
def GSq (S : Nat → Int) (fr to : Nat) : Prop := (SHt S to - SHt S fr = 1 ∧ fr ≤ to) ∧ ∀ k, fr ≤ k → k < to → (0 ≤ S k ∧ S k / UU ≤ 12) ∧ (2 ≤ S k / UU ∧ S k / UU ≤ 9 → 2 ≤ SHt S k - SHt S fr) ∧ (S k / UU = 10 → 1 ≤ SHt S k - SHt S fr) ∧
  (11 ≤ S k / UU → 1 ≤ SHt S k - SHt S fr ∧ (k : Int) < S k % UU ∧ S k % UU ≤ to ∧ SHt S (S k % UU).toNat - SHt S fr = SHt S k - SHt S fr)
theorem GSq.cong {S T : Nat → Int} {fr to : Nat} (h : GSq S fr to) (e : ∀ j, fr ≤ j → j < to → S j = T j) : GSq T fr to := by
  obtain ⟨⟨a, b⟩, c⟩ := h
  refine ⟨⟨by rw [← SHt_diff e b (Nat.le_refl _)]; exact a, b⟩, fun k h1 h2 => ?_⟩
  obtain ⟨q1, q2, q3, q4⟩ := c k h1 h2
  rw [← e k h1 h2, ← SHt_diff e h1 (Nat.le_of_lt h2)]
  refine ⟨q1, q2, q3, fun ha => ?_⟩
  obtain ⟨r1, r2, r3, r4⟩ := q4 ha
  exact ⟨r1, r2, r3, by rw [← SHt_diff e (by omega) (by omega)]; exact r4⟩
theorem RF.gs {V : Vmap} {x fr : Nat} {S0 : Nat → Int} (h : RF V x fr S0) : GSq (sd V x) fr (vi V x 36).toNat ∧ (fr : Int) ≤ vi V x 36 ∧ 0 ≤ vi V x 36 ∧ vi V x 36 ≤ vi V x 31 ∧ ∀ j, j < fr → sd V x j = S0 j := by
  obtain ⟨h, hw⟩ := h
  have hl := h.le
  obtain ⟨⟨a1, a2, a3, a4⟩, hR, hf⟩ := h
  rw [hw] at hR
  obtain ⟨⟨b1, b2, b3⟩, b4, b5, b6, b7, b8⟩ := hR
  have z0 : (0 : Int).toNat = 0 := rfl
  rw [z0] at b5 b7
  have c0 : cnt pS (wt V x) 0 = 0 := rfl
  rw [c0] at b5
  refine ⟨⟨⟨by omega, b1⟩, fun k h1 h2 => ?_⟩, hl.2.2.2.1, a3, by omega, hf⟩
  obtain ⟨q1, q2, q3, q4, q5⟩ := b7 k h1 h2
  refine ⟨⟨q1, q2⟩, q3, q4, fun ha => ?_⟩
  obtain ⟨r1, r2⟩ := q5 ha
  rcases r2 with ⟨s1, s2, s3⟩ | ⟨j, t1, -⟩
  · exact ⟨r1, s1, by omega, by rw [s3]⟩
  · exact absurd t1 (Nat.not_lt_zero _)
/-- a row's codes from f to t, by b -/
def rowf (V : Vmap) (q : Nat) (b : Int) : Nat → Int := fun j => vi V q (b.toNat + j)
def HG (V : Vmap) (q n : Nat) (b f t : Int) : Prop := (0 ≤ b ∧ b ≤ f ∧ f ≤ t ∧ t ≤ n ∧ t - b ≤ 220) ∧ GSq (rowf V q b) (f - b).toNat (t - b).toNat
def hgt (V : Vmap) (q : Nat) (b f k : Int) : Int := SHt (rowf V q b) (k - b).toNat - SHt (rowf V q b) (f - b).toNat
def HI (V : Vmap) (q : Nat) (b f t k n : Int) : Prop := f ≤ k ∧ k ≤ t ∧ n = hgt V q b f k
section HG
variable {V V1 : Vmap} {q len : Nat} {b f t k n op v : Int}
theorem HI.rf (h : HG V q len b f t) : HI V q b f t f 0 := ⟨Int.le_refl _, h.1.2.2.1, by unfold hgt; omega⟩
theorem HI.le (h : HG V q len b f t) (i : HI V q b f t k n) : n ≤ k - f ∧ 0 ≤ k ∧ t ≤ len ∧ t - f ≤ 220 ∧ f ≤ k ∧ k ≤ t := by
  obtain ⟨⟨h1, h2, h3, h4, h5⟩, -⟩ := h
  obtain ⟨i1, i2, i3⟩ := i
  have := @SHt_up (rowf V q b) (f - b).toNat (k - b).toNat (by omega)
  unfold hgt at i3
  omega
theorem HI.rng (h : HG V q len b f t) (i : HI V q b f t k n) (hk : k < t) (hR : ∀ j, vi V1 q j = vi V q j) : 0 ≤ vi V1 q k.toNat ∧ vi V1 q k.toNat ≤ 13631487 := by
  obtain ⟨⟨h1, h2, h3, h4, h5⟩, h6⟩ := h
  obtain ⟨i1, i2, i3⟩ := i
  have g := (h6.2 (k - b).toNat (by omega) (by omega)).1
  have e : b.toNat + (k - b).toNat = k.toNat := by omega
  unfold rowf at g
  rw [e] at g
  rw [hR]
  unfold UU at g
  omega
theorem HI.at (h : HG V q len b f t) (i : HI V q b f t k n) (hk : k < t) (hR : ∀ j, vi V1 q j = vi V q j) (ho : op = vi V1 q k.toNat / 1048576) (hv : v = vi V1 q k.toNat % 1048576) :
    (0 ≤ op ∧ op ≤ 12 ∧ 0 ≤ v ∧ v ≤ 1048575) ∧ (op ≤ 1 → HI V q b f t (k + 1) (n + 1)) ∧ (10 = op → 1 ≤ n ∧ HI V q b f t (k + 1) n) ∧ (2 ≤ op ∧ op ≤ 9 → 2 ≤ n ∧ HI V q b f t (k + 1) (n - 1)) ∧
    (11 ≤ op → 1 ≤ n ∧ k < b + v ∧ b + v ≤ t ∧ HI V q b f t (b + v) n ∧ HI V q b f t (k + 1) (n - 1)) := by
  have hl := HI.le h i
  obtain ⟨⟨h1, h2, h3, h4, h5⟩, h6⟩ := h
  obtain ⟨i1, i2, i3⟩ := i
  obtain ⟨g1, g2, g3, g4⟩ := h6.2 (k - b).toNat (by omega) (by omega)
  have e : b.toNat + (k - b).toNat = k.toNat := by omega
  have er : rowf V q b (k - b).toNat = vi V q k.toNat := by unfold rowf; rw [e]
  rw [hR, ← er] at ho hv
  have e1 : (k + 1 - b).toNat = (k - b).toNat + 1 := by omega
  have hs : hgt V q b f (k + 1) = n + dl (rowf V q b (k - b).toNat) := by rw [i3]; unfold hgt; rw [e1]; simp only [SHt]; omega
  unfold UU at *
  rw [← ho] at g1 g2 g3 g4
  rw [← hv] at g4
  have hd : dl (rowf V q b (k - b).toNat) = if op ≤ 1 then 1 else if op = 10 then 0 else -1 := by unfold dl UU; rw [← ho]
  rw [hd] at hs
  have hn : n = SHt (rowf V q b) (k - b).toNat - SHt (rowf V q b) (f - b).toNat := i3
  refine ⟨by omega, fun a => ⟨by omega, by omega, ?_⟩, fun a => ⟨by have := g3 a.symm; omega, by omega, by omega, ?_⟩, fun a => ⟨by have := g2 a; omega, by omega, by omega, ?_⟩, fun a => ?_⟩
  · rw [hs, if_pos a]
  · rw [hs, if_neg (by omega), if_pos a.symm]; omega
  · rw [hs, if_neg (by omega), if_neg (by omega)]; omega
  · obtain ⟨r1, r2, r3, r4⟩ := g4 a
    refine ⟨by omega, by omega, by omega, ⟨by omega, by omega, ?_⟩, ⟨by omega, by omega, ?_⟩⟩
    · unfold hgt
      rw [show (b + v - b).toNat = v.toNat by omega]
      omega
    · rw [hs, if_neg (by omega), if_neg (by omega)]; omega
theorem HG.cong (h : HG V q len b f t) (hR : ∀ j, vi V1 q j = vi V q j) : HG V1 q len b f t := ⟨h.1, h.2.cong fun j _ _ => by unfold rowf; rw [hR]⟩
end HG
/-- all that the treaty's texts and the readings hold may run -/
def ar (s : Nat) (V : Vmap) (x : Nat) : Nat → Int := fun j => vi V (vq V x s) j
def GXt (V : Vmap) (x : Nat) : Prop := ∀ i j : Int, 0 ≤ i → i < vi V x 47 → 0 ≤ j → j < ar 50 V x i.toNat → ASK (ar 53 V x (12 * i + j).toNat) → HG V (vq V x 49) 4400 (220 * i) (ar 54 V x (12 * i + j).toNat) (ar 55 V x (12 * i + j).toNat)
def GXr (V : Vmap) (x : Nat) : Prop := ∀ r : Int, 0 ≤ r → r < vi V x 48 → HG V (vq V x 60) 2200 (110 * r) (110 * r) (110 * r + ar 61 V x r.toNat)
def GX (V : Vmap) (x : Nat) : Prop := GXt V x ∧ GXr V x
def HX (V : Vmap) (x : Nat) (c : Int) : Prop := HG V (vq V x 49) 4400 (220 * (c / 12)) (ar 54 V x c.toNat) (ar 55 V x c.toNat)
section GX
variable {K : Kmap} {V V1 : Vmap} {x ws : Nat}
theorem WT.arr {K : Kmap} {V : Vmap} (hW : WT K V) {x : Nat} (hx : K x = some (0, 11)) (s t : Nat) (hs : s < 151) (h : fT (0, 11) s = (1, t + 1, 0, 0, 0)) (hl : lentab.getD t 0 ≠ 0) : K (vq V x s) = some (t + 1, lentab.getD t 0) := by
  have h1 := hW.ref hx (j := s) (by show s < 151; exact hs) (t := t + 1) (c := 0) (lo := 0) (hi := 0) h
  obtain ⟨n, hn⟩ := h1.2
  have h3 := (hW.len hn).2.2
  rw [hn]
  congr 2
  rcases h3 with h3 | h3
  · exact absurd h3 hl
  · exact h3
theorem HX.of {i j c : Int} (h : GX V x) (hi : 0 ≤ i) (hi1 : i < vi V x 47) (hj : 0 ≤ j) (hj1 : j < ar 50 V x i.toNat) (hj2 : j < 12) (hc : c = 12 * i + j) (ha : ASK (ar 53 V x c.toNat)) : HX V x c := by
  have := h.1 i j hi hi1 hj hj1 (by rw [← hc]; exact ha)
  unfold HX
  rw [show c / 12 = i by omega, hc]
  exact this
theorem GX.own {r : Int} (h : GXr V x) (h0 : 0 ≤ r) (h1 : r < vi V x 48) : HG V (vq V x 60) 2200 (110 * r) (110 * r) (110 * r + vi V (vq V x 61) r.toNat) := h r h0 h1
/-- what isn't written stays -/
theorem ar_fr {s t n : Nat} (hF : FR ws K V K V1) (hx : K x = some (0, 11)) (hk : K (vq V x s) = some (t + 1, n)) (b1 : ws.testBit (keyK (0, 11) s) = false) (b2 : ws.testBit (abase + (t + 1)) = false) : vq V1 x s = vq V x s ∧ ar s V1 x = ar s V x := by
  have q1 : vq V1 x s = vq V x s := by unfold vq; rw [hF x _ s hx hx b1]
  exact ⟨q1, funext fun j => by unfold ar; rw [q1, vi_frA hF hk hk b2]⟩
theorem rw_fr {s t n : Nat} (hF : FR ws K V K V1) (hk : K (vq V x s) = some (t + 1, n)) (b2 : ws.testBit (abase + (t + 1)) = false) : ∀ j, vi V1 (vq V x s) j = vi V (vq V x s) j := fun j => vi_frA hF hk hk b2
def gxbits (ws : Nat) : Bool := [(0, 0)].all fun _ => [47, 48, 49, 50, 53, 54, 55, 60, 61].all (fun s => !ws.testBit (keyK (0, 11) s)) && [40, 41, 44, 45, 46, 51, 52].all (fun t => !ws.testBit (abase + (t + 1)))
theorem GX.fr (hF : FR ws K V K V1) (h : GX V x) (hW : WT K V) (hx : K x = some (0, 11)) (hb : gxbits ws = true) : GX V1 x := by
  simp only [gxbits, List.all_cons, List.all_nil, Bool.and_true, Bool.and_eq_true, Bool.not_eq_true'] at hb
  obtain ⟨⟨f1, f2, f3, f4, f5, f6, f7, f8, f9⟩, t1, t2, t3, t4, t5, t6, t7⟩ := hb
  have k49 := hW.arr hx 49 40 (by decide) rfl (by decide)
  have k60 := hW.arr hx 60 51 (by decide) rfl (by decide)
  have a50 := ar_fr hF hx (hW.arr hx 50 41 (by decide) rfl (by decide)) f4 t2
  have a53 := ar_fr hF hx (hW.arr hx 53 44 (by decide) rfl (by decide)) f5 t3
  have a54 := ar_fr hF hx (hW.arr hx 54 45 (by decide) rfl (by decide)) f6 t4
  have a55 := ar_fr hF hx (hW.arr hx 55 46 (by decide) rfl (by decide)) f7 t5
  have a61 := ar_fr hF hx (hW.arr hx 61 52 (by decide) rfl (by decide)) f9 t7
  have a49 := ar_fr hF hx k49 f3 t1
  have a60 := ar_fr hF hx k60 f8 t6
  have e47 : vi V1 x 47 = vi V x 47 := vi_fr hF hx hx f1
  have e48 : vi V1 x 48 = vi V x 48 := vi_fr hF hx hx f2
  constructor
  · intro i j hi hi1 hj hj1 ha
    rw [e47] at hi1; rw [a50.2] at hj1; rw [a53.2] at ha
    rw [a49.1, a54.2, a55.2]
    exact (h.1 i j hi hi1 hj hj1 ha).cong (rw_fr hF k49 t1)
  · intro r h0 h1
    rw [e48] at h1
    rw [a60.1, a61.2]
    exact (h.2 r h0 h1).cong (rw_fr hF k60 t6)
end GX
theorem HI.eq {V : Vmap} {q : Nat} {b f t k n k1 n1 : Int} (h : HI V q b f t k n) (e1 : k1 = k) (e2 : n1 = n) : HI V q b f t k1 n1 := by subst e1 e2; exact h
