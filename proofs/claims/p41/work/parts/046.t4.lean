/-! ### the class's reader: sums, pieces, conditions -/
section T4
variable {K : Kmap} {V V1 V2 V3 V4 V5 V6 V7 : Vmap} {x d d1 : Nat}
variable {tot rest rest' f g : (Nat → Int) → Nat → PS → PE} {rest1 : (Nat → Int) → Nat → Nat → PS → PE}
/-- a product's sign, as the class's kind -/
theorem mul_kind {c k : Int} (h : (c = 42 ∧ k = 7) ∨ (c = 47 ∧ k = 8) ∨ (c = 37 ∧ k = 9)) : 1048576 * trK k + 0 = 1048576 * mulN c ∧ 0 ≤ mulN c ∧ 0 ≤ k ∧ k < 32 ∧ c ≠ -1 := by
  rcases h with ⟨rfl, rfl⟩ | ⟨rfl, rfl⟩ | ⟨rfl, rfl⟩ <;> decide
theorem add_kind {c k : Int} (h : (c = 43 ∧ k = 5) ∨ (c = 45 ∧ k = 6)) : 1048576 * trK k + 0 = 1048576 * addN c ∧ 0 ≤ addN c ∧ 0 ≤ k ∧ k < 32 ∧ c ≠ -1 := by
  rcases h with ⟨rfl, rfl⟩ | ⟨rfl, rfl⟩ <;> decide
theorem cmp_kind {c k : Int} (h : (c = 60 ∧ k = 10) ∨ (c = 62 ∧ k = 11) ∨ (c = 61 ∧ k = 12)) : 1048576 * trK k + 0 = 1048576 * cmpN c ∧ 0 ≤ cmpN c ∧ 0 ≤ k ∧ k < 32 ∧ c ≠ -1 := by
  rcases h with ⟨rfl, rfl⟩ | ⟨rfl, rfl⟩ | ⟨rfl, rfl⟩ <;> decide
/-- in factors(), i times round -/
abbrev FSI (K : Kmap) (V0 V : Vmap) (x d : Nat) (i : Int) : Prop := LPI K V0 V x (fun src e => facsG src e (facD src e d)) (fun src e => facL src e (facD src e d) (200 - i.toNat))
theorem FSI.beg (h : CR K V V1 x (fun src e => facD src e d)) : FSI K V V1 x d 0 := LPI.of h (fun src e s => rfl)
theorem FSI.step {i c k Z X : Int} (h : FSI K V V1 x d i) (h0 : 0 ≤ i) (hi : i < 200) (hc : sgC V1 x = c) (hk : (c = 42 ∧ k = 7) ∨ (c = 47 ∧ k = 8) ∨ (c = 37 ∧ k = 9)) (hx : K x = some (0, 4)) (hW1 : WT K V1) (hW3 : WT K V3) (e1 : V2 = upd2 V1 x 3 (ti Z)) (hZ : ir (vi V1 x 3 + 1) → Z = vi V1 x 3 + 1) (rZ : ir Z) (h2 : CR K V2 V3 x (fun src e => facD src e d)) (h3 : ADD K V3 V4 (scT V3 x) k 0 X) : FSI K V V4 x d (i + 1) := by
  obtain ⟨k1, k2, k3, k4, k5⟩ := mul_kind hk
  have s1 := CRg.adv hx hW1 hc k5 e1 hZ rZ
  have s3 := CRg.add h3 hx hW3 k3 k4 (by decide) (by decide)
  have s := (s1.bnd h2 (a := 0) (b := 1) (l := 0) (by omega) (by omega) (by omega)).bnd s3 (a := 0) (b := 1) (l := 1) (by omega) (by omega) (by omega)
  refine LPI.step h s (by omega) fun src e s1 hs => ?_
  have hr : rdS src e s1.1 = c := by rw [← hs.sg]; exact hc
  have e1 : 200 - i.toNat = (200 - (i + 1).toNat) + 1 := by omega
  rw [e1, facL_s, hr, if_pos k2]
  unfold tak
  rw [if_pos hr, bnd_ok, bnd_as, k1]
  rfl
theorem FSI.end {i : Int} (h : FSI K V V1 x d i) (h0 : 0 ≤ i) (he : 200 ≤ i ∨ vi V1 x 5 ≠ 0 ∨ ¬ (sgC V1 x = 42 ∨ sgC V1 x = 47 ∨ sgC V1 x = 37)) : CR K V V1 x (fun src e => facsG src e (facD src e d)) :=
  LPI.end h fun src e s1 hs => by
    rcases he with q | q | q
    · rw [show 200 - i.toNat = 0 by omega]; rfl
    · exact absurd hs.2.1 q
    · cases hn : 200 - i.toNat with
      | zero => rfl
      | succ n =>
        rw [facL_s, ← hs.sg, if_neg]
        unfold mulN
        rw [if_neg (fun r => q (Or.inl r)), if_neg (fun r => q (Or.inr (Or.inl r))), if_neg (fun r => q (Or.inr (Or.inr r)))]
        decide
abbrev TSI (K : Kmap) (V0 V : Vmap) (x d : Nat) (i : Int) : Prop := LPI K V0 V x (fun src e => terD src e d) (fun src e => terL src e (facsG src e (facD src e d)) (200 - i.toNat))
theorem terD_eq {src : Nat → Int} {e : Nat} {s : PS} (hd : d ≤ 8) : terD src e d s = bnd (facsG src e (facD src e d) s) (terL src e (facsG src e (facD src e d)) 200) := by
  unfold terD
  rw [show 9 - d = (8 - d) + 1 by omega]
  rfl
theorem TSI.beg (h : CR K V V1 x (fun src e => facsG src e (facD src e d))) (hd : d ≤ 8) : TSI K V V1 x d 0 := LPI.of h (fun src e s => terD_eq hd)
theorem TSI.bad (h : CR K V V1 x f) (h5 : vi V x 5 ≠ 0) : TSI K V V1 x d 0 := LPI.bad h h5
theorem TSI.step {i c k Z X : Int} (h : TSI K V V1 x d i) (h0 : 0 ≤ i) (hi : i < 200) (hc : sgC V1 x = c) (hk : (c = 43 ∧ k = 5) ∨ (c = 45 ∧ k = 6)) (hx : K x = some (0, 4)) (hW1 : WT K V1) (hW3 : WT K V3) (e1 : V2 = upd2 V1 x 3 (ti Z)) (hZ : ir (vi V1 x 3 + 1) → Z = vi V1 x 3 + 1) (rZ : ir Z) (h2 : CR K V2 V3 x (fun src e => facsG src e (facD src e d))) (h3 : ADD K V3 V4 (scT V3 x) k 0 X) : TSI K V V4 x d (i + 1) := by
  obtain ⟨k1, k2, k3, k4, k5⟩ := add_kind hk
  have s1 := CRg.adv hx hW1 hc k5 e1 hZ rZ
  have s3 := CRg.add h3 hx hW3 k3 k4 (by decide) (by decide)
  have s := (s1.bnd h2 (a := 0) (b := 1) (l := 0) (by omega) (by omega) (by omega)).bnd s3 (a := 0) (b := 1) (l := 1) (by omega) (by omega) (by omega)
  refine LPI.step h s (by omega) fun src e s1 hs => ?_
  have hr : rdS src e s1.1 = c := by rw [← hs.sg]; exact hc
  have e1 : 200 - i.toNat = (200 - (i + 1).toNat) + 1 := by omega
  rw [e1, terL_s, hr, if_pos k2]
  unfold tak
  rw [if_pos hr, bnd_ok, bnd_as, k1]
  rfl
theorem TSI.end {i : Int} (h : TSI K V V1 x d i) (h0 : 0 ≤ i) (he : 200 ≤ i ∨ vi V1 x 5 ≠ 0 ∨ ¬ (sgC V1 x = 43 ∨ sgC V1 x = 45)) : CR K V V1 x (fun src e => terD src e d) :=
  LPI.end h fun src e s1 hs => by
    rcases he with q | q | q
    · rw [show 200 - i.toNat = 0 by omega]; rfl
    · exact absurd hs.2.1 q
    · cases hn : 200 - i.toNat with
      | zero => rfl
      | succ n =>
        rw [terL_s, ← hs.sg, if_neg]
        unfold addN
        rw [if_neg (fun r => q (Or.inl r)), if_neg (fun r => q (Or.inr r))]
        decide
/-! pieces -/
theorem CRg.erT {a b l : Nat} {er : PS → Int × Nat} (h : CRg K V V1 x a b l (fun _ _ s => .error (er s))) (hf : ∀ src e q, FELL K V1 x src e q → FELL K V2 x src e q) (hs : SFR V1 V2 x) : CRg K V V2 x a b l (fun _ _ s => .error (er s)) := ⟨fun src e => ⟨fun s hs hn => hf src e _ ((h.1 src e).1 s hs hn), fun q hq => hf src e q ((h.1 src e).2 q hq)⟩, h.2.tr hs⟩
/-- comparison(): the sign's kind; another sign is a fault -/
def CMP (V V1 : Vmap) (x : Nat) (c X : Int) : Prop := (V1 = V ∧ ((c = 60 ∧ X = 10) ∨ (c = 62 ∧ X = 11) ∨ (c = 61 ∧ X = 12))) ∨ (c ≠ 60 ∧ c ≠ 62 ∧ c ≠ 61 ∧ X = 12 ∧ ∃ w, ir w ∧ w = vi V x 3 ∧ RFS V V1 x 1 w)
theorem PIE.cmp {c k k1 Z X : Int} (hc : c = sgC V1 x) (hkk : k1 = k) (hd : d ≤ 8) (h33 : sgC V x ≠ 33) (h40 : sgC V x ≠ 40) (h1 : CR K V V1 x (fun src e => terD src e d)) (h2 : CMP V1 V2 x c k) (hx : K x = some (0, 4)) (hW1 : WT K V1) (hW2 : WT K V2) (hW4 : WT K V4) (e3 : V3 = upd2 V2 x 3 (ti Z)) (hZ : ir (vi V2 x 3 + 1) → Z = vi V2 x 3 + 1) (rZ : ir Z) (h4 : CR K V3 V4 x (fun src e => terD src e d)) (h5 : ADD K V4 V5 (scT V4 x) k1 0 X) : CR K V V5 x (fun src e => pieD src e d) := by
  have hkk2 := hkk.symm
  subst hkk2
  have hk : 0 ≤ k ∧ k < 32 := by rcases h2 with ⟨-, h2⟩ | ⟨-, -, -, h2, -⟩ <;> omega
  have s5 := CRg.add h5 hx hW4 hk.1 hk.2 (by decide) (by decide)
  have mid : CRg K V1 V5 x 0 0 0 (fun src e s2 => if 0 ≤ cmpN (rdS src e s2.1) then bnd (terD src e d (adv s2)) (fun s3 => .ok (emt s3 (1048576 * cmpN (rdS src e s2.1)))) else .error (1, s2.1)) := by
    rcases h2 with ⟨rfl, h2⟩ | ⟨n1, n2, n3, -, w, rw_, hw, hR⟩
    · obtain ⟨k1, k2, k3, k4, k5⟩ := cmp_kind h2
      have s3 := CRg.adv hx hW2 hc.symm k5 e3 hZ rZ
      refine ((s3.bnd h4 (a := 0) (b := 1) (l := 0) (by omega) (by omega) (by omega)).bnd s5 (a := 0) (b := 0) (l := 0) (by omega) (by omega) (by omega)).to fun src e s hs => ?_
      have hr : rdS src e s.1 = c := by rw [← hs.sg]; exact hc.symm
      unfold tak
      rw [hr, if_pos rfl, bnd_ok, if_pos k2, k1]
    · have s2 := CRg.rfs hR hx hW1 (ir_c rfl) (by decide) rw_ hw
      refine (((CRg.erT (er := fun s => (1, s.1)) s2 (fun src e q hq => FELL.put hq hx hW2 e3 (Or.inl rfl)) (SFR.put hx hW2 e3 (by decide))).erT (fun src e q hq => (h4.1 src e).2 q hq) h4.2).erT (fun src e q hq => (s5.1 src e).2 q hq) s5.2).to fun src e s hs => ?_
      have hr : rdS src e s.1 = c := by rw [← hs.sg]; exact hc.symm
      rw [if_neg]
      rw [hr]
      unfold cmpN
      rw [if_neg n1, if_neg n2, if_neg n3]
      decide
  refine (h1.bnd mid (a := 0) (b := 0) (l := 0) (by omega) (by omega) (by omega)).to fun src e s hs => ?_
  rw [pieD_c hd (by rw [← hs.sg]; exact h33) (by rw [← hs.sg]; exact h40)]
  rfl
/-- negation() -/
def negD (src : Nat → Int) (e d : Nat) (s : PS) : PE := bnd (depS 33 d src e s) (fun s1 => bnd (pieD src e (d + 1) s1) (fun s2 => .ok (emt s2 10485760)))
theorem NEG.of {v : Value} {X : Int} (h1 : CRg K V V1 x 0 1 0 (depS 33 d)) (h2 : CR K V1 V2 x (fun src e => pieD src e d1)) (hd : d1 = d + 1) (hx : K x = some (0, 4)) (hW2 : WT K V2) (hW3 : WT K V3) (e3 : V3 = upd2 V2 x 4 v) (h4 : ADD K V3 V4 (scT V3 x) 2 0 X) : CR K V V4 x (fun src e => negD src e d) := by
  subst hd
  have s4 := CRg.add h4 hx hW3 (by decide) (by decide) (by decide) (by decide)
  refine (((h1.bnd h2 (a := 0) (b := 1) (l := 0) (by omega) (by omega) (by omega)).bnd (CRg.dep hx hW2 e3) (a := 0) (b := 1) (l := 0) (by omega) (by omega) (by omega)).bnd s4 (a := 0) (b := 0) (l := 0) (by omega) (by omega) (by omega)).to fun src e s hs => ?_
  unfold negD
  rw [bnd_id, bnd_as]
  rfl
theorem PIE.neg (hc : sgC V x = 33) (hd : d ≤ 8) (h : CR K V V1 x (fun src e => negD src e d)) : CR K V V1 x (fun src e => pieD src e d) :=
  h.to fun src e s hs => by
    have hr : rdS src e s.1 = 33 := by rw [← hs.sg]; exact hc
    rw [pieD_eq hd]
    unfold negD depS pieG dep
    rw [if_pos hr, if_pos hr]
    by_cases h8 : 8 ≤ d
    · rw [if_pos h8, if_pos h8, bnd_er]
    · rw [if_neg h8, if_neg h8, bnd_ok, pieL_eq (by omega)]
theorem parD_eq {src : Nat → Int} {e : Nat} (hd : d < 8) : (fun s1 => orG src e (parG src e (pieF src e (8 - d) (d + 1))) s1) = parD src e (d + 1) := by
  funext s1
  unfold parD
  rw [pieL_eq hd]
theorem PIE.par {v : Value} (hc : sgC V x = 40) (hd8 : d ≤ 8) (h1 : CRg K V V1 x 0 1 0 (depS 40 d)) (h2 : CR K V1 V2 x (fun src e => parD src e d1)) (hd : d1 = d + 1) (hx : K x = some (0, 4)) (hW2 : WT K V2) (e3 : V3 = upd2 V2 x 4 v) (h4 : CRg K V3 V4 x 0 1 0 (fun src e => tak src e 41)) : CR K V V4 x (fun src e => pieD src e d) :=
  ((((h1.bnd h2 (a := 0) (b := 0) (l := 0) (by omega) (by omega) (by omega)).bnd (CRg.dep hx hW2 e3) (a := 0) (b := 0) (l := 0) (by omega) (by omega) (by omega)).bnd h4 (a := 0) (b := 0) (l := 0) (by omega) (by omega) (by omega))).to fun src e s hs => by
    have hr : rdS src e s.1 = 40 := by rw [← hs.sg]; exact hc
    subst hd
    rw [pieD_eq hd8]
    unfold pieG dep depS
    have h33 : ¬ rdS src e s.1 = 33 := by rw [hr]; decide
    rw [if_neg h33, if_pos hr, if_pos hr]
    by_cases h8 : 8 ≤ d
    · rw [if_pos h8, if_pos h8, bnd_er, bnd_er, bnd_er]
    · rw [if_neg h8, if_neg h8, bnd_ok, bnd_id]
      have := congrFun (parD_eq (src := src) (e := e) (d := d) (by omega)) (adv s)
      rw [← this]
/-! parts: loops with a jump that waits -/
def jo (p : Int) : Option Nat := if p = -1 then none else some p.toNat
theorem jo_is {p : Int} (h : p = -1 ∨ 0 ≤ p) : (p = -1 ∧ jo p = none) ∨ ∃ k : Nat, p = (k : Int) ∧ jo p = some k := by
  unfold jo
  by_cases e : p = -1
  · exact Or.inl ⟨e, if_pos e⟩
  · rw [if_neg e]
    exact Or.inr ⟨p.toNat, by omega, rfl⟩
theorem jo_nat {n : Nat} : jo (n : Int) = some n := by
  unfold jo
  rw [if_neg (by omega)]
  rfl
def LPJ (K : Kmap) (V0 V : Vmap) (x : Nat) (tot rest : (Nat → Int) → Nat → PS → PE) (p : Int) : Prop := SFR V0 V x ∧ ∀ src e, (∀ s, AT K V0 x src e s → s.2.1 ≤ s.1 → (∃ s1, AT K V x src e s1 ∧ (s1.2.1 + s.1 ≤ s1.1 + s.2.1 ∧ s.2.1 ≤ s1.2.1) ∧ ((p = -1 ∨ 0 ≤ p) ∧ ∀ k, jo p = some k → k < s1.2.1) ∧ tot src e s = rest src e s1) ∨ ∃ q, FELL K V x src e q ∧ tot src e s = .error q) ∧ ∀ q, FELL K V0 x src e q → FELL K V x src e q
theorem LPJ.of (h : CR K V V1 x f) (ht : ∀ src e s, tot src e s = bnd (f src e s) (rest src e)) : LPJ K V V1 x tot rest (-1) := ⟨h.2, fun src e => ⟨fun s hs hn => by
  have r := (h.1 src e).1 s hs (by omega)
  cases hf : f src e s with
  | ok s1 => rw [hf] at r; exact Or.inl ⟨s1, r.1, (by have := r.2; omega), ⟨Or.inl rfl, (fun k hk => by rw [show jo (-1) = none from if_pos rfl] at hk; cases hk)⟩, (by rw [ht, hf, bnd_ok])⟩
  | error q => rw [hf] at r; exact Or.inr ⟨q, r, by rw [ht, hf, bnd_er]⟩, (h.1 src e).2⟩⟩
/-- once round: the sign goes, the jump lands, another is told, and what f says -/
theorem LPJ.step {p X Z c k : Int} (h : LPJ K V V1 x tot rest p) (hc : sgC V1 x = c) (hc0 : c ≠ -1) (hx : K x = some (0, 4)) (hW1 : WT K V1) (hW2 : WT K V2) (hW3 : WT K V3) (k0 : 0 ≤ k) (hk : k < 32) (e1 : V2 = upd2 V1 x 3 (ti Z)) (hZ : ir (vi V1 x 3 + 1) → Z = vi V1 x 3 + 1) (rZ : ir Z) (h2 : LED K V2 V3 (scT V2 x) p) (h3 : ADD K V3 V4 (scT V2 x) k 0 X) (h4 : CR K V4 V5 x f)
    (hr : ∀ src e s1, AT K V1 x src e s1 → rest src e s1 = bnd (f src e (emt (pat (adv s1) (jo p)) (1048576 * trK k + 0))) (fun s2 => rest1 src e s1.2.1 s2)) (hr1 : ∀ src e (n : Nat) s, X = (n : Int) → rest1 src e n s = rest' src e s) : LPJ K V V5 x tot rest' X := by
  rw [← h2.T hx hW2] at h3
  have s1 := CRg.adv hx hW1 hc hc0 e1 hZ rZ
  have s3 := CRg.add h3 hx hW3 k0 hk (o := 0) (by decide) (by decide)
  refine ⟨(((h.1.tr s1.2).tr (h2.sfr hx hW2)).tr s3.2).tr h4.2, fun src e => ⟨fun s hs hn => ?_, fun q hq => (h4.1 src e).2 q ((s3.1 src e).2 q (h2.fell hx hW2 ((s1.1 src e).2 q ((h.2 src e).2 q hq))))⟩⟩
  rcases (h.2 src e).1 s hs hn with ⟨t, a1, a2, ⟨a3', a3⟩, a4⟩ | ⟨q, a1, a2⟩
  · have hrd : rdS src e t.1 = c := by rw [← a1.sg]; exact hc
    have r1 : RES K V2 x src e 1 0 t.2.1 t.1 (tak src e c t) := (s1.1 src e).1 t a1 (by omega)
    have htk : tak src e c t = .ok (adv t) := by unfold tak; rw [if_pos hrd]
    rw [htk] at r1
    have r2 := h2.at hx hW2 (jo_is a3') r1.1 a3 (by show t.2.1 ≤ t.1 + 1; omega)
    have hpn : (pat (adv t) (jo p)).2.1 = t.2.1 := pat_n
    have hp1 : (pat (adv t) (jo p)).1 = t.1 + 1 := pat_1
    have hXn : X = (t.2.1 : Int) := by
      have := h3.num r2
      rw [hpn] at this
      exact this
    have r3 := (s3.1 src e).1 _ r2 (by rw [hpn, hp1]; omega)
    have r4 := (h4.1 src e).1 _ r3.1 (by show (pat (adv t) (jo p)).2.1 + 1 ≤ (pat (adv t) (jo p)).1; rw [hpn, hp1]; omega)
    have hjo : jo X = some t.2.1 := by rw [hXn]; exact jo_nat
    have htot := a4.trans (hr src e t a1)
    cases hf : f src e (emt (pat (adv t) (jo p)) (1048576 * trK k + 0)) with
    | ok s5 =>
      rw [hf] at r4 htot
      have q1 := r4.2
      have g1 : (emt (pat (adv t) (jo p)) (1048576 * trK k + 0)).2.1 = t.2.1 + 1 := by show (pat (adv t) (jo p)).2.1 + 1 = _; rw [hpn]
      have g2 : (emt (pat (adv t) (jo p)) (1048576 * trK k + 0)).1 = t.1 + 1 := hp1
      rw [g1, g2] at q1
      exact Or.inl ⟨s5, r4.1, (by omega), ⟨(by omega), fun k' hk' => by rw [hjo] at hk'; cases hk'; omega⟩, (by rw [htot, bnd_ok]; exact hr1 src e _ s5 hXn)⟩
    | error q =>
      rw [hf] at r4 htot
      exact Or.inr ⟨q, r4, by rw [htot, bnd_er]⟩
  · exact Or.inr ⟨q, (h4.1 src e).2 q ((s3.1 src e).2 q (h2.fell hx hW2 ((s1.1 src e).2 q a1))), a2⟩
theorem LPJ.end {p : Int} (h : LPJ K V V1 x tot rest p) (hx : K x = some (0, 4)) (hW1 : WT K V1) (h2 : LED K V1 V2 (scT V1 x) p) (hr : ∀ src e s1, AT K V1 x src e s1 → rest src e s1 = .ok (pat s1 (jo p))) : CR K V V2 x tot := by
  refine ⟨fun src e => ⟨fun s hs hn => ?_, fun q hq => h2.fell hx hW1 ((h.2 src e).2 q hq)⟩, h.1.tr (h2.sfr hx hW1)⟩
  rcases (h.2 src e).1 s hs (by omega) with ⟨t, a1, a2, ⟨a3', a3⟩, a4⟩ | ⟨q, a1, a2⟩
  · exact RES.ok (a4.trans (hr src e t a1)) (h2.at hx hW1 (jo_is a3') a1 a3 (by omega)) (by rw [pat_1, pat_n]; omega)
  · exact RES.er a2 (h2.fell hx hW1 a1)
/-- in part() -/
abbrev AJI (K : Kmap) (V0 V : Vmap) (x d : Nat) (p i : Int) : Prop := LPJ K V0 V x (fun src e => parG src e (pieD src e d)) (fun src e => andL src e (pieD src e d) (200 - i.toNat) (jo p)) p
theorem AJI.beg (h : CR K V V1 x (fun src e => pieD src e d)) : AJI K V V1 x d (-1) 0 := LPJ.of h (fun src e s => rfl)
theorem AJI.step {p i X Z : Int} (h : AJI K V V1 x d p i) (h0 : 0 ≤ i) (hi : i < 200) (hc : sgC V1 x = 38) (hx : K x = some (0, 4)) (hW1 : WT K V1) (hW2 : WT K V2) (hW3 : WT K V3) (e1 : V2 = upd2 V1 x 3 (ti Z)) (hZ : ir (vi V1 x 3 + 1) → Z = vi V1 x 3 + 1) (rZ : ir Z) (h2 : LED K V2 V3 (scT V2 x) p) (h3 : ADD K V3 V4 (scT V2 x) 4 0 X) (h4 : CR K V4 V5 x (fun src e => pieD src e d)) : AJI K V V5 x d X (i + 1) :=
  LPJ.step (rest1 := fun src e n s2 => andL src e (pieD src e d) (200 - (i + 1).toNat) (some n) s2) h hc (by decide) hx hW1 hW2 hW3 (by decide) (by decide) e1 hZ rZ h2 h3 h4 (fun src e s1 hs => by
    have hr : rdS src e s1.1 = 38 := by rw [← hs.sg]; exact hc
    show andL src e (pieD src e d) (200 - i.toNat) (jo p) s1 = _
    rw [show 200 - i.toNat = (200 - (i + 1).toNat) + 1 by omega, andL_s, if_pos hr]
    rfl) (fun src e n s hX => by rw [hX, jo_nat])
theorem AJI.end {p i : Int} (h : AJI K V V1 x d p i) (h0 : 0 ≤ i) (he : 200 ≤ i ∨ vi V1 x 5 ≠ 0 ∨ sgC V1 x ≠ 38) (hx : K x = some (0, 4)) (hW1 : WT K V1) (h2 : LED K V1 V2 (scT V1 x) p) : CR K V V2 x (fun src e => parG src e (pieD src e d)) :=
  LPJ.end h hx hW1 h2 fun src e s1 hs => by
    show andL src e (pieD src e d) (200 - i.toNat) (jo p) s1 = _
    rcases he with q | q | q
    · rw [show 200 - i.toNat = 0 by omega]; rfl
    · exact absurd hs.2.1 q
    · cases hn : 200 - i.toNat with
      | zero => rfl
      | succ n => rw [andL_s, ← hs.sg, if_neg q]
/-- in parts() -/
abbrev OJI (K : Kmap) (V0 V : Vmap) (x d : Nat) (p i : Int) : Prop := LPJ K V0 V x (fun src e => parD src e d) (fun src e => orL src e (parG src e (pieD src e d)) (200 - i.toNat) (jo p)) p
theorem OJI.beg (h : CR K V V1 x (fun src e => parG src e (pieD src e d))) : OJI K V V1 x d (-1) 0 := LPJ.of h (fun src e s => rfl)
theorem OJI.step {p i X Z : Int} (h : OJI K V V1 x d p i) (h0 : 0 ≤ i) (hi : i < 200) (hc : sgC V1 x = 124) (hx : K x = some (0, 4)) (hW1 : WT K V1) (hW2 : WT K V2) (hW3 : WT K V3) (e1 : V2 = upd2 V1 x 3 (ti Z)) (hZ : ir (vi V1 x 3 + 1) → Z = vi V1 x 3 + 1) (rZ : ir Z) (h2 : LED K V2 V3 (scT V2 x) p) (h3 : ADD K V3 V4 (scT V2 x) 3 0 X) (h4 : CR K V4 V5 x (fun src e => parG src e (pieD src e d))) : OJI K V V5 x d X (i + 1) :=
  LPJ.step (rest1 := fun src e n s2 => orL src e (parG src e (pieD src e d)) (200 - (i + 1).toNat) (some n) s2) h hc (by decide) hx hW1 hW2 hW3 (by decide) (by decide) e1 hZ rZ h2 h3 h4 (fun src e s1 hs => by
    have hr : rdS src e s1.1 = 124 := by rw [← hs.sg]; exact hc
    show orL src e (parG src e (pieD src e d)) (200 - i.toNat) (jo p) s1 = _
    rw [show 200 - i.toNat = (200 - (i + 1).toNat) + 1 by omega, orL_s, if_pos hr]
    rfl) (fun src e n s hX => by rw [hX, jo_nat])
theorem OJI.end {p i : Int} (h : OJI K V V1 x d p i) (h0 : 0 ≤ i) (he : 200 ≤ i ∨ vi V1 x 5 ≠ 0 ∨ sgC V1 x ≠ 124) (hx : K x = some (0, 4)) (hW1 : WT K V1) (h2 : LED K V1 V2 (scT V1 x) p) : CR K V V2 x (fun src e => parD src e d) :=
  LPJ.end h hx hW1 h2 fun src e s1 hs => by
    show orL src e (parG src e (pieD src e d)) (200 - i.toNat) (jo p) s1 = _
    rcases he with q | q | q
    · rw [show 200 - i.toNat = 0 by omega]; rfl
    · exact absurd hs.2.1 q
    · cases hn : 200 - i.toNat with
      | zero => rfl
      | succ n => rw [orL_s, ← hs.sg, if_neg q]
end T4
