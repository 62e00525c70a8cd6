/-! ### new places, titles, and the carrying, on the class's side -/
section PD
variable {K K1 K2 K3 Kp : Kmap} {V V0 V1 V2 V3 V4 V5 V6 V7 W W1 Vp Vs : Vmap} {x m o q a b l : Nat} {i j n p s c d t w h z X Y Z k u : Int}
def PK (V : Vmap) (x : Nat) (k c : Int) : Prop := 0 ≤ k ∧ k < vi V x 6 ∧ pkd V x k.toNat = c
def STN (V : Vmap) (x : Nat) (k : Int) : Prop := PK V x k 1 ∧ vi V (plO V x k.toNat) 5 = 0
theorem PK.nn (h : NN 6 5 V x → k < 0 ∨ vi V x 6 ≤ k) (hn : NN 6 5 V x) : ¬ PK V x k c := fun g => by
  have h1 := h hn
  have h2 := g.1
  have h3 := g.2.1
  omega
theorem PK.nk (hq : q = plO V x k.toNat) (h : vi V q 0 ≠ c) : ¬ PK V x k c := fun g => by
  subst hq
  exact h g.2.2
theorem PK.mk (hq : q = plO V x k.toNat) (h0 : 0 ≤ k) (h1 : k < vi V x 6) (h : vi V q 0 = c) : PK V x k c := by
  subst hq
  exact ⟨h0, h1, h⟩
theorem STN.nn (h : NN 6 5 V x → ¬ PK V x k 1) (hn : NN 6 5 V x) : ¬ STN V x k := fun g => h hn g.1
theorem STN.nl (hq : q = plO V x k.toNat ∧ PK V x k 1) (h : vi V q 5 ≠ 0) : ¬ STN V x k := fun g => by
  rw [hq.1] at h
  exact h g.2
theorem STN.mk (hq : q = plO V x k.toNat ∧ PK V x k 1) (h : vi V q 5 = 0) : STN V x k := ⟨hq.2, by rw [← hq.1]; exact h⟩
/-- a place as it was just made -/
def PLN (V : Vmap) (q : Nat) (kd ow fi la ra si : Int) : Prop := vi V q 0 = kd ∧ vi V q 1 = ow ∧ vi V q 2 = fi ∧ vi V q 3 = la ∧ vi V q 4 = ra ∧ vi V q 5 = 0 ∧ vi V q 10 = si
theorem PLN.put {kd ow fi la ra si : Int} {f : Nat} {v : Value} (h : PLN V q kd ow fi la ra si) (e : V1 = upd2 V q f v) (hf : 6 ≤ f ∧ f ≤ 9) : PLN V1 q kd ow fi la ra si := by
  unfold PLN
  rw [vi_up e (Or.inr (by omega)), vi_up e (Or.inr (by omega)), vi_up e (Or.inr (by omega)), vi_up e (Or.inr (by omega)), vi_up e (Or.inr (by omega)), vi_up e (Or.inr (by omega)), vi_up e (Or.inr (by omega))]
  exact h
theorem PLN.since {kd ow fi la ra si : Int} (h : PLN V q kd ow fi la ra si) (e : V1 = upd2 V q 10 (ti d)) (rd : ir d) : PLN V1 q kd ow fi la ra d := by
  unfold PLN
  rw [vi_up e (Or.inr (by decide)), vi_up e (Or.inr (by decide)), vi_up e (Or.inr (by decide)), vi_up e (Or.inr (by decide)), vi_up e (Or.inr (by decide)), vi_up e (Or.inr (by decide))]
  exact ⟨h.1, h.2.1, h.2.2.1, h.2.2.2.1, h.2.2.2.2.1, h.2.2.2.2.2.1, upd2_int e rd⟩
theorem PLN.ow {kd fi la ra si c p : Int} (h : PLN V1 q kd c fi la ra si) (e : c = p) : PLN V1 q kd p fi la ra si := by
  rw [← e]
  exact h
theorem PLN.fr {kd ow fi la ra si : Int} {ws : Nat} (h : PLN V q kd ow fi la ra si) (hF : FR ws K V K1 V1) (hq : K q = some (0, 3)) (hq1 : K1 q = some (0, 3)) (b1 : psbits ws = true) (b2 : pvbits ws = true) : PLN V1 q kd ow fi la ra si := by
  simp only [psbits, List.all_cons, List.all_nil, Bool.and_true, Bool.and_eq_true, Bool.not_eq_true'] at b1
  simp only [pvbits, List.all_cons, List.all_nil, Bool.and_true, Bool.and_eq_true, Bool.not_eq_true'] at b2
  obtain ⟨-, -, -, d0, d1, d3, d4⟩ := b1
  obtain ⟨-, -, -, -, d2, d5, d10⟩ := b2
  unfold PLN
  rw [vi_fr hF hq hq1 d0, vi_fr hF hq hq1 d1, vi_fr hF hq hq1 d2, vi_fr hF hq hq1 d3, vi_fr hF hq hq1 d4, vi_fr hF hq hq1 d5, vi_fr hF hq hq1 d10]
  exact h
/-- something is written into a place that isn't among them yet -/
theorem SMC.new {f : Nat} {v : Value} (hE : ext K Kp) (hq : K q = none) (hW : WT K V0) (hx : K x = some (0, 10)) (hqp : Kp q = some (0, 3)) (hWp : WT Kp V) (hxp : Kp x = some (0, 10)) (g : SMC V0 V x) (e : V1 = upd2 V q f v) : SMC V0 V1 x := fun hI => by
  obtain ⟨g1, g2, g3, g4⟩ := g hI
  have ne : ∀ k : Nat, (k : Int) < vi V0 x 6 → plO V x k ≠ q := fun k hk => by
    rw [g2.plo hk]
    exact K_old (pl_at hW hx hI.1 hk).2.2 hq
  have hx5 := (hWp.ref hxp (j := 5) (Nat.le_of_ble_eq_true rfl) rfl).2
  obtain ⟨N, hN⟩ := hx5
  have nx : x ≠ q := K_ne hxp hqp (by decide)
  have na : vq V x 5 ≠ q := K_ne hN hqp (fun e => absurd (congrArg Prod.fst e) (by show ¬ (5 + 1 = 0); decide))
  have nl : vq V x 0 ≠ q := K_ne (hWp.ref hxp (j := 0) (Nat.le_of_ble_eq_true rfl) rfl).2 hqp (by decide)
  have s1 : vi V1 x 6 = vi V x 6 := vi_up e (Or.inl nx)
  have s5 : vq V1 x 5 = vq V x 5 := vq_up e (Or.inl nx)
  have se : ∀ k, V1 (vq V1 x 5) k = V (vq V x 5) k := fun k => by rw [s5]; exact uq_ne e (Or.inl na)
  have so : ∀ k, plO V1 x k = plO V x k := fun k => vq_eq2 (se k)
  have f1 : PLS V V1 x := ⟨s1, trivial, fun k hk => ⟨se k, by
    have n1 := ne k (by rw [← g2.1]; exact hk)
    unfold plT
    rw [so, vi_up e (Or.inl n1), vi_up e (Or.inl n1), vi_up e (Or.inl n1), vi_up e (Or.inl n1)]⟩⟩
  have f2 : PVS V V1 x := fun k hk => by
    have n1 := ne k (by rw [← g2.1]; exact hk)
    unfold plv
    rw [so, vi_up e (Or.inl n1), vi_up e (Or.inl n1), vi_up e (Or.inl n1), vi_up e (Or.inl n1)]
  have hl := ld_at hWp hxp
  have f3 : LDS V V1 x := by
    have e0 : (vq V1 x 0) = (vq V x 0) := vq_up e (Or.inl nx)
    unfold LDS
    rw [e0]
    refine ⟨vi_up e (Or.inl nl), vi_up e (Or.inl nl), fun s h5 h8 => ?_⟩
    have hs : s = 5 ∨ s = 6 ∨ s = 7 ∨ s = 8 := by omega
    have key : ∀ (s : Nat) {t : Nat}, Kp (vq V ((vq V x 0)) s) = some (t + 1, 144) → (rgv V1 (vq V1 ((vq V x 0)) s) 144) = (rgv V (vq V ((vq V x 0)) s) 144) := fun s t ht => by
      funext z
      unfold rgv
      rw [vq_up e (Or.inl nl), vi_up e (Or.inl (K_ne ht hqp (fun e => absurd (congrArg Prod.fst e) (by show ¬ (t + 1 = 0); omega))))]
    rcases hs with rfl | rfl | rfl | rfl
    · exact key 5 hl.2.1
    · exact key 6 hl.2.2.1
    · exact key 7 hl.2.2.2.1
    · exact key 8 hl.2.2.2.2
  exact ⟨g1.same f1 f3 (fun k hk => by rw [f2 k hk]; exact g1.2.2.1 k hk), g2.tr f1, PVS.tr g2.1 g3 f2, g4.tr f3⟩
/-! settle(), and what it makes -/
def SET (V V1 : Vmap) (x o : Nat) (X : Int) : Prop := (X = -1 ∧ 60 ≤ vi V x 6 ∧ V1 = V) ∨ (X = vi V x 6 ∧ vi V x 6 < 60 ∧ ∃ V2, V2 = upd2 V (vq V x 5) (vi V x 6).toNat (.ref o) ∧ V1 = upd2 V2 x 6 (ti (vi V x 6 + 1)))
theorem SET.no (h : 60 ≤ vi V x 6) (hX : X = -1) : SET V V x o X := Or.inl ⟨hX, h, rfl⟩
theorem SET.ok (h : vi V x 6 < 60) (e1 : V1 = upd2 V (vq V x 5) (vi V x 6).toNat (.ref o)) (e2 : V2 = upd2 V1 x 6 (ti Y)) (hY : Y = vi V x 6 + 1) (hX : X = vi V x 6) : SET V V2 x o X := by
  subst hY
  exact Or.inr ⟨hX, h, V1, e1, e2⟩
def NEWT (kd ow la ra : Int) : Int × Int × Int × Int := (kd, ow, la, if kd = 0 ∨ kd = 2 ∨ kd = 3 then ra else 0)
def NEWL (K : Kmap) (V V1 : Vmap) (x : Nat) (X : Int) (T : Int × Int × Int × Int) (v : Int × Int × Int) : Prop := PLI V x → LDS V V1 x ∧ ((X = -1 ∧ 60 ≤ vi V x 6 ∧ PLS V V1 x ∧ PVS V V1 x) ∨ (X = vi V x 6 ∧ vi V x 6 < 60 ∧ vi V1 x 6 = vi V x 6 + 1 ∧ 0 ≤ vi V x 6 ∧ (∀ k : Nat, (k : Int) < vi V x 6 → V1 (vq V1 x 5) k = V (vq V x 5) k ∧ plT V1 x k = plT V x k ∧ plv V1 x k = plv V x k) ∧ V1 (vq V1 x 5) (vi V x 6).toNat ≠ .null ∧ K (plO V1 x (vi V x 6).toNat) = none ∧ plT V1 x (vi V x 6).toNat = T ∧ plv V1 x (vi V x 6).toNat = v))
theorem NEWL.mk {kd ow fi la ra si : Int} (g : SMC V Vp x) (hq : K q = none) (hW : WT K V) (hx : K x = some (0, 10)) (hE : ext K Kp) (hqp : Kp q = some (0, 3)) (hWp : WT Kp Vp) (hxp : Kp x = some (0, 10)) (hn : PLN Vp q kd ow fi la ra si) (hs : SET Vp Vs x q X) : NEWL K V Vs x X (NEWT kd ow la ra) (fi, 0, if kd = 1 then si else 0) := fun hI => by
  obtain ⟨g1, g2, g3, g4⟩ := g hI
  rcases hs with ⟨h1, h2, h3⟩ | ⟨h1, h2, V2, e1, e2⟩
  · subst h3
    exact ⟨g4, Or.inl ⟨h1, by rw [← g2.1]; exact h2, g2, g3⟩⟩
  · have hA : Kp (vq Vp x 5) = some (5 + 1, 60) := by
      obtain ⟨N, hN⟩ := (hWp.ref hxp (j := 5) (Nat.le_of_ble_eq_true rfl) rfl).2
      rcases (hWp.len hN).2.2 with h | h
      · exact absurd h (by decide)
      · rw [hN, h]
        rfl
    have h6 := (hWp.int hxp (j := 6) (Nat.le_of_ble_eq_true rfl) rfl).2
    have nxa : x ≠ vq Vp x 5 := K_ne hxp hA (by decide)
    have nqx : q ≠ x := K_ne hqp hxp (by decide)
    have nqa : q ≠ vq Vp x 5 := K_ne hqp hA (by decide)
    have f : FR (2 ^ (abase + 6) + 2 ^ keyK (0, 10) 6) Kp Vp Kp Vs := FR.put (FR.put FR.rf hA (by show Nat.testBit (2 ^ (abase + 6) + 2 ^ keyK (0, 10) 6) (abase + 6) = true; decide +kernel) e1) hxp (by decide +kernel) e2
    have fl : LDS Vp Vs x := LDS.fr f ext.rf hWp hxp (by decide +kernel)
    have h5 : vq Vs x 5 = vq Vp x 5 := (vq_up e2 (Or.inr (by decide))).trans (vq_up e1 (Or.inl nxa))
    have hn6 : vi Vs x 6 = vi Vp x 6 + 1 := upd2_int e2 ⟨by omega, by omega⟩
    have hrow : ∀ j, j ≠ (vi Vp x 6).toNat → Vs (vq Vs x 5) j = Vp (vq Vp x 5) j := fun j hj => by
      rw [h5, uq_ne e2 (Or.inl (Ne.symm nxa)), uq_ne e1 (Or.inr hj)]
    have hnew : Vs (vq Vs x 5) (vi Vp x 6).toNat = .ref q := by
      rw [h5, uq_ne e2 (Or.inl (Ne.symm nxa)), uq_same e1]
    have hob : ∀ b, b ≠ x → b ≠ vq Vp x 5 → ∀ f, vi Vs b f = vi Vp b f := fun b n1 n2 f => (vi_up e2 (Or.inl n1)).trans (vi_up e1 (Or.inl n2))
    have hN6 := g2.1
    have e9 : (vi Vp x 6).toNat = (vi V x 6).toNat := by rw [hN6]
    have hqn : plO Vs x (vi V x 6).toNat = q := by
      rw [← e9]
      exact vq_of hnew
    refine ⟨g4.tr fl, Or.inr ⟨by omega, by omega, by omega, by omega, fun k hk => ?_, ?_, by rw [hqn]; exact hq, ?_, ?_⟩⟩
    · have hk' : k ≠ (vi Vp x 6).toNat := by omega
      have er := hrow k hk'
      have eo : plO Vs x k = plO Vp x k := vq_eq2 er
      have hkp : Kp (plO Vp x k) = some (0, 3) := (pl_at hWp hxp (g2.nn hI.1) (k := k) (by omega)).2.2
      have n1 : plO Vp x k ≠ x := K_ne hkp hxp (by decide)
      have n2 : plO Vp x k ≠ vq Vp x 5 := K_ne hkp hA (by decide)
      refine ⟨er.trans (g2.2.2 k hk).1, Eq.trans ?_ (g2.2.2 k hk).2, Eq.trans ?_ (g3 k hk)⟩
      · unfold plT
        rw [eo, hob _ n1 n2, hob _ n1 n2, hob _ n1 n2, hob _ n1 n2]
      · unfold plv
        rw [eo, hob _ n1 n2, hob _ n1 n2, hob _ n1 n2, hob _ n1 n2]
    · rw [← e9, hnew]
      exact fun e => by cases e
    · obtain ⟨a0, a1, a2, a3, a4, a5, a6⟩ := hn
      unfold plT NEWT
      rw [hqn, hob _ nqx nqa, hob _ nqx nqa, hob _ nqx nqa, hob _ nqx nqa, a0, a1, a3, a4]
    · obtain ⟨a0, a1, a2, a3, a4, a5, a6⟩ := hn
      unfold plv
      rw [hqn, hob _ nqx nqa, hob _ nqx nqa, hob _ nqx nqa, hob _ nqx nqa, a0, a2, a5, a6]
theorem NEWL.fr {ws : Nat} {T : Int × Int × Int × Int} {v : Int × Int × Int} (h : NEWL K V V1 x X T v) (hF : FR ws K1 V1 K2 V2) (hE : ext K1 K2) (hW : WT K1 V1) (hx : K1 x = some (0, 10)) (b1 : psbits ws = true) (b2 : pvbits ws = true) (b3 : ldbits ws = true) : NEWL K V V2 x X T v := fun hI => by
  obtain ⟨g1, g2⟩ := h hI
  refine ⟨g1.tr (LDS.fr hF hE hW hx b3), ?_⟩
  rcases g2 with ⟨a1, a2, a3, a4⟩ | ⟨a1, a2, a3, a4, a5, a6, a7, a8, a9⟩
  · have f := PLS.fr hF hE hW hx (a3.nn hI.1) b1
    exact Or.inl ⟨a1, a2, a3.tr f, PVS.tr a3.1 a4 (PVS.fr hF hE hW hx (a3.nn hI.1) b2)⟩
  · have hN : NN 6 5 V1 x := fun j hj => by
      by_cases q : (j : Int) < vi V x 6
      · rw [(a5 j q).1]
        exact hI.1 j q
      · rw [show j = (vi V x 6).toNat by omega]
        exact a6
    have f := PLS.fr hF hE hW hx hN b1
    have f2 := PVS.fr hF hE hW hx hN b2
    have hn : (((vi V x 6).toNat : Nat) : Int) < vi V1 x 6 := by
      have := (hW.int hx (j := 6) (Nat.le_of_ble_eq_true rfl) rfl).2
      omega
    refine Or.inr ⟨a1, a2, by rw [f.1]; exact a3, a4, fun k hk => ?_, ?_, ?_, ?_, ?_⟩
    · have hk1 : (k : Int) < vi V1 x 6 := by omega
      obtain ⟨c1, c2, c3⟩ := a5 k hk
      exact ⟨(f.2.2 k hk1).1.trans c1, (f.2.2 k hk1).2.trans c2, (f2 k hk1).trans c3⟩
    · rw [(f.2.2 _ hn).1]
      exact a6
    · rw [f.plo hn]
      exact a7
    · rw [(f.2.2 _ hn).2]
      exact a8
    · rw [f2 _ hn]
      exact a9
/-! claim(), title(): whether claims are asleep -/
def ASL (K : Kmap) (V : Vmap) (x : Nat) (p : Int) : Prop := ∃ L Z, CTS K V x L ∧ NUMS L (CNF L (yrw V x p.toNat) (tdy V x)) 122 0 0 L.length Z ∧ Z ≠ -1
theorem ASL.yes (hC : CWI K V x) (h : ∀ L, CTS K V x L → ∃ Z, NUMS L (CNF L (yrw V x p.toNat) (tdy V x)) 122 0 0 L.length Z ∧ (X ≠ 0 ↔ Z ≠ -1)) : X ≠ 0 ↔ ASL K V x p := by
  obtain ⟨-, L, h1, -⟩ := hC
  obtain ⟨Z, h2, h3⟩ := h L h1
  constructor
  · exact fun q => ⟨L, Z, h1, h2, h3.mp q⟩
  · rintro ⟨L', Z', c1, c2, c3⟩
    have e := c1.uniq h1
    subst e
    rw [c2.uniq h2] at c3
    exact h3.mpr c3
def CLD (np w h p a b t : Int) : Prop := 0 ≤ p ∧ p < np ∧ ((0 ≤ a ∧ a < w * h) ∧ (0 ≤ b ∧ b < w * h) ∧ a / w ≤ b / w ∧ a % w ≤ b % w) ∧ 0 ≤ t ∧ t ≤ 999
def CLM (K : Kmap) (V V1 : Vmap) (x : Nat) (p a b t X : Int) : Prop := (X = -1 ∧ (¬ CLD (vi V x 4) ((vi V (vq V x 0) 3)) ((vi V (vq V x 0) 4)) p a b t ∨ ASL K V x p) ∧ SMC V V1 x) ∨ (CLD (vi V x 4) ((vi V (vq V x 0) 3)) ((vi V (vq V x 0) 4)) p a b t ∧ ¬ ASL K V x p ∧ NEWL K V V1 x X (NEWT 0 p b t) (a, 0, 0))
theorem CLM.no {a b : Int} (h : ¬ CLD (vi V x 4) ((vi V (vq V x 0) 3)) ((vi V (vq V x 0) 4)) p a b t) (hX : X = -1) : CLM K V V x p a b t X := Or.inl ⟨hX, Or.inl h, SMC.rf⟩
theorem CLM.as {a b : Int} (hX : X = -1) (hY : Y ≠ 0) (h : Y ≠ 0 ↔ ASL K V x p) (g : SMC V V1 x) : CLM K V V1 x p a b t X := Or.inl ⟨hX, Or.inr (h.mp hY), g⟩
theorem CLM.ok {a b : Int} (h : CLD (vi V x 4) ((vi V (vq V x 0) 3)) ((vi V (vq V x 0) 4)) p a b t) (hY : Y = 0) (h1 : Y ≠ 0 ↔ ASL K V x p) (g : NEWL K V V1 x X (NEWT 0 p b t) (a, 0, if (0 : Int) = 1 then s else 0)) : CLM K V V1 x p a b t X := Or.inr ⟨h, fun q => absurd hY (h1.mpr q), g⟩
/-- the claims' parties are there -/
def OWC (V : Vmap) (x : Nat) : Prop := ∀ k : Nat, (k : Int) < vi V x 6 → pkd V x k = 0 → 0 ≤ (plT V x k).2.1 ∧ (plT V x k).2.1 < vi V x 4
def TID (V : Vmap) (x : Nat) (k n : Int) : Prop := PK V x k 0 ∧ 0 ≤ n ∧ n ≤ 999
def TIA (K : Kmap) (V : Vmap) (x : Nat) (k n : Int) : Prop := (plT V x k.toNat).2.2.2 < n ∧ ASL K V x (plT V x k.toNat).2.1
def TIC (K : Kmap) (V V1 : Vmap) (x : Nat) (k n X : Int) : Prop := PLI V x → OWC V x → (X = 0 ∧ (¬ TID V x k n ∨ TIA K V x k n) ∧ SMC V V1 x) ∨ (X = 1 ∧ TID V x k n ∧ ¬ TIA K V x k n ∧ LDS V V1 x ∧ PVS V V1 x ∧ vi V1 x 6 = vi V x 6 ∧ True ∧ ∀ j : Nat, (j : Int) < vi V x 6 → V1 (vq V1 x 5) j = V (vq V x 5) j ∧ plT V1 x j = if j = k.toNat then (0, (plT V x j).2.1, (plT V x j).2.2.1, n) else plT V x j)
theorem TIC.nt (h : NN 6 5 V x → ¬ PK V x k 0) (hX : X = 0) : TIC K V V x k n X := fun hI _ => Or.inl ⟨hX, Or.inl (fun g => h hI.1 g.1), SMC.rf⟩
theorem TIC.nn (h : n < 0 ∨ 999 < n) (hX : X = 0) : TIC K V V x k n X := fun _ _ => Or.inl ⟨hX, Or.inl (fun g => by have := g.2; omega), SMC.rf⟩
theorem plT_cl {k : Nat} (h : pkd V x k = 0) : plT V x k = (0, vi V (plO V x k) 1, vi V (plO V x k) 3, vi V (plO V x k) 4) := by
  unfold pkd at h
  unfold plT
  rw [h, if_pos (Or.inl rfl)]
theorem TIC.as (hq : o = plO V x k.toNat ∧ PK V x k 0) (hr : vi V o 4 < n) (hX : X = 0) (hY : Y ≠ 0) (h : Y ≠ 0 ↔ ASL K V x (vi V o 1)) (g : SMC V V1 x) : TIC K V V1 x k n X := fun _ _ => Or.inl ⟨hX, Or.inr (by
  unfold TIA
  rw [plT_cl hq.2.2.2, ← hq.1]
  exact ⟨hr, h.mp hY⟩), g⟩
theorem TIC.set (g : SMC V Vp x) (hW : WT K V) (hx : K x = some (0, 10)) (hWp : WT K Vp) (hq : o = plO V x k.toNat ∧ PK V x k 0) (hn : 0 ≤ n ∧ n ≤ 999) (e : V1 = upd2 Vp o 4 (ti n)) (hX : X = 1) (hno : ¬ (vi V o 4 < n ∧ ASL K V x (vi V o 1))) : TIC K V V1 x k n X := fun hI _ => by
  obtain ⟨g1, g2, g3, g4⟩ := g hI
  obtain ⟨ho, h0, h1, h2⟩ := hq
  have hk : ((k.toNat : Nat) : Int) < vi V x 6 := by omega
  have hoK : K o = some (0, 3) := by rw [ho]; exact (pl_at hW hx hI.1 hk).2.2
  have hop : o = plO Vp x k.toNat := by rw [g2.plo hk]; exact ho
  have f : FR (2 ^ keyK (0, 3) 4) K Vp K V1 := FR.put FR.rf hoK (by decide +kernel) e
  have f1 : LDS Vp V1 x := LDS.fr f ext.rf hWp hx (by decide +kernel)
  have f2 : PVS Vp V1 x := PVS.fr f ext.rf hWp hx g1.1 (by decide +kernel)
  have nx : x ≠ o := K_ne hx hoK (by decide)
  have hpl : ∀ j : Nat, (j : Int) < vi V x 6 → V1 (vq V1 x 5) j = Vp (vq Vp x 5) j ∧ plO V1 x j = plO Vp x j := fun j hj => by
    have h9 := plo_fr f ext.rf hWp hx g1.1 (by decide +kernel) (by decide +kernel) (k := j) (by rw [g2.1]; exact hj)
    exact ⟨h9.1, h9.2.1⟩
  refine Or.inr ⟨hX, ⟨⟨h0, h1, h2⟩, hn⟩, ?_, g4.tr f1, PVS.tr g2.1 g3 f2, (vi_up e (Or.inl nx)).trans g2.1, trivial, fun j hj => ?_⟩
  · unfold TIA
    rw [plT_cl h2, ← ho]
    exact hno
  · obtain ⟨e1, e2⟩ := hpl j hj
    refine ⟨e1.trans (g2.2.2 j hj).1, ?_⟩
    have h3 := (g2.2.2 j hj).2
    by_cases q : j = k.toNat
    · subst q
      rw [if_pos rfl]
      have hk0 : pkd Vp x k.toNat = 0 := (g2.kd hj).trans h2
      have c1 := plT_cl hk0
      have c2 := plT_cl h2
      rw [c1, c2] at h3
      have hk1 : pkd V1 x k.toNat = 0 := by
        unfold pkd
        rw [e2, ← hop, vi_up e (Or.inr (by decide)), hop]
        exact hk0
      rw [plT_cl hk1, e2, ← hop, vi_up e (Or.inr (by decide)), vi_up e (Or.inr (by decide)), upd2_int e ⟨by omega, by omega⟩, c2]
      have h31 := congrArg (fun r => r.2.1) h3
      have h32 := congrArg (fun r => r.2.2.1) h3
      simp only at h31 h32
      rw [← h31, ← h32, ← hop]
    · rw [if_neg q, ← h3]
      have nj : plO Vp x j ≠ o := by
        rw [hop]
        exact g1.ne (by rw [g2.1]; exact hj) (by rw [g2.1]; exact hk) q
      unfold plT
      rw [e2, vi_up e (Or.inl nj), vi_up e (Or.inl nj), vi_up e (Or.inl nj), vi_up e (Or.inl nj)]
theorem TIC.np (g : SMC V Vp x) (hW : WT K V) (hx : K x = some (0, 10)) (hWp : WT K Vp) (hq : o = plO V x k.toNat ∧ PK V x k 0) (hn : 0 ≤ n ∧ n ≤ 999) (e : V1 = upd2 Vp o 4 (ti n)) (hX : X = 1) (hnp : PN V x → vi V o 1 < 0 ∨ vi V x 4 ≤ vi V o 1) (hN : PN V x) : TIC K V V1 x k n X := fun hI hO => by
  have h1 := hq.2.1
  have h2 := hq.2.2.1
  have ho := hO k.toNat (by omega) hq.2.2.2
  have e1 : (plT V x k.toNat).2.1 = vi V o 1 := by rw [hq.1]; rfl
  rw [e1] at ho
  have h9 := hnp hN
  omega
/-! the others -/
def STD (np w h : Int) (G : Int → Int) (p c a b : Int) : Prop := 0 ≤ p ∧ p < np ∧ (0 ≤ c ∧ c < w * h) ∧ (G c = 0 ∨ G c = 1) ∧ 0 ≤ a ∧ a ≤ 500 ∧ 0 ≤ b ∧ b ≤ 100000
def STC (K : Kmap) (V V1 : Vmap) (x : Nat) (p c a b X : Int) : Prop := (X = -1 ∧ ¬ STD (vi V x 4) ((vi V (vq V x 0) 3)) ((vi V (vq V x 0) 4)) ((rgv V (vq V ((vq V x 0)) 6) 144)) p c a b ∧ V1 = V) ∨ (STD (vi V x 4) ((vi V (vq V x 0) 3)) ((vi V (vq V x 0) 4)) ((rgv V (vq V ((vq V x 0)) 6) 144)) p c a b ∧ NEWL K V V1 x X (NEWT 1 p (-1) (-1)) (c, 0, tdy V x))
def FLD (V : Vmap) (x : Nat) (k c : Int) : Prop := STN V x k ∧ (0 ≤ c ∧ c < ((vi V (vq V x 0) 3)) * ((vi V (vq V x 0) 4))) ∧ (((rgv V (vq V ((vq V x 0)) 6) 144)) c = 0 ∨ ((rgv V (vq V ((vq V x 0)) 6) 144)) c = 1)
def FLC (K : Kmap) (V V1 : Vmap) (x : Nat) (k c X : Int) : Prop := PLI V x → (X = -1 ∧ ¬ FLD V x k c ∧ V1 = V) ∨ (FLD V x k c ∧ NEWL K V V1 x X (NEWT 2 (plT V x k.toNat).2.1 (-1) k) (c, 0, 0))
def RVD (w h a b r : Int) : Prop := ((0 ≤ a ∧ a < w * h) ∧ (0 ≤ b ∧ b < w * h) ∧ a / w ≤ b / w ∧ a % w ≤ b % w) ∧ 1 ≤ r ∧ r ≤ 9
def RVC (K : Kmap) (V V1 : Vmap) (x : Nat) (a b r X : Int) : Prop := (X = -1 ∧ ¬ RVD ((vi V (vq V x 0) 3)) ((vi V (vq V x 0) 4)) a b r ∧ V1 = V) ∨ (RVD ((vi V (vq V x 0) 3)) ((vi V (vq V x 0) 4)) a b r ∧ NEWL K V V1 x X (NEWT 3 (-1) b r) (a, 0, 0))
def SIC (K : Kmap) (V V1 : Vmap) (x : Nat) (c b X : Int) : Prop := (X = -1 ∧ ¬ (0 ≤ c ∧ c < ((vi V (vq V x 0) 3)) * ((vi V (vq V x 0) 4))) ∧ V1 = V) ∨ ((0 ≤ c ∧ c < ((vi V (vq V x 0) 3)) * ((vi V (vq V x 0) 4))) ∧ NEWL K V V1 x X (NEWT (if b ≠ 0 then 5 else 4) (-1) (-1) (-1)) (c, 0, 0))
theorem STC.no {a b : Int} (h : ¬ STD (vi V x 4) ((vi V (vq V x 0) 3)) ((vi V (vq V x 0) 4)) ((rgv V (vq V ((vq V x 0)) 6) 144)) p c a b) (hX : X = -1) : STC K V V x p c a b X := Or.inl ⟨hX, h, rfl⟩
theorem STC.ok {a b : Int} (h : STD (vi V x 4) ((vi V (vq V x 0) 3)) ((vi V (vq V x 0) 4)) ((rgv V (vq V ((vq V x 0)) 6) 144)) p c a b) (hd : s = tdy V x) (g : NEWL K V V1 x X (NEWT 1 p (-1) (-1)) (c, 0, if (1 : Int) = 1 then s else 0)) : STC K V V1 x p c a b X := Or.inr ⟨h, by rw [if_pos rfl, hd] at g; exact g⟩
theorem FLC.nt (h : NN 6 5 V x → ¬ STN V x k) (hX : X = -1) : FLC K V V x k c X := fun hI => Or.inl ⟨hX, fun g => h hI.1 g.1, rfl⟩
theorem FLC.nf (g : Y ≠ 0 ↔ (0 ≤ c ∧ c < ((vi V (vq V x 0) 3)) * ((vi V (vq V x 0) 4))) ∧ (((rgv V (vq V ((vq V x 0)) 6) 144)) c = 0 ∨ ((rgv V (vq V ((vq V x 0)) 6) 144)) c = 1)) (hY : Y = 0) (hX : X = -1) : FLC K V V x k c X := fun _ => Or.inl ⟨hX, fun q => absurd hY (g.mpr q.2), rfl⟩
theorem FLC.ok (hq : o = plO V x k.toNat ∧ STN V x k) (g : Y ≠ 0 ↔ (0 ≤ c ∧ c < ((vi V (vq V x 0) 3)) * ((vi V (vq V x 0) 4))) ∧ (((rgv V (vq V ((vq V x 0)) 6) 144)) c = 0 ∨ ((rgv V (vq V ((vq V x 0)) 6) 144)) c = 1)) (hY : Y ≠ 0) (h : NEWL K V V1 x X (NEWT 2 (vi V o 1) (-1) k) (c, 0, if (2 : Int) = 1 then s else 0)) : FLC K V V1 x k c X := fun _ => Or.inr ⟨⟨hq.2, g.mp hY⟩, by
  have e : (plT V x k.toNat).2.1 = vi V o 1 := by rw [hq.1]; rfl
  rw [e]
  exact h⟩
theorem RVC.no {a b : Int} (h : ¬ RVD ((vi V (vq V x 0) 3)) ((vi V (vq V x 0) 4)) a b p) (hX : X = -1) : RVC K V V x a b p X := Or.inl ⟨hX, h, rfl⟩
theorem RVC.ok {a b : Int} (h : RVD ((vi V (vq V x 0) 3)) ((vi V (vq V x 0) 4)) a b p) (g : NEWL K V V1 x X (NEWT 3 (-1) b p) (a, 0, if (3 : Int) = 1 then s else 0)) : RVC K V V1 x a b p X := Or.inr ⟨h, g⟩
theorem SIC.no {b : Int} (g : Y ≠ 0 ↔ (0 ≤ c ∧ c < ((vi V (vq V x 0) 3)) * ((vi V (vq V x 0) 4)))) (hY : Y = 0) (hX : X = -1) : SIC K V V x c b X := Or.inl ⟨hX, fun q => absurd hY (g.mpr q), rfl⟩
theorem SIC.ok {b kd : Int} (g : Y ≠ 0 ↔ (0 ≤ c ∧ c < ((vi V (vq V x 0) 3)) * ((vi V (vq V x 0) 4)))) (hY : Y ≠ 0) (hk : (b ≠ 0 ∧ kd = 5) ∨ (b = 0 ∧ kd = 4)) (h : NEWL K V V1 x X (NEWT kd (-1) (-1) (-1)) (c, 0, if kd = 1 then s else 0)) : SIC K V V1 x c b X := Or.inr ⟨g.mp hY, by
  rcases hk with ⟨h1, h2⟩ | ⟨h1, h2⟩
  · subst h2
    rw [if_pos h1]
    exact h
  · subst h2
    rw [if_neg (fun q => q h1)]
    exact h⟩
end PD
