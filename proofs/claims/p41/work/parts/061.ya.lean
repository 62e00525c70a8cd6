/-! ### days of yes, on both sides -/
section YA
variable {K K1 K2 Kn Ki : Kmap} {V V0 V1 V2 V3 Va Vn Vi : Vmap} {x o m q a : Nat} {c i p d n X Y Z z : Int}
/-- a row is filled, and nothing else is changed -/
def FLL (V V1 : Vmap) (a n : Nat) (c : Int) : Prop := (∀ j : Nat, j < n → vi V1 a j = c) ∧ ∀ b, b ≠ a → V1 b = V b
def FLI (V V1 : Vmap) (a : Nat) (c i : Int) : Prop := (∀ j : Nat, (j : Int) < i → vi V1 a j = c) ∧ ∀ b, b ≠ a → V1 b = V b
theorem FLI.beg : FLI V V a c 0 := ⟨fun j hj => by omega, fun _ _ => rfl⟩
theorem FLI.step (h : FLI V V1 a c i) (e : V2 = upd2 V1 a i.toNat (ti c)) (rc : ir c) (h0 : 0 ≤ i) (hn : n = i + 1) : FLI V V2 a c n := ⟨fun j hj => by
  by_cases q : j = i.toNat
  · subst q
    exact upd2_int e rc
  · rw [vi_up e (Or.inr q)]
    exact h.1 j (by omega), fun b hb => by
  rw [← h.2 b hb]
  exact funext fun j => uq_ne e (Or.inl hb)⟩
theorem FLI.end {N : Nat} (h : FLI V V1 a c i) (hi : (N : Int) ≤ i) : FLL V V1 a N c := ⟨fun j hj => h.1 j (by omega), h.2⟩
/-- what was there before a new party stays -/
def OLDP (K : Kmap) (V V1 : Vmap) (x : Nat) : Prop := ∀ b kd, K b = some kd → b ≠ x → V1 b = V b
def NYR (K : Kmap) (V : Vmap) (x : Nat) : Prop := K (vq V x 3) = none ∧ ∀ j : Nat, j < 20 → vi V (vq V x 3) j = -1
theorem OLDP.mk {K6 : Kmap} {W1 W2 W3 W4 W5 W6 W7 W8 : Vmap} {j1 j2 j3 j4 j5 q1 q2 N : Nat} {v1 v2 v3 v4 v5 : Value} {kq : Nat × Nat} {c : Int} (e1 : W1 = upd2 V x j1 v1) (e2 : W2 = upd2 W1 x j2 v2) (hq1 : K q1 = none) (hK1 : K6 = updK K q1 kq) (hV1 : ∀ b, b ≠ q1 → W3 b = W2 b) (e3 : W4 = upd2 W3 x j3 v3) (hq2 : K6 q2 = none) (hV2 : ∀ b, b ≠ q2 → W5 b = W4 b) (e4 : W6 = upd2 W5 x j4 v4) (e5 : W7 = upd2 W6 x j5 v5) (f : FLL W7 W8 q1 N c) : OLDP K V W8 x := fun b kd hb hx => by
  have b1 : b ≠ q1 := K_old hb hq1
  have b2 : b ≠ q2 := fun e => by
    subst e
    rw [hK1, updK_ne b1, hb] at hq2
    cases hq2
  have u : ∀ {A B : Vmap} {j : Nat} {v : Value}, B = upd2 A x j v → B b = A b := fun e => funext fun j => uq_ne e (Or.inl hx)
  rw [f.2 b b1, u e5, u e4, hV2 b b2, u e3, hV1 b b1, u e2, u e1]
theorem NYR.mk {W1 : Vmap} {N : Nat} (f3 : V x 3 = .ref q) (hq : K q = none) (f : FLL W1 V q N (-1)) (hN : 20 ≤ N) : NYR K V x := by
  have e : vq V x 3 = q := vq_of f3
  exact ⟨by rw [e]; exact hq, fun j hj => by rw [e]; exact f.1 j (by omega)⟩
/-- party() -/
def NEWY (K : Kmap) (V V1 : Vmap) (x : Nat) (X : Int) : Prop := (X = -1 ∧ V1 = V) ∨ (0 ≤ vi V x 4 ∧ vi V x 4 < 9 ∧ vi V1 x 4 = vi V x 4 + 1 ∧ vq V1 x 3 = vq V x 3 ∧ (∀ b kd, K b = some kd → kd ≠ (0, 10) → kd ≠ (4 + 1, 9) → V1 b = V b) ∧ (∀ j : Nat, (j : Int) < vi V x 4 → V1 (vq V x 3) j = V (vq V x 3) j) ∧ K (pty V1 x (vi V x 4).toNat) = none ∧ NYR K V1 (pty V1 x (vi V x 4).toNat))
theorem NEWY.no : NEWY K V V x (-1) := Or.inl ⟨rfl, rfl⟩
theorem NEWY.mk {ci : Nat} {cc : Nat} {Y : Int} (hx : K x = some (0, 10)) (hW : WT K V) (hq : K q = none) (hKn : Kn = updK K q (0, ci)) (hV : ∀ b, b ≠ q → Vn b = V b) (ho : OLDP Kn Vn Vi q) (hy : NYR Kn Vi q) (e3 : Va = upd2 Vi (vq V x 3) cc (.ref q)) (e4 : V1 = upd2 Va x 4 (ti Y)) (hc : (cc : Int) = vi V x 4) (hY : Y = vi V x 4 + 1) (rY : ir Y) (h9 : vi V x 4 < 9) : NEWY K V V1 x X := by
  have ha : K (vq V x 3) = some (4 + 1, 9) := by
    obtain ⟨n, hn⟩ := (hW.ref hx (j := 3) (Nat.le_of_ble_eq_true rfl) rfl).2
    have e : n = 9 := by
      rcases (hW.len hn).2.2 with h | h
      · exact absurd h (by decide)
      · exact h
    rw [hn, e]
  have old : ∀ b kd, K b = some kd → Vi b = V b := fun b kd hb => by
    have bq := K_old hb hq
    rw [ho b kd (by rw [hKn, updK_ne bq]; exact hb) bq, hV b bq]
  have hxq := K_old hx hq
  have haq := K_old ha hq
  have hxa : x ≠ vq V x 3 := K_ne hx ha (by decide)
  have h3 : vq V1 x 3 = vq V x 3 := by
    rw [vq_up e4 (Or.inr (by decide)), vq_up e3 (Or.inl hxa)]
    exact vq_eq (congrFun (old x _ hx) 3)
  have hn : pty V1 x (vi V x 4).toNat = q := by
    unfold pty
    rw [h3, show (vi V x 4).toNat = cc by omega]
    exact vq_of ((uq_ne e4 (Or.inl (Ne.symm hxa))).trans (uq_same e3))
  have hq1 : V1 q = Vi q := by
    funext j
    rw [uq_ne e4 (Or.inl (Ne.symm hxq)), uq_ne e3 (Or.inl (Ne.symm haq))]
  have hq3 : vq V1 q 3 = vq Vi q 3 := vq_eq (congrFun hq1 3)
  have hKq : ∀ b, Kn b = none → K b = none := fun b hb => by
    by_cases e : b = q
    · rw [e]; exact hq
    · rw [hKn, updK_ne e] at hb
      exact hb
  refine Or.inr ⟨by omega, h9, by rw [upd2_int e4 rY, hY], h3, fun b kd hb n1 n2 => ?_, fun j hj => ?_, by rw [hn]; exact hq, by rw [hn, hq3]; exact hKq _ hy.1, fun j hj => ?_⟩
  · rw [← old b kd hb]
    funext j
    rw [uq_ne e4 (Or.inl (fun e => by subst e; rw [hx] at hb; cases hb; exact n1 rfl)), uq_ne e3 (Or.inl (fun e => by subst e; rw [ha] at hb; cases hb; exact n2 rfl))]
  · rw [uq_ne e4 (Or.inl (Ne.symm hxa)), uq_ne e3 (Or.inr (by omega)), old _ _ ha]
  · rw [hn, hq3]
    have h1 := hy.2 j hj
    have n1 : vq Vi q 3 ≠ x := fun e => by have := hKq _ hy.1; rw [e, hx] at this; cases this
    have n2 : vq Vi q 3 ≠ vq V x 3 := fun e => by have := hKq _ hy.1; rw [e, ha] at this; cases this
    rw [vi_up e4 (Or.inl n1), vi_up e3 (Or.inl n2)]
    exact h1
/-- a party's row of yes -/
def yrA (V : Vmap) (x p : Nat) : Nat := vq V (pty V x p) 3
def yrw (V : Vmap) (x p i : Nat) : Int := vi V (yrA V x p) i
def yrm (V : Vmap) (m p i : Nat) : Int := vi V (vq V m 59) (20 * p + i)
theorem yr_at (hW : WT K V) (hx : K x = some (0, 10)) (hN : PN V x) {p : Nat} (hp : (p : Int) < vi V x 4) : K (vq V x 3) = some (4 + 1, 9) ∧ V (vq V x 3) p = .ref (pty V x p) ∧ K (pty V x p) = some (0, 2) ∧ K (yrA V x p) = some (123 + 1, 20) := by
  obtain ⟨h1, h2, h3, -⟩ := pty_at hW hx hN hp
  obtain ⟨k, hk⟩ := (hW.ref h3 (j := 3) (Nat.le_of_ble_eq_true rfl) rfl).2
  have e : k = 20 := by
    rcases (hW.len hk).2.2 with h | h
    · exact absurd h (by decide)
    · exact h
  subst e
  exact ⟨h1, h2, h3, hk⟩
def YRL (V : Vmap) (x m : Nat) : Prop := (∀ p r : Nat, p < r → (r : Int) < vi V x 4 → yrA V x p ≠ yrA V x r) ∧ ∀ p i : Nat, p < 9 → i < 20 → ((p : Int) < vi V x 4 → ((i : Int) < vi V m 47 → yrw V x p i = yrm V m p i) ∧ (vi V m 47 ≤ (i : Int) → yrw V x p i = -1)) ∧ (vi V x 4 ≤ (p : Int) → (i : Int) < vi V m 47 → yrm V m p i = -1)
theorem YRL.nil (h4 : vi V x 4 = 0) (h47 : vi V m 47 = 0) : YRL V x m := ⟨fun p r _ hr => by omega, fun p i _ _ => ⟨fun h => by omega, fun _ h => by omega⟩⟩
/-- the class's side stays -/
def YCS (V V1 : Vmap) (x : Nat) : Prop := vi V1 x 4 = vi V x 4 ∧ ∀ p : Nat, (p : Int) < vi V x 4 → pty V1 x p = pty V x p ∧ yrA V1 x p = yrA V x p ∧ ∀ i, yrw V1 x p i = yrw V x p i
def YMS (V V1 : Vmap) (m : Nat) : Prop := vi V1 m 47 = vi V m 47 ∧ ∀ p i, yrm V1 m p i = yrm V m p i
theorem YRL.same (h : YRL V x m) (g : YCS V V1 x) (g1 : YMS V V1 m) : YRL V1 x m := by
  obtain ⟨h1, h2⟩ := h
  obtain ⟨a1, a2⟩ := g
  obtain ⟨b1, b2⟩ := g1
  refine ⟨fun p r hpr hr => ?_, fun p i hp hi => ?_⟩
  · rw [a1] at hr
    rw [(a2 p (by omega)).2.1, (a2 r hr).2.1]
    exact h1 p r hpr hr
  · obtain ⟨c1, c2⟩ := h2 p i hp hi
    rw [a1, b1, b2]
    refine ⟨fun q => ?_, c2⟩
    rw [(a2 p q).2.2 i]
    exact c1 q
def ycbits (ws : Nat) : Bool := [keyK (0, 10) 4, keyK (0, 10) 3, abase + 5, keyK (0, 2) 3, abase + 124].all fun b => !ws.testBit b
def ymbits (ws : Nat) : Bool := [keyK (0, 11) 47, keyK (0, 11) 59, abase + 51].all fun b => !ws.testBit b
theorem YCS.fr {ws : Nat} (hF : FR ws K V K1 V1) (hE : ext K K1) (hW : WT K V) (hx : K x = some (0, 10)) (hN : PN V x) (hb : ycbits ws = true) : YCS V V1 x := by
  simp only [ycbits, List.all_cons, List.all_nil, Bool.and_true, Bool.and_eq_true, Bool.not_eq_true'] at hb
  obtain ⟨b1, b2, b3, b4, b5⟩ := hb
  have hx1 := hE.obj (Or.inl (by decide)) hx
  have h3 : vq V1 x 3 = vq V x 3 := vq_eq (hF x _ 3 hx hx1 b2)
  refine ⟨vi_fr hF hx hx1 b1, fun p hp => ?_⟩
  obtain ⟨ha, hr, hk, hw⟩ := yr_at hW hx hN hp
  have hk1 := hE.obj (Or.inl (by decide)) hk
  have e1 : pty V1 x p = pty V x p := by
    unfold pty
    rw [h3]
    exact vq_eq (hF _ _ p ha (hE.arr ha) b3)
  have e2 : yrA V1 x p = yrA V x p := by
    unfold yrA
    rw [e1]
    exact vq_eq (hF _ _ 3 hk hk1 b4)
  refine ⟨e1, e2, fun i => ?_⟩
  unfold yrw
  rw [e2]
  exact vi_frA hF hw (hE.arr hw) b5
theorem YMS.fr {ws : Nat} (hF : FR ws K V K1 V1) (hE : ext K K1) (hW : WT K V) (hm : K m = some (0, 11)) (hb : ymbits ws = true) : YMS V V1 m := by
  simp only [ymbits, List.all_cons, List.all_nil, Bool.and_true, Bool.and_eq_true, Bool.not_eq_true'] at hb
  obtain ⟨b1, b2, b3⟩ := hb
  have hm1 := hE.obj (Or.inl (by decide)) hm
  obtain ⟨k, hk⟩ := (hW.ref hm (j := 59) (Nat.le_of_ble_eq_true rfl) rfl).2
  have e : vq V1 m 59 = vq V m 59 := vq_eq (hF _ _ 59 hm hm1 b2)
  refine ⟨vi_fr hF hm hm1 b1, fun p i => ?_⟩
  unfold yrm
  rw [e]
  exact vi_frA hF hk (hE.arr hk) b3
theorem YRL.frx {ws : Nat} (h : YRL V x m) (hF : FR ws K V K1 V1) (hE : ext K K1) (hW : WT K V) (hx : K x = some (0, 10)) (hm : K m = some (0, 11)) (hN : PN V x) (b1 : ycbits ws = true) (b2 : ymbits ws = true) : YRL V1 x m := h.same (YCS.fr hF hE hW hx hN b1) (YMS.fr hF hE hW hm b2)
theorem YRL.party {ws : Nat} (h : YRL V x m) (hn : NEWY K V V1 x X) (hF : FR ws K V K1 V1) (hE : ext K K1) (hW : WT K V) (hx : K x = some (0, 10)) (hm : K m = some (0, 11)) (hN : PN V x) (b2 : ymbits ws = true) : YRL V1 x m := by
  have g1 : YMS V V1 m := YMS.fr hF hE hW hm b2
  rcases hn with ⟨-, e⟩ | ⟨h0, h9, h4, h3, hold, hrow, hpn, hyn, hym⟩
  · subst e; exact h
  · have hp : ∀ p : Nat, (p : Int) < vi V x 4 → pty V1 x p = pty V x p ∧ yrA V1 x p = yrA V x p ∧ ∀ i, yrw V1 x p i = yrw V x p i := fun p hp => by
      obtain ⟨ha, hr, hk, hw⟩ := yr_at hW hx hN hp
      have e1 : pty V1 x p = pty V x p := by
        unfold pty
        rw [h3]
        exact vq_eq (hrow p hp)
      have e2 : yrA V1 x p = yrA V x p := by
        unfold yrA
        rw [e1]
        exact vq_eq (congrFun (hold _ _ hk (by decide) (by decide)) 3)
      refine ⟨e1, e2, fun i => ?_⟩
      unfold yrw
      rw [e2]
      exact vi_eq (congrFun (hold _ _ hw (by decide) (by decide)) i)
    obtain ⟨k1, k2⟩ := h
    refine ⟨fun p r hpr hr => ?_, fun p i hp9 hi => ?_⟩
    · rw [h4] at hr
      by_cases q : (r : Int) < vi V x 4
      · rw [(hp p (by omega)).2.1, (hp r q).2.1]
        exact k1 p r hpr q
      · have e : r = (vi V x 4).toNat := by omega
        subst e
        rw [(hp p (by omega)).2.1]
        intro e
        have hw := (yr_at hW hx hN (p := p) (by omega)).2.2.2
        have hyn' : K (yrA V1 x (vi V x 4).toNat) = none := hyn
        rw [← e, hw] at hyn'
        cases hyn'
    · obtain ⟨c1, c2⟩ := k2 p i hp9 hi
      rw [h4, g1.1, g1.2]
      refine ⟨fun q => ?_, fun q => c2 (by omega)⟩
      by_cases q1 : (p : Int) < vi V x 4
      · rw [(hp p q1).2.2 i]
        exact c1 q1
      · have e : p = (vi V x 4).toNat := by omega
        have e9 : yrw V1 x p i = -1 := by rw [e]; exact hym i hi
        rw [e9]
        exact ⟨fun hi2 => (c2 (by omega) hi2).symm, fun _ => rfl⟩
/-! text(), as the reference tells the days of yes -/
def YTX (V V1 : Vmap) (m : Nat) : Prop := YMS V V1 m ∨ (vi V1 m 47 = vi V m 47 + 1 ∧ ∀ p i : Nat, p < 9 → i < 20 → yrm V1 m p i = if (i : Int) = vi V m 47 then -1 else yrm V m p i)
theorem YTX.same (hA : ar 59 V1 m = ar 59 V m) (e : vi V1 m 47 = vi V m 47) : YTX V V1 m := Or.inl ⟨e, fun p i => congrFun hA (20 * p + i)⟩
def YLP (A B : Nat → Int) (t n : Int) : Prop := ∀ q i : Nat, q < 9 → i < 20 → B (20 * q + i) = if (q : Int) < n ∧ (i : Int) = t then -1 else A (20 * q + i)
theorem YLP.beg {A B : Nat → Int} (h : B = A) : YLP A B z 0 := fun q i _ _ => by
  rw [h, if_neg (by omega)]
theorem YLP.put {A B C : Nat → Int} {j : Nat} {v : Int} (h : YLP A B z n) (e : C = updf B j v) (hv : v = -1) (hj : (j : Int) = 20 * n + z) (hn : 0 ≤ n ∧ n ≤ 8) (hzr : 0 ≤ z ∧ z ≤ 19) (hz : c = n + 1) : YLP A C z c := fun q i hq hi => by
  have h1 := h q i hq hi
  by_cases e1 : 20 * q + i = j
  · rw [e, e1, updf_at, hv]
    by_cases e2 : (q : Int) < c ∧ (i : Int) = z
    · rw [if_pos e2]
    · exfalso
      omega
  · rw [e, updf_of e1, h1]
    by_cases e2 : (q : Int) < n ∧ (i : Int) = z
    · rw [if_pos e2, if_pos (by omega)]
    · rw [if_neg e2, if_neg (by omega)]
theorem YTX.ok {B : Nat → Int} (h : YLP (ar 59 V m) B z n) (hn : 9 ≤ n) (hA : ar 59 V1 m = B) (e : vi V1 m 47 = vi V m 47 + 1) (hz : z = vi V m 47) : YTX V V1 m := Or.inr ⟨e, fun p i hp hi => by
  have h1 := h p i hp hi
  have h2 : yrm V1 m p i = B (20 * p + i) := congrFun hA (20 * p + i)
  rw [h2, h1, ← hz]
  by_cases e2 : (i : Int) = z
  · rw [if_pos ⟨by omega, e2⟩, if_pos e2]
  · rw [if_neg (fun q => e2 q.2), if_neg e2]
    rfl⟩
theorem YRL.text (h : YRL V x m) (g : YCS V V1 x) (g1 : YTX V V1 m) (h0 : 0 ≤ vi V m 47) : YRL V1 x m := by
  rcases g1 with g1 | ⟨b1, b2⟩
  · exact h.same g g1
  · obtain ⟨h1, h2⟩ := h
    obtain ⟨a1, a2⟩ := g
    refine ⟨fun p r hpr hr => ?_, fun p i hp hi => ?_⟩
    · rw [a1] at hr
      rw [(a2 p (by omega)).2.1, (a2 r hr).2.1]
      exact h1 p r hpr hr
    · obtain ⟨c1, c2⟩ := h2 p i hp hi
      rw [a1, b1, b2 p i hp hi]
      by_cases q : (i : Int) = vi V m 47
      · rw [if_pos q]
        refine ⟨fun q1 => ⟨fun _ => ?_, fun _ => by omega⟩, fun _ _ => rfl⟩
        rw [(a2 p q1).2.2 i]
        exact (c1 q1).2 (by omega)
      · rw [if_neg q]
        refine ⟨fun q1 => ⟨fun q2 => ?_, fun q2 => ?_⟩, fun q1 q2 => c2 q1 (by omega)⟩
        · rw [(a2 p q1).2.2 i]
          exact (c1 q1).1 (by omega)
        · rw [(a2 p q1).2.2 i]
          exact (c1 q1).2 (by omega)
theorem TXE.tnl (h : TXE K V x m) : TNL V (lwO V x) := by
  obtain ⟨-, -, L, h3, -⟩ := h
  exact h3.tnl
theorem TXE.cnt (h : TXE K V x m) : txN V x = vi V m 47 := by
  obtain ⟨-, -, L, h3, h4⟩ := h
  rw [h3.1, h4.1]
/-! yes() -/
def YOK (n t p i r : Int) : Prop := 0 ≤ p ∧ p < n ∧ 0 < i ∧ i < t ∧ r = -1
/-- the class's -/
def YSC (V V1 : Vmap) (x : Nat) (p i X : Int) : Prop := (TNL V (lwO V x) → PN V x → X = 0 ∧ ¬ YOK (vi V x 4) (txN V x) p i (yrw V x p.toNat i.toNat) ∧ V1 = V) ∨ (X = 1 ∧ YOK (vi V x 4) (txN V x) p i (yrw V x p.toNat i.toNat) ∧ ∃ V2, V2 = upd2 V (yrA V x p.toNat) i.toNat (ti (tdy V x)) ∧ V1 = upd2 V2 (lwO V x) 7 (ti (-1)))
theorem YSC.np (hn : PN V x → p < 0 ∨ vi V x 4 ≤ p) : YSC V V x p i 0 := Or.inl fun _ hN => ⟨rfl, fun q => by have := hn hN; unfold YOK at q; omega, rfl⟩
theorem YSC.i0 (hi : i = 0) : YSC V V x p i 0 := Or.inl fun _ _ => ⟨rfl, fun q => by unfold YOK at q; omega, rfl⟩
theorem YSC.nt (hn : TNL V (vq V x 1) → i < 0 ∨ vi V (vq V x 1) 1 ≤ i) : YSC V V x p i 0 := Or.inl fun ht _ => ⟨rfl, fun q => by have := hn ht; unfold YOK txN lwO at q; omega, rfl⟩
theorem YSC.had {a : Nat} (ha : a = vq V (vq V x 3) p.toNat) (hX : X = rgv V (vq V a 3) 20 i) (hp : 0 ≤ p ∧ p < vi V x 4) (hi : 0 ≤ i) (h20 : i < 20) (hne : X ≠ -1) : YSC V V x p i 0 := Or.inl fun _ _ => ⟨rfl, fun q => by
  have e : X = yrw V x p.toNat i.toNat := by
    rw [hX, ← rgv_in hi (by omega)]
    subst ha
    rfl
  exact hne (e.trans q.2.2.2.2), rfl⟩
theorem YSC.ok {a : Nat} (ha : a = vq V (vq V x 3) p.toNat) (hX : X = rgv V (vq V a 3) 20 i) (hp : 0 ≤ p ∧ p < vi V x 4) (hi : 0 < i) (ht : i < vi V (vq V x 1) 1) (h20 : i < 20) (he : X = -1) (e : V1 = rpv V (vq V a 3) 20 i (vi V (vq V x 0) 0)) (e2 : V2 = upd2 V1 (vq V x 1) 7 (ti (-1))) : YSC V V2 x p i 1 := by
  have e1 : X = yrw V x p.toNat i.toNat := by
    rw [hX, ← rgv_in (by omega) (by omega)]
    subst ha
    rfl
  refine Or.inr ⟨rfl, by unfold YOK txN lwO; omega, V1, ?_, e2⟩
  rw [rpv_put e (by omega) (by omega)]
  subst ha
  rfl
/-- the reference's -/
def YSR (V V1 : Vmap) (m : Nat) (p i X : Int) : Prop := (X = 0 ∧ ¬ YOK (vi V m 9) (vi V m 47) p i (yrm V m p.toNat i.toNat) ∧ V1 = V) ∨ (X = 1 ∧ YOK (vi V m 9) (vi V m 47) p i (yrm V m p.toNat i.toNat) ∧ V1 = upd2 V (vq V m 59) (20 * p.toNat + i.toNat) (ti (vi V m 2)))
theorem YSR.no (h : p < 0 ∨ vi V m 9 ≤ p ∨ i ≤ 0 ∨ vi V m 47 ≤ i) : YSR V V m p i 0 := Or.inl ⟨rfl, fun q => by unfold YOK at q; omega, rfl⟩
theorem YSR.had (hz : z = 20 * p + i) (hr : vi V (vq V m 59) z.toNat ≠ -1) (h0 : 0 ≤ p) (hi : 0 ≤ i) : YSR V V m p i 0 := Or.inl ⟨rfl, fun q => by
  have e : yrm V m p.toNat i.toNat = vi V (vq V m 59) z.toNat := by unfold yrm; rw [show z.toNat = 20 * p.toNat + i.toNat by omega]
  exact hr (e.symm.trans q.2.2.2.2), rfl⟩
theorem YSR.ok (hz : z = 20 * p + i) (hr : vi V (vq V m 59) z.toNat = -1) (h0 : 0 ≤ p) (h9 : p < vi V m 9) (hi : 0 < i) (ht : i < vi V m 47) (e : V1 = upd2 V (vq V m 59) z.toNat (ti (vi V m 2))) : YSR V V1 m p i 1 := by
  have hz2 : z.toNat = 20 * p.toNat + i.toNat := by omega
  rw [hz2] at e hr
  exact Or.inr ⟨rfl, by unfold YOK yrm; omega, e⟩
theorem YRL.yes {w1 : Nat} (h : YRL V x m) (hx : K x = some (0, 10)) (hm : K m = some (0, 11)) (hW : WT K V) (hW1 : WT K1 V1) (hE1 : ext K K1) (hF1 : FR w1 K V K1 V1) (hN : PN V x) (hT : TNL V (lwO V x)) (hn : vi V x 4 = vi V1 m 9) (ht : txN V x = vi V m 47) (hd : tdy V x = vi V1 m 2) (f : YSC V V1 x p i X) (f1 : YSR V1 V2 m p i Y) (b1 : ymbits w1 = true) : X = Y ∧ YRL V2 x m := by
  have gm : YMS V V1 m := YMS.fr hF1 hE1 hW hm b1
  have hm1 := hE1.obj (Or.inl (by decide)) hm
  have h9 := (hW.int hx (j := 4) (Nat.le_of_ble_eq_true rfl) rfl).2
  have h20 := (hW.int hm (j := 47) (Nat.le_of_ble_eq_true rfl) rfl).2
  have hyk : ∀ p i : Int, YOK (vi V x 4) (txN V x) p i (yrw V x p.toNat i.toNat) ↔ YOK (vi V1 m 9) (vi V1 m 47) p i (yrm V1 m p.toNat i.toNat) := fun p i => by
    rw [← hn, gm.1, ← ht, gm.2]
    constructor
    · rintro ⟨a1, a2, a3, a4, a5⟩
      exact ⟨a1, a2, a3, a4, by rw [← ((h.2 p.toNat i.toNat (by omega) (by omega)).1 (by omega)).1 (by omega)]; exact a5⟩
    · rintro ⟨a1, a2, a3, a4, a5⟩
      exact ⟨a1, a2, a3, a4, by rw [((h.2 p.toNat i.toNat (by omega) (by omega)).1 (by omega)).1 (by omega)]; exact a5⟩
  rcases f with f | ⟨f1a, f2, V9, e1, e2⟩
  · obtain ⟨g1, g2, g3⟩ := f hT hN
    subst g3
    rcases f1 with ⟨q1, q2, q3⟩ | ⟨q1, q2, q3⟩
    · subst q3
      exact ⟨by omega, h⟩
    · exact absurd ((hyk p i).mpr q2) g2
  · rcases f1 with ⟨q1, q2, q3⟩ | ⟨q1, q2, q3⟩
    · exact absurd ((hyk p i).mp f2) q2
    · refine ⟨by omega, ?_⟩
      have f2' := f2
      obtain ⟨a1, a2, a3, a4, a5⟩ := f2
      have hP : ((p.toNat : Nat) : Int) < vi V x 4 := by omega
      obtain ⟨ha, hr, hk, hw⟩ := yr_at hW hx hN hP
      obtain ⟨hl, -⟩ := lw_own hx hW
      have hxw : x ≠ yrA V x p.toNat := K_ne hx hw (by simp)
      have hxl : x ≠ lwO V x := K_ne hx hl (by decide)
      obtain ⟨k, hB⟩ := (hW1.ref hm1 (j := 59) (Nat.le_of_ble_eq_true rfl) rfl).2
      have hB0 : vq V1 m 59 = vq V m 59 := by
        simp only [ymbits, List.all_cons, List.all_nil, Bool.and_true, Bool.and_eq_true, Bool.not_eq_true'] at b1
        exact vq_eq (hF1 _ _ 59 hm hm1 b1.2.1)
      -- what is elsewhere
      have nm1 : ∀ b kd, K b = some kd → kd ≠ (123 + 1, 20) → kd ≠ (0, 1) → kd.1 ≠ 51 → V2 b = V b := fun b kd hb n1 n2 n3 => by
        funext j
        have hb1 : b ≠ vq V1 m 59 := fun e => by
          rw [e] at hb
          rcases hE1 _ _ hb with e9 | ⟨ci, cj, -, -, -, e9⟩
          · rw [e9] at hB
            exact n3 (congrArg Prod.fst (Option.some.inj hB))
          · rw [e9] at hB
            cases hB
        rw [uq_ne q3 (Or.inl hb1), uq_ne e2 (Or.inl (K_ne hb hl n2)), uq_ne e1 (Or.inl (K_ne hb hw n1))]
      have x2 : V2 x = V x := nm1 x _ hx (by decide) (by decide) (by decide)
      have a2' : V2 (vq V x 3) = V (vq V x 3) := nm1 _ _ ha (by decide) (by decide) (by decide)
      have h4 : vi V2 x 4 = vi V x 4 := vi_eq (congrFun x2 4)
      have h3 : vq V2 x 3 = vq V x 3 := vq_eq (congrFun x2 3)
      have hpt : ∀ r : Nat, pty V2 x r = pty V x r := fun r => by unfold pty; rw [h3]; exact vq_eq (congrFun a2' r)
      have hya : ∀ r : Nat, (r : Int) < vi V x 4 → yrA V2 x r = yrA V x r := fun r hr => by
        have hk2 := (yr_at hW hx hN hr).2.2.1
        unfold yrA
        rw [hpt r]
        exact vq_eq (congrFun (nm1 _ _ hk2 (by decide) (by decide) (by decide)) 3)
      have m2 : V2 m = V1 m := by
        funext j
        exact uq_ne q3 (Or.inl (K_ne hm1 hB (by simp)))
      have t2 : vi V2 m 47 = vi V m 47 := (vi_eq (congrFun m2 47)).trans gm.1
      have hrow : ∀ (r j : Nat), (r : Int) < vi V x 4 → j < 20 → yrw V2 x r j = if r = p.toNat ∧ j = i.toNat then tdy V x else yrw V x r j := fun r j hr hj => by
        obtain ⟨-, -, -, hw2⟩ := yr_at hW hx hN hr
        have n1 : yrA V x r ≠ vq V1 m 59 := fun e => by
          have := hE1.arr hw2
          rw [e, hB] at this
          have h51 : (51 : Nat) = 124 := congrArg Prod.fst (Option.some.inj this)
          exact absurd h51 (by decide)
        unfold yrw
        rw [hya r hr, vi_up q3 (Or.inl n1), vi_up e2 (Or.inl (K_ne hw2 hl (by simp)))]
        by_cases e : r = p.toNat
        · subst e
          by_cases e3 : j = i.toNat
          · subst e3
            rw [if_pos ⟨rfl, rfl⟩, upd2_int e1 (by unfold tdy; exact vi_ir)]
          · rw [if_neg (fun q => e3 q.2)]
            exact vi_up e1 (Or.inr e3)
        · rw [if_neg (fun q => e q.1)]
          refine vi_up e1 (Or.inl ?_)
          rcases Nat.lt_or_gt_of_ne e with l | l
          · exact h.1 r p.toNat l hP
          · exact Ne.symm (h.1 p.toNat r l hr)
      have hmr : ∀ (r j : Nat), r < 9 → j < 20 → yrm V2 m r j = if r = p.toNat ∧ j = i.toNat then tdy V x else yrm V m r j := fun r j hr hj => by
        have e5 : vq V2 m 59 = vq V1 m 59 := vq_eq (congrFun m2 59)
        have e6 : yrm V1 m r j = yrm V m r j := gm.2 r j
        unfold yrm at e6 ⊢
        rw [e5]
        by_cases e : r = p.toNat ∧ j = i.toNat
        · rw [if_pos e, e.1, e.2, upd2_int q3 vi_ir, hd]
        · rw [if_neg e, vi_up q3 (Or.inr (fun q => e (by omega)))]
          exact e6
      refine ⟨fun r s hrs hs => ?_, fun r j hr hj => ?_⟩
      · rw [h4] at hs
        rw [hya r (by omega), hya s hs]
        exact h.1 r s hrs hs
      · obtain ⟨c1, c2⟩ := h.2 r j hr hj
        rw [h4, t2, hmr r j hr hj]
        refine ⟨fun q => ?_, fun q q2 => ?_⟩
        · rw [hrow r j q hj]
          by_cases e : r = p.toNat ∧ j = i.toNat
          · rw [if_pos e, if_pos e]
            exact ⟨fun _ => rfl, fun q2 => by omega⟩
          · rw [if_neg e, if_neg e]
            exact c1 q
        · rw [if_neg (fun e => by omega)]
          exact c2 q q2
end YA
