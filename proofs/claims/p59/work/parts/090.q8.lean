/-! ### sledges -/
section Q8
variable {K K0 K1 K2 : Kmap} {V V0 V1 V2 V3 W W0 W1 W2 : Vmap} {x m o t q f N l : Nat} {i j n e d p a b w z y v X Y Z D : Int} {r u g c g' τ τ' : Nat → Int} {k s : Nat} {vs : Int → Prop}
/-- a sledge that arrives, on both sides -/
def SLP (D : Int) (go : Prop) (ok : Prop) (t g t' g' : Nat → Int) : Prop := (go ∧ ok ∧ t' = updf t 4 0 ∧ g' = updf g 7 (wr (g 7 + t 3))) ∨ (go ∧ ¬ ok ∧ t' = updf t 4 0 ∧ g' = g) ∨ (¬ go ∧ t' = t ∧ g' = g)
def SLR (vs : Int → Prop) (D : Int) (t u : Nat → Int) : Prop := (t 0 = u 0 ∧ t 1 = u 1 ∧ t 2 = u 2 ∧ t 3 = u 3 ∧ t 4 = u 4) ∧ (t 4 ≠ 0 → D < t 2) ∧ vs (t 0)
theorem SLR.step {ok ok' : Prop} (h : SLR vs (D - 1) τ u) (hok : ok ↔ ok') (a : SLP D (τ 4 ≠ 0 ∧ τ 2 = D) ok τ g τ' g') (b : SLP D (u 4 ≠ 0 ∧ u 2 ≤ D) ok' u g r c) : SLR vs D τ' r ∧ g' = c := by
  obtain ⟨⟨h0, h1, h2, h3, h4⟩, hd, hv⟩ := h
  have eg : (τ 4 ≠ 0 ∧ τ 2 = D) ↔ (u 4 ≠ 0 ∧ u 2 ≤ D) := by
    constructor
    · rintro ⟨e1, e2⟩
      exact ⟨by omega, by omega⟩
    · rintro ⟨e1, e2⟩
      have := hd (by omega)
      exact ⟨by omega, by omega⟩
  have T : SLR vs D (updf τ 4 0) (updf u 4 0) := by
    unfold SLR
    rw [updf_of (by decide), updf_of (by decide), updf_of (by decide), updf_of (by decide), updf_at, updf_of (by decide), updf_of (by decide), updf_of (by decide), updf_of (by decide), updf_at]
    exact ⟨⟨h0, h1, h2, h3, rfl⟩, fun e => absurd rfl e, hv⟩
  rcases a with ⟨a1, a2, a3, a4⟩ | ⟨a1, a2, a3, a4⟩ | ⟨a1, a3, a4⟩
  · rcases b with ⟨b1, b2, b3, b4⟩ | ⟨b1, b2, b3, b4⟩ | ⟨b1, b3, b4⟩
    · rw [a3, b3, a4, b4, h3]
      exact ⟨T, rfl⟩
    · exact absurd (hok.mp a2) b2
    · exact absurd (eg.mp a1) b1
  · rcases b with ⟨b1, b2, b3, b4⟩ | ⟨b1, b2, b3, b4⟩ | ⟨b1, b3, b4⟩
    · exact absurd (hok.mpr b2) a2
    · rw [a3, b3, a4, b4]
      exact ⟨T, rfl⟩
    · exact absurd (eg.mp a1) b1
  · rcases b with ⟨b1, b2, b3, b4⟩ | ⟨b1, b2, b3, b4⟩ | ⟨b1, b3, b4⟩
    · exact absurd (eg.mpr b1) a1
    · exact absurd (eg.mpr b1) a1
    · rw [a3, b3, a4, b4]
      refine ⟨⟨⟨h0, h1, h2, h3, h4⟩, fun e => ?_, hv⟩, rfl⟩
      have := hd e
      have n : τ 2 ≠ D := fun e2 => a1 ⟨e, e2⟩
      omega
def SLC (D : Int) (ok : Int → Int → Prop) (i : Nat) (a b : SHS) : Prop := ∃ t' g', SLP D (a.1 i 4 ≠ 0 ∧ a.1 i 2 = D) (ok (a.1 i 0) (a.1 i 1)) (a.1 i) (a.2 (a.1 i 0).toNat) t' g' ∧ b.1 = upg a.1 i t' ∧ b.2 = upg a.2 (a.1 i 0).toNat g'
def SLM (D : Int) (ok : Int → Int → Prop) (i : Nat) (a b : SHS) : Prop := ∃ t' g', SLP D (a.1 i 4 ≠ 0 ∧ a.1 i 2 ≤ D) (ok (a.1 i 0) (a.1 i 1)) (a.1 i) (a.2 (a.1 i 0).toNat) t' g' ∧ b.1 = upg a.1 i t' ∧ b.2 = upg a.2 (a.1 i 0).toNat g'
def RUN (F : Nat → SHS → SHS → Prop) (a : SHS) : Nat → SHS → Prop
  | 0, b => b = a
  | s + 1, b => ∃ c, RUN F a s c ∧ F s c b
def SLQ (vs : Int → Prop) (D : Int) (n0 s : Nat) (b0 a b : SHS) : Prop := (∀ z, vs z → a.2 z.toNat = b.2 z.toNat) ∧ (∀ u, u < n0 → SLR vs (if u < s then D else D - 1) (a.1 u) (b.1 u)) ∧ ∀ j : Nat, ¬ vs (j : Int) → b.2 j = b0.2 j
theorem SLQ.step {b0 a a' b b' : SHS} {n0 : Nat} {ok ok' : Int → Int → Prop} (h : SLQ vs D n0 s b0 a b) (hv : ∀ z, vs z → 0 ≤ z) (hs : s < n0) (hk : ∀ z c, vs z → (ok z c ↔ ok' z c)) (f : SLC D ok s a a') (g : SLM D ok' s b b') : SLQ vs D n0 (s + 1) b0 a' b' := by
  obtain ⟨h1, h2, h5⟩ := h
  have hr := h2 s hs
  rw [if_neg (by omega)] at hr
  obtain ⟨t', g', f1, f2, f3⟩ := f
  obtain ⟨u', k', g1, g2, g3⟩ := g
  have e0 : a.1 s 0 = b.1 s 0 := hr.1.1
  have e1 : a.1 s 1 = b.1 s 1 := hr.1.2.1
  have wv : vs (a.1 s 0) := hr.2.2
  rw [← e0, ← e1, ← h1 _ wv] at g1
  obtain ⟨p1, p2⟩ := hr.step (hk _ _ wv) f1 g1
  refine ⟨fun z hz => ?_, fun v hw => ?_, fun j hj => ?_⟩
  · rw [f3, g3, ← e0]
    by_cases q : z.toNat = (a.1 s 0).toNat
    · rw [q, upg_at, upg_at, p2]
    · rw [upg_of q, upg_of q]
      exact h1 z hz
  · rw [f2, g2]
    by_cases q : v = s
    · subst q
      rw [upg_at, upg_at, if_pos (by omega)]
      exact p1
    · rw [upg_of q, upg_of q]
      have := h2 v hw
      by_cases q2 : v < s
      · rw [if_pos q2] at this
        rw [if_pos (by omega)]
        exact this
      · rw [if_neg q2] at this
        rw [if_neg (by omega)]
        exact this
  · have hne : j ≠ (a.1 s 0).toNat := fun q => hj (by
      have h0 := hv _ wv
      have e : (j : Int) = a.1 s 0 := by omega
      rw [e]
      exact wv)
    rw [g3, ← e0, upg_of hne]
    exact h5 j hj
theorem SLQ.run {b0 a b : SHS} {n0 : Nat} {ok ok' : Int → Int → Prop} (h : SLQ vs D n0 0 b0 a b) (hv : ∀ z, vs z → 0 ≤ z) (hk : ∀ z c, vs z → (ok z c ↔ ok' z c)) : ∀ s, s ≤ n0 → ∀ a' b', RUN (SLC D ok) a s a' → RUN (SLM D ok') b s b' → SLQ vs D n0 s b0 a' b' := by
  intro s
  induction s with
  | zero =>
    intro _ a' b' e1 e2
    have e1' : a' = a := e1
    have e2' : b' = b := e2
    rw [e1', e2']
    exact h
  | succ s ih =>
    intro hs a' b' e1 e2
    obtain ⟨c, c1, c2⟩ := e1
    obtain ⟨d, d1, d2⟩ := e2
    exact (ih (by omega) c d c1 d1).step hv (by omega) hk c2 d2
/-! the class's -/
def sgz (V : Vmap) (x : Nat) : Int := vi V (vq V x 11) 3
def sgr (V : Vmap) (x i : Nat) : Nat → Int := fun f => if f < 5 then vi V (vq V (vq V x 11) 2) (5 * i + f) else 0
def cSl (V : Vmap) (x : Nat) : Nat → Nat → Int := fun i => if (i : Int) < sgz V x then sgr V x i else fun _ => 0
theorem sl_tab (hW : WT K V) (ht : K t = some (0, 27)) : K (vq V t 2) = some (149 + 1, 200) ∧ TRM K V t 5 40 ∧ vi V t 1 = ((40 : Nat) : Int) := by
  obtain ⟨N, hC⟩ := (hW.ref ht (j := 2) (Nat.le_of_ble_eq_true rfl) rfl).2
  have hN : N = 200 := by
    rcases (hW.len hC).2.2 with h | h
    · exact absurd h (by decide)
    · exact h
  subst hN
  have h0 := (hW.int ht (j := 0) (Nat.le_of_ble_eq_true rfl) rfl).2
  have h1 := (hW.int ht (j := 1) (Nat.le_of_ble_eq_true rfl) rfl).2
  have h3 := (hW.int ht (j := 3) (Nat.le_of_ble_eq_true rfl) rfl).2
  exact ⟨hC, ⟨by omega, by omega, by omega, 149, hC⟩, by omega⟩
theorem sl_at (hW : WT K V) (hx : K x = some (0, 10)) : K (vq V x 11) = some (0, 27) := (hW.ref hx (j := 11) (Nat.le_of_ble_eq_true rfl) rfl).2
theorem tgv_sl (hW : WT K V) (hx : K x = some (0, 10)) (c0 : 0 ≤ w) (c5 : w < 5) (h0 : 0 ≤ i) (h1 : i < sgz V x) (g : TG K V (vq V x 11) i w X) : X = cSl V x i.toNat w.toNat := by
  obtain ⟨-, hT, -⟩ := sl_tab hW (sl_at hW hx)
  have e := g 5 40 (by decide) (by decide) hT
  have w0 : vi V (vq V x 11) 0 = 5 := hT.1
  have h1' : i < vi V (vq V x 11) 3 := h1
  unfold tgv at e
  rw [if_pos ⟨h0, h1', c0, by omega⟩, w0] at e
  unfold cSl sgr
  rw [if_pos (by omega), if_pos (by omega), e]
  exact congrArg (vi V (vq V (vq V x 11) 2)) (by omega)
/-- the table stays -/
def SLS (V W : Vmap) (x : Nat) : Prop := sgz W x = sgz V x ∧ cSl W x = cSl V x
theorem SLS.rf : SLS V V x := ⟨rfl, rfl⟩
theorem SLS.tr (h : SLS V W x) (g : SLS W W1 x) : SLS V W1 x := ⟨g.1.trans h.1, g.2.trans h.2⟩
def slbit2 (ws : Nat) : Bool := [keyK (0, 10) 11, keyK (0, 27) 2, keyK (0, 27) 3, abase + 150].all fun b => !ws.testBit b
theorem SLS.fr {ws : Nat} (hF : FR ws K V K1 V1) (hE : ext K K1) (hW : WT K V) (hx : K x = some (0, 10)) (hb : slbit2 ws = true) : SLS V V1 x := by
  simp only [slbit2, List.all_cons, List.all_nil, Bool.and_true, Bool.and_eq_true, Bool.not_eq_true'] at hb
  obtain ⟨c11, t2, t3, a⟩ := hb
  have h2 := sl_at hW hx
  have h3 := (sl_tab hW h2).1
  have g2 := hE.obj (Or.inr (by decide)) h2
  have e1 : vq V1 x 11 = vq V x 11 := vq_eq (hF x _ 11 hx (hE.obj (Or.inl (by decide)) hx) c11)
  have e3 : vq V1 (vq V x 11) 2 = vq V (vq V x 11) 2 := vq_eq (hF _ _ 2 h2 g2 t2)
  have ez : sgz V1 x = sgz V x := by
    unfold sgz
    rw [e1]
    exact vi_fr hF h2 g2 t3
  refine ⟨ez, ?_⟩
  funext i
  unfold cSl
  rw [ez]
  split
  · funext f
    unfold sgr
    rw [e1, e3]
    split
    · exact vi_frA hF h3 (hE.arr h3) a
    · rfl
  · rfl
theorem SLS.row {ν : Value} (hW : WT K V) (hx : K x = some (0, 10)) (e : V1 = upd2 V q f ν) (hq : K q = some (0, 3)) : SLS V V1 x := by
  have h2 := sl_at hW hx
  have h3 := (sl_tab hW h2).1
  have e1 : vq V1 x 11 = vq V x 11 := vq_up e (Or.inl (K_ne hx hq (by decide)))
  have e3 : vq V1 (vq V x 11) 2 = vq V (vq V x 11) 2 := vq_up e (Or.inl (K_ne h2 hq (by decide)))
  have ez : sgz V1 x = sgz V x := by
    unfold sgz
    rw [e1]
    exact vi_up e (Or.inl (K_ne h2 hq (by decide)))
  refine ⟨ez, ?_⟩
  funext i
  unfold cSl
  rw [ez]
  split
  · funext f
    unfold sgr
    rw [e1, e3]
    split
    · exact vi_up e (Or.inl (K_ne h3 hq (by simp)))
    · rfl
  · rfl
/-- one sledge has arrived -/
theorem sl_off (hW : WT K V) (hx : K x = some (0, 10)) (e : TPU K V V1 (vq V x 11) i 4 0) (i0 : 0 ≤ i) (i1 : i < sgz V x) : cSl V1 x = upg (cSl V x) i.toNat (updf (cSl V x i.toNat) 4 0) ∧ ∃ q, K q = some (149 + 1, 200) ∧ ∀ b, b ≠ q → V1 b = V b := by
  obtain ⟨hC, hT, -⟩ := sl_tab hW (sl_at hW hx)
  have e' := e.2 5 40 (by decide) (by decide) hT
  have w0 : vi V (vq V x 11) 0 = 5 := hT.1
  have h1' : i < vi V (vq V x 11) 3 := i1
  unfold tpv at e'
  rw [if_pos ⟨i0, h1', by decide, by omega⟩, w0] at e'
  have n1 : x ≠ vq V (vq V x 11) 2 := K_ne hx hC (by simp)
  have n2 : vq V x 11 ≠ vq V (vq V x 11) 2 := K_ne (sl_at hW hx) hC (by simp)
  have sm : ∀ b, b ≠ vq V (vq V x 11) 2 → V1 b = V b := fun b hb => by
    funext j
    exact uq_ne e' (Or.inl hb)
  refine ⟨?_, _, hC, sm⟩
  have e1 : vq V1 x 11 = vq V x 11 := vq_eq (congrFun (sm x n1) 11)
  have e3 : vq V1 (vq V x 11) 2 = vq V (vq V x 11) 2 := vq_eq (congrFun (sm _ n2) 2)
  have ez : sgz V1 x = sgz V x := by
    unfold sgz
    rw [e1]
    exact vi_eq (congrFun (sm _ n2) 3)
  funext j
  unfold upg cSl
  rw [ez]
  by_cases q : j = i.toNat
  · rw [if_pos q, if_pos (by omega), if_pos (by omega)]
    funext f
    by_cases q4 : f = 4
    · rw [q4, updf_at]
      unfold sgr
      rw [if_pos (by decide), e1, e3, q, show 5 * i.toNat + 4 = (i * 5 + 4).toNat by omega]
      exact upd2_int e' (ir_c rfl)
    · rw [updf_of q4]
      unfold sgr
      rw [e1, e3]
      split
      · rw [q]
        exact vi_up e' (Or.inr (by omega))
      · rfl
  · rw [if_neg q]
    split
    · funext f
      unfold sgr
      rw [e1, e3]
      split
      · exact vi_up e' (Or.inr (by omega))
      · rfl
    · rfl
end Q8
