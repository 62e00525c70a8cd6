/-! ### the class: what counts -/
section YC
variable {K K1 K2 : Kmap} {V V0 V1 V2 V3 V4 V5 V6 : Vmap} {x o p t q : Nat} {L : List TXL} {l : List CLT} {C : Nat → Nat → Prop} {a b c d i j m n s w z X Y Z : Int}
/-- the texts of a law -/
def CTL (K : Kmap) (V : Vmap) (o : Nat) (L : List TXL) : Prop := vi V o 1 = (L.length : Int) ∧ ∀ i t, L[i]? = some t → V (vq V o 0) i = .ref (vq V (vq V o 0) i) ∧ K (vq V (vq V o 0) i) = some (0, 8) ∧ vi V (vq V (vq V o 0) i) 0 = t.1 ∧ vi V (vq V (vq V o 0) i) 1 = t.2.1 ∧ TXT K V (vq V (vq V o 0) i) t.2.2
theorem CTS.ctl (h : CTS K V x L) : CTL K V (lwO V x) L := h
theorem CTL.sam (h : CTL K V o L) (hE : ext K K1) (ho : K o = some (0, 1)) (hW : WT K V) (g : SAM TXK K V V1) : CTL K1 V1 o L := by
  obtain ⟨h1, h2⟩ := h
  obtain ⟨N, hA⟩ := (hW.ref ho (j := 0) (Nat.le_of_ble_eq_true rfl) rfl).2
  have s2 : vq V1 o 0 = vq V o 0 := vq_eq (g _ _ 0 ho (by unfold TXK; simp))
  have s3 : vi V1 o 1 = vi V o 1 := vi_eq (g _ _ 1 ho (by unfold TXK; simp))
  have s4 : ∀ i, V1 (vq V o 0) i = V (vq V o 0) i := fun i => g _ _ i hA (by unfold TXK; simp)
  refine ⟨by rw [s3]; exact h1, fun i t ht => ?_⟩
  obtain ⟨a1, a2, a3, a4, a5⟩ := h2 i t ht
  have e1 : vq V1 (vq V o 0) i = vq V (vq V o 0) i := vq_eq (s4 i)
  rw [s2, e1, s4 i]
  exact ⟨a1, hE.obj (Or.inl (by decide)) a2, by rw [vi_eq (g _ _ 0 a2 (by unfold TXK; simp))]; exact a3, by rw [vi_eq (g _ _ 1 a2 (by unfold TXK; simp))]; exact a4, a5.keep a2 hE g⟩
theorem CTL.fr {ws : Nat} (h : CTL K V o L) (hF : FR ws K V K V1) (ho : K o = some (0, 1)) (hW : WT K V) (hb : txbits ws = true) : CTL K V1 o L := h.sam ext.rf ho hW (SAM.frx ext.rf hF ext.rf hb)
theorem CTL.tnl (h : CTL K V o L) : TNL V o := fun i hi hc => by
  have hi2 : i < L.length := by have := h.1; omega
  have := (h.2 i _ (List.getElem?_eq_getElem hi2)).1
  rw [this] at hc
  cases hc
/-- the text of a number -/
theorem CTL.at (h : CTL K V o L) (h0 : 0 ≤ i) (hi : i < vi V o 1) (hq : q = vq V (vq V o 0) i.toNat) : ∃ t, L[i.toNat]? = some t ∧ clA L i.toNat = t.2.2 ∧ K q = some (0, 8) ∧ vi V q 0 = t.1 ∧ vi V q 1 = t.2.1 ∧ TXT K V q t.2.2 := by
  have hi2 : i.toNat < L.length := by have := h.1; omega
  have hr := List.getElem?_eq_getElem hi2
  obtain ⟨a1, a2, a3, a4, a5⟩ := h.2 _ _ hr
  subst hq
  exact ⟨_, hr, clA_at hr, a2, a3, a4, a5⟩
/-! a table of clauses -/
def TBT (K : Kmap) (V : Vmap) (t : Nat) (l : List CLT) : Prop := K t = some (0, 33) ∧ TRM K V t 6 12 ∧ vi V t 1 = 12 ∧ vi V t 3 = (l.length : Int) ∧ (∃ N, K (vq V t 2) = some (156, N)) ∧ ∀ j r, l[j]? = some r → rowOkT V (vq V t 2) j r
theorem TXT.tbt (h : TXT K V t l) : TBT K V (vq V t 2) l := h
theorem TBT.len (h : TBT K V t l) : l.length ≤ 12 := by
  have h1 := h.2.1.2.2.1
  have h2 := h.2.2.2.1
  omega
theorem TBT.keep (h : TBT K V t l) (g : SAM TXK K V V1) : TBT K V1 t l := by
  obtain ⟨h0, ⟨r1, r2, r3, tg, r4⟩, h1, h2, ⟨N, h3⟩, h4⟩ := h
  have k2 : ∀ k, k < 4 → vi V1 t k = vi V t k := fun k hk => vi_eq (g _ _ k h0 (Or.inr (Or.inl ⟨rfl, hk⟩)))
  have q2 : vq V1 t 2 = vq V t 2 := vq_eq (g _ _ 2 h0 (Or.inr (Or.inl ⟨rfl, by decide⟩)))
  have q3 : ∀ j, vi V1 (vq V t 2) j = vi V (vq V t 2) j := fun j => vi_eq (g _ _ j h3 (Or.inr (Or.inr (Or.inl rfl))))
  unfold TBT
  rw [q2]
  refine ⟨h0, ⟨by rw [k2 0 (by decide)]; exact r1, by rw [k2 3 (by decide)]; exact r2, by rw [k2 3 (by decide)]; exact r3, tg, by rw [q2]; exact r4⟩, by rw [k2 1 (by decide)]; exact h1, by rw [k2 3 (by decide)]; exact h2, ⟨N, h3⟩, fun j r hr => ?_⟩
  obtain ⟨st, en, p1, p2⟩ := h4 j r hr
  refine ⟨st, en, ?_, p2⟩
  simp only [q3]
  exact p1
theorem TBT.fr {ws : Nat} (h : TBT K V t l) (hF : FR ws K V K V1) (hb : txbits ws = true) : TBT K V1 t l := h.keep (SAM.frx ext.rf hF ext.rf hb)
theorem TBT.g0 {r : CLT} (h : TBT K V t l) (hr : l[j.toNat]? = some r) (h0 : 0 ≤ j) (g : TG K V t j 0 X) : X = r.1 := by
  obtain ⟨-, hR, -, hn, -, hrow⟩ := h
  have hw := hR.1
  have hlt := (List.getElem?_eq_some_iff.mp hr).1
  obtain ⟨st, en, ⟨c0, -⟩, -⟩ := hrow _ _ hr
  have e := g 6 12 (by decide) (by decide) hR
  unfold tgv at e
  rw [if_pos ⟨h0, by omega, by decide, by rw [hw]; decide⟩, hw, show (j * ((6 : Nat) : Int) + 0).toNat = 6 * j.toNat by omega] at e
  exact e.trans c0
theorem TBT.g1 {r : CLT} (h : TBT K V t l) (hr : l[j.toNat]? = some r) (h0 : 0 ≤ j) (g : TG K V t j 1 X) : X = r.2.1 := by
  obtain ⟨-, hR, -, hn, -, hrow⟩ := h
  have hw := hR.1
  have hlt := (List.getElem?_eq_some_iff.mp hr).1
  obtain ⟨st, en, ⟨-, c0, -⟩, -⟩ := hrow _ _ hr
  have e := g 6 12 (by decide) (by decide) hR
  unfold tgv at e
  rw [if_pos ⟨h0, by omega, by decide, by rw [hw]; decide⟩, hw, show (j * ((6 : Nat) : Int) + 1).toNat = 6 * j.toNat + 1 by omega] at e
  exact e.trans c0
theorem TBT.g2 {r : CLT} (h : TBT K V t l) (hr : l[j.toNat]? = some r) (h0 : 0 ≤ j) (g : TG K V t j 2 X) : X = r.2.2.1 := by
  obtain ⟨-, hR, -, hn, -, hrow⟩ := h
  have hw := hR.1
  have hlt := (List.getElem?_eq_some_iff.mp hr).1
  obtain ⟨st, en, ⟨-, -, c0, -⟩, -⟩ := hrow _ _ hr
  have e := g 6 12 (by decide) (by decide) hR
  unfold tgv at e
  rw [if_pos ⟨h0, by omega, by decide, by rw [hw]; decide⟩, hw, show (j * ((6 : Nat) : Int) + 2).toNat = 6 * j.toNat + 2 by omega] at e
  exact e.trans c0
theorem TBT.g3 {r : CLT} (h : TBT K V t l) (hr : l[j.toNat]? = some r) (h0 : 0 ≤ j) (g : TG K V t j 3 X) : X = r.2.2.2 := by
  obtain ⟨-, hR, -, hn, -, hrow⟩ := h
  have hw := hR.1
  have hlt := (List.getElem?_eq_some_iff.mp hr).1
  obtain ⟨st, en, ⟨-, -, -, c0, -⟩, -⟩ := hrow _ _ hr
  have e := g 6 12 (by decide) (by decide) hR
  unfold tgv at e
  rw [if_pos ⟨h0, by omega, by decide, by rw [hw]; decide⟩, hw, show (j * ((6 : Nat) : Int) + 3).toNat = 6 * j.toNat + 3 by omega] at e
  exact e.trans c0
theorem TBT.at (h : TBT K V t l) (h0 : 0 ≤ j) (hj : j < vi V t 3) : ∃ r, l[j.toNat]? = some r := by
  have h1 := h.2.2.2.1
  exact ⟨_, List.getElem?_eq_getElem (by omega)⟩
/-! strike() -/
def skR (V : Vmap) (o u : Nat) : Int := vi V (vq V o 5) u
def cnR (V : Vmap) (o u : Nat) : Int := vi V (vq V o 4) u
def okLs (l : List CLT) : Prop := ∀ (j : Nat) (r : CLT), l[j]? = some r → okC r
def SRW (S0 S1 : Nat → Int) (l : List CLT) (i s m : Int) : Prop := ∀ u v : Nat, u < 20 → v < 32 → (tb (S1 u) v = true ↔ (tb (S0 u) v = true ∨ ∃ (j : Nat) (r : CLT), (j : Int) < m ∧ l[j]? = some r ∧ r.1 = 120 ∧ tb s j = true ∧ r.2.2.1 < i ∧ r.2.2.1 = (u : Int) ∧ r.2.2.2 = (v : Int)))
def STI (K : Kmap) (V V1 : Vmap) (o t : Nat) (i s m : Int) : Prop := ∀ l, TBT K V t l → okLs l → SRW (skR V o) (skR V1 o) l i s m
def STR (K : Kmap) (V V1 : Vmap) (o t : Nat) (i s : Int) : Prop := ∀ l, TBT K V t l → okLs l → SRW (skR V o) (skR V1 o) l i s (l.length : Int)
theorem STI.beg : STI K V V o t i s 0 := fun l _ _ u v _ _ => ⟨Or.inl, fun h => by
  rcases h with h | ⟨j, r, h, -⟩
  · exact h
  · omega⟩
theorem STI.no (h : STI K V V1 o t i s m) (h0 : 0 ≤ m) (hno : ∀ l r, TBT K V t l → l[m.toNat]? = some r → r.1 = 120 → tb s m.toNat = true → ¬ r.2.2.1 < i) (hm : n = m + 1) : STI K V V1 o t i s n := fun l hl ho u v hu hv => by
  rw [h l hl ho u v hu hv]
  constructor
  · rintro (q | ⟨j, r, q0, q1⟩)
    · exact Or.inl q
    · exact Or.inr ⟨j, r, by omega, q1⟩
  · rintro (q | ⟨j, r, q0, q1, q2, q3, q4, q5⟩)
    · exact Or.inl q
    · by_cases e : (j : Int) < m
      · exact Or.inr ⟨j, r, e, q1, q2, q3, q4, q5⟩
      · have ej : j = m.toNat := by omega
        subst ej
        exact absurd q4 (hno l r hl q1 q2 q3)
theorem STI.n1 (h : STI K V V1 o t i s m) (h0 : 0 ≤ m) (h32 : m < 32) (hc : wand (wshr s m) 1 = 0) (hm : n = m + 1) : STI K V V1 o t i s n := h.no h0 (fun l r _ _ _ hb => by
  have e : (m.toNat : Int) = m := Int.toNat_of_nonneg h0
  rw [← e] at hc
  rw [(shr1_0 (by omega)).mp hc] at hb
  cases hb) hm
theorem STI.n2 (h : STI K V V1 o t i s m) (h0 : 0 ≤ m) (hT : ∀ l, TBT K V t l → TBT K V1 t l) (g : TG K V1 t m 0 X) (hX : X ≠ 120) (hm : n = m + 1) : STI K V V1 o t i s n := h.no h0 (fun l r hl hr h1 _ => absurd (((hT l hl).g0 hr h0 g).trans h1) hX) hm
theorem STI.n3 (h : STI K V V1 o t i s m) (h0 : 0 ≤ m) (hT : ∀ l, TBT K V t l → TBT K V1 t l) (g : TG K V1 t m 2 X) (hX : i ≤ X) (hm : n = m + 1) : STI K V V1 o t i s n := h.no h0 (fun l r hl hr _ _ => by
  have := (hT l hl).g2 hr h0 g
  omega) hm
theorem STI.hit (h : STI K V V1 o t i s m) (h0 : 0 ≤ m) (hT : ∀ l, TBT K V t l → TBT K V1 t l) (hlt : m < vi V1 t 3) (g2 : TG K V1 t m 2 X) (g0 : TG K V1 t m 0 Y) (hY : Y = 120) (g3 : TG K V1 t m 3 Z) (hc : wand (wshr s m) 1 ≠ 0) (hX : X < i) (hz : z = wshl 1 Z) (hw : w = rgv V1 (vq V1 o 5) 20 X) (e : V2 = rpv V1 (vq V1 o 5) 20 X (wor w z)) (ho : o ≠ vq V1 o 5) (hm : n = m + 1) : STI K V V2 o t i s n := fun l hl hok u v hu hv => by
  have hl1 := hT l hl
  have hl12 := hl1.len
  obtain ⟨r, hr⟩ := hl1.at h0 hlt
  have k := hok _ _ hr
  have eX := hl1.g2 hr h0 g2
  have eY := hl1.g0 hr h0 g0
  have eZ := hl1.g3 hr h0 g3
  obtain ⟨k1, k2, k3, k4, k5, -⟩ := k
  have hj := (List.getElem?_eq_some_iff.mp hr).1
  have e1 : ((m.toNat : Nat) : Int) = m := Int.toNat_of_nonneg h0
  have hb : tb s m.toNat = true := (shr1_n0 (w := m.toNat) (by omega)).mp (by rw [e1]; exact hc)
  have e2 := rpv_put e (by omega) (by omega)
  rw [← rgv_in (n := 20) (by omega) (by omega)] at hw
  have hq : vq V2 o 5 = vq V1 o 5 := vq_up e2 (Or.inl ho)
  have hZ : ((Z.toNat : Nat) : Int) = Z := Int.toNat_of_nonneg (by omega)
  have hrow : tb (skR V2 o u) v = true ↔ (tb (skR V1 o u) v = true ∨ ((u : Int) = X ∧ (v : Int) = Z)) := by
    unfold skR
    rw [hq]
    by_cases eu : u = X.toNat
    · subst eu
      rw [upd2_int e2 wor_ir, hz, ← hZ, set_bit (by omega) hv, Bool.or_eq_true, decide_eq_true_eq, hw]
      constructor
      · rintro (q | q)
        · exact Or.inl q
        · exact Or.inr ⟨by omega, by omega⟩
      · rintro (q | ⟨-, q⟩)
        · exact Or.inl q
        · exact Or.inr (by omega)
    · rw [vi_up e2 (Or.inr eu)]
      constructor
      · exact Or.inl
      · rintro (q | ⟨q, -⟩)
        · exact q
        · omega
  rw [hrow, h l hl hok u v hu hv]
  constructor
  · rintro ((q | ⟨j, r', q0, q1⟩) | ⟨q1, q2⟩)
    · exact Or.inl q
    · exact Or.inr ⟨j, r', by omega, q1⟩
    · exact Or.inr ⟨m.toNat, r, by omega, hr, by omega, hb, by omega, by omega, by omega⟩
  · rintro (q | ⟨j, r', q0, q1, q2, q3, q4, q5, q6⟩)
    · exact Or.inl (Or.inl q)
    · by_cases ej : (j : Int) < m
      · exact Or.inl (Or.inr ⟨j, r', ej, q1, q2, q3, q4, q5, q6⟩)
      · have e9 : j = m.toNat := by omega
        subst e9
        rw [hr] at q1
        cases q1
        exact Or.inr ⟨by omega, by omega⟩
theorem STI.end (h : STI K V V1 o t i s m) (hT : ∀ l, TBT K V t l → TBT K V1 t l) (hm : vi V1 t 3 ≤ m) : STR K V V1 o t i s := fun l hl hok u v hu hv => by
  have h3 := (hT l hl).2.2.2.1
  rw [h l hl hok u v hu hv]
  constructor
  · rintro (q | ⟨j, r, q0, q1, q2⟩)
    · exact Or.inl q
    · exact Or.inr ⟨j, r, by have := (List.getElem?_eq_some_iff.mp q1).1; omega, q1, q2⟩
  · rintro (q | ⟨j, r, q0, q1⟩)
    · exact Or.inl q
    · exact Or.inr ⟨j, r, by omega, q1⟩
/-! weighTexts() -/
def CNB (V : Vmap) (o : Nat) (C : Nat → Nat → Prop) : Prop := ∀ u v : Nat, u < 20 → v < 32 → (tb (cnR V o u) v = true ↔ C u v)
abbrev Bof (b : Int) (i : Nat) : Prop := tb b i = true
def WTI (K : Kmap) (V V1 : Vmap) (o : Nat) (n b i : Int) : Prop := ∀ L, CTL K V o L → OKL L → 0 ≤ n → n ≤ (L.length : Int) → ∃ k : Nat, (k : Int) = n - 1 - i ∧ k ≤ n.toNat ∧ (∀ u v : Nat, u < 20 → v < 32 → (tb (skR V1 o u) v = true ↔ STK L (Bof b) n.toNat k u v)) ∧ ∀ u v : Nat, u < 20 → v < 32 → (tb (cnR V1 o u) v = true ↔ i < (u : Int) ∧ CNQ L (Bof b) n.toNat u v)
def WTC (K : Kmap) (V V1 : Vmap) (o : Nat) (n b : Int) : Prop := ∀ L, CTL K V o L → OKL L → 0 ≤ n → n ≤ (L.length : Int) → CNB V1 o (CNQ L (Bof b) n.toNat)
theorem WTI.beg (f : FLL V V1 (vq V o 4) 20 0) (g : FLL V1 V2 (vq V1 o 5) 20 0) (ho : K o = some (0, 1)) (h4 : K (vq V o 4) = some (134, 20)) (h5 : K (vq V1 o 5) = some (135, 20)) (hz : ir (n - 1) → z = n - 1) : WTI K V V2 o n b z := fun L hL _ h0 hn => by
  have n4 : o ≠ vq V o 4 := K_ne ho h4 (by decide)
  have n5 : o ≠ vq V1 o 5 := K_ne ho h5 (by decide)
  have n45 : vq V o 4 ≠ vq V1 o 5 := K_ne h4 h5 (by decide)
  have e4 : vq V2 o 4 = vq V o 4 := (vq_eq (congrFun (g.2 o n5) 4)).trans (vq_eq (congrFun (f.2 o n4) 4))
  have e5 : vq V2 o 5 = vq V1 o 5 := vq_eq (congrFun (g.2 o n5) 5)
  have hlen := hL.1
  have hr : ir (vi V o 1) := vi_ir
  have ez := hz ⟨by omega, by have := hr.2; omega⟩
  refine ⟨0, by omega, Nat.zero_le _, fun u v hu hv => ?_, fun u v hu hv => ?_⟩
  · unfold skR
    rw [e5, g.1 u hu, tb_zero]
    exact ⟨fun q => Bool.noConfusion q, fun q => q.elim⟩
  · unfold cnR
    rw [e4, vi_eq (congrFun (g.2 _ n45) u), f.1 u hu, tb_zero]
    exact ⟨fun q => Bool.noConfusion q, fun q => by have := q.2.1; omega⟩
theorem WTI.nul (h : WTI K V V1 o n b i) (hT : ∀ L, CTL K V o L → CTL K V1 o L) (hn : TNL V1 o → i < 0 ∨ vi V1 o 1 ≤ i) (h0 : 0 ≤ i) : WTI K V V1 o n b j := fun L hL hO hn0 hnl => by
  obtain ⟨k, h1, -⟩ := h L hL hO hn0 hnl
  have h2 := hn (hT L hL).tnl
  have h3 := (hT L hL).1
  exfalso
  omega
theorem WTI.off (h : WTI K V V1 o n b i) (hT : ∀ L, CTL K V o L → CTL K V1 o L) (h0 : 0 ≤ i) (h20 : vi V1 o 1 ≤ 20) (hc : wand (wshr b i) 1 = 0) (hj : j = i - 1) : WTI K V V1 o n b j := fun L hL hO hn0 hnl => by
  obtain ⟨k, h1, h2, h3, h4⟩ := h L hL hO hn0 hnl
  have hlen := (hT L hL).1
  have e : ((i.toNat : Nat) : Int) = i := Int.toNat_of_nonneg h0
  have hb : tb b i.toNat = false := (shr1_0 (w := i.toNat) (by omega)).mp (by rw [e]; exact hc)
  have ei : n.toNat - 1 - k = i.toNat := by omega
  refine ⟨k + 1, by omega, by omega, fun u v hu hv => ?_, fun u v hu hv => ?_⟩
  · rw [h3 u v hu hv]
    refine ⟨stk_up, fun q => ?_⟩
    rcases q with q | q
    · exact q
    · rw [ei] at q
      have h9 : tb b i.toNat = true := q.1
      rw [hb] at h9
      cases h9
  · rw [h4 u v hu hv]
    refine ⟨fun q => ⟨by omega, q.2⟩, fun q => ⟨?_, q.2⟩⟩
    refine Classical.byContradiction fun hn => ?_
    have e9 : u = i.toNat := by have := q.1; omega
    have h9 : tb b u = true := q.2.2.1
    rw [e9, hb] at h9
    cases h9
theorem mask_bit {n : Nat} (hn : n ≤ 12) {k : Nat} (hk : k < 32) : tb (wshl 1 (n : Int) - 1) k = decide (k < n) := (by decide +kernel : ∀ n : Nat, n ≤ 12 → ∀ k : Nat, k < 32 → tb (wshl 1 (n : Int) - 1) k = decide (k < n)) n hn k hk
theorem mask_ir {n : Nat} (hn : n ≤ 12) : ir (wshl 1 (n : Int) - 1) := (by decide +kernel : ∀ n : Nat, n ≤ 12 → (-2147483648 ≤ wshl 1 (n : Int) - 1 ∧ wshl 1 (n : Int) - 1 ≤ 2147483647)) n hn
def w4bits (ws : Nat) : Bool := [keyK (0, 1) 4, abase + 134].all fun b => !ws.testBit b
theorem WTI.on {y : Int} {ws : Nat} (h : WTI K V V1 o n b i) (hT : ∀ L, CTL K V o L → CTL K V1 o L) (ho : K o = some (0, 1)) (hW : WT K V1) (h0 : 0 ≤ i) (hi : i < vi V1 o 1) (hc : wand (wshr b i) 1 ≠ 0) (hq : q = vq V1 (vq V1 o 0) i.toNat) (hz : ir (wshl 1 (vi V1 (vq V1 q 2) 3) - 1) → z = wshl 1 (vi V1 (vq V1 q 2) 3) - 1) (hX : X = rgv V1 (vq V1 o 5) 20 i) (hy : y = wand z (wxor X (-1))) (e : V2 = rpv V1 (vq V1 o 4) 20 i y) (hs : STR K V2 V3 o (vq V2 q 2) i y) (hF : FR ws K V2 K V3) (hb : w4bits ws = true) (hj : j = i - 1) : WTI K V V3 o n b j := fun L hL hO hn0 hnl => by
  obtain ⟨k, h1, h2, h3, h4⟩ := h L hL hO hn0 hnl
  have hL1 := hT L hL
  have hlen := hL1.1
  have h20 := (hW.int ho (j := 1) (Nat.le_of_ble_eq_true rfl) rfl).2
  have ei : ((i.toNat : Nat) : Int) = i := Int.toNat_of_nonneg h0
  have hbi : tb b i.toNat = true := (shr1_n0 (w := i.toNat) (by omega)).mp (by rw [ei]; exact hc)
  have ek : n.toNat - 1 - k = i.toNat := by omega
  obtain ⟨t, ht, hcl, hq8, -, -, hTX⟩ := hL1.at h0 hi hq
  obtain ⟨N4, hA4⟩ := (hW.ref ho (j := 4) (Nat.le_of_ble_eq_true rfl) rfl).2
  have n4 : o ≠ vq V1 o 4 := K_ne ho hA4 (by simp)
  have e2 := rpv_put e h0 (by omega)
  have g2 : SAM TXK K V1 V2 := SAM.put ext.rf hA4 e2 (fun kd hk hp => by
    rw [hA4] at hk
    cases hk
    unfold TXK at hp
    simp at hp)
  have qq : vq V2 q 2 = vq V1 q 2 := vq_up e2 (Or.inl (K_ne hq8 hA4 (by simp)))
  have hTB : TBT K V1 (vq V1 q 2) t.2.2 := hTX.tbt
  have hTB2 := hTB.keep g2
  rw [qq] at hs
  have hokl : okLs t.2.2 := fun j r hr => hO i.toNat j r (by rw [hcl]; exact hr)
  have hs' := hs _ hTB2 hokl
  have hl12 := hTB.len
  have hl3 : vi V1 (vq V1 q 2) 3 = (t.2.2.length : Int) := hTB.2.2.2.1
  rw [hl3] at hz
  have ez := hz (mask_ir hl12)
  -- what is struck, ahead of it
  have k4 : vq V2 o 4 = vq V1 o 4 := vq_up e2 (Or.inl n4)
  have k5 : vq V2 o 5 = vq V1 o 5 := vq_up e2 (Or.inl n4)
  obtain ⟨N5, hA5⟩ := (hW.ref ho (j := 5) (Nat.le_of_ble_eq_true rfl) rfl).2
  have s2 : ∀ u, skR V2 o u = skR V1 o u := fun u => by
    unfold skR
    rw [k5]
    exact vi_up e2 (Or.inl (K_ne hA5 hA4 (by simp)))
  rw [← rgv_in (n := 20) h0 (by omega)] at hX
  have hXs : X = skR V1 o i.toNat := hX
  have hyb : ∀ v : Nat, v < 32 → (tb y v = true ↔ v < t.2.2.length ∧ ¬ STK L (Bof b) n.toNat k i.toNat v) := fun v hv => by
    rw [hy, tb_wand, tb_wxor, tb_m1 hv, ez, mask_bit hl12 hv, Bool.and_eq_true, decide_eq_true_eq, ← h3 i.toNat v (by omega) hv, ← hXs]
    constructor
    · rintro ⟨a1, a2⟩
      exact ⟨a1, fun q => by rw [q] at a2; cases a2⟩
    · rintro ⟨a1, a2⟩
      exact ⟨a1, by cases e9 : tb X v with | true => exact absurd e9 a2 | false => rfl⟩
  simp only [w4bits, List.all_cons, List.all_nil, Bool.and_true, Bool.and_eq_true, Bool.not_eq_true'] at hb
  have k43 : vq V3 o 4 = vq V1 o 4 := (vq_eq (hF o _ 4 ho ho hb.1)).trans k4
  have c3 : ∀ u, cnR V3 o u = vi V2 (vq V1 o 4) u := fun u => by
    unfold cnR
    rw [k43]
    exact vi_frA hF hA4 hA4 hb.2
  refine ⟨k + 1, by omega, by omega, fun u v hu hv => ?_, fun u v hu hv => ?_⟩
  · rw [hs' u v hu hv, s2, h3 u v hu hv]
    constructor
    · rintro (q1 | ⟨j1, r, q0, q1, q2, q3, q4, q5, q6⟩)
      · exact stk_up q1
      · refine Or.inr ?_
        rw [ek]
        refine ⟨hbi, j1, r, by rw [hcl]; exact q1, q2, ?_, by omega, q5, q6⟩
        exact ((hyb j1 (by omega)).mp q3).2
    · rintro (q1 | q1)
      · exact Or.inl q1
      · rw [ek] at q1
        obtain ⟨-, j1, r, q1, q2, q3, q4, q5, q6⟩ := q1
        rw [hcl] at q1
        have hj1 := (List.getElem?_eq_some_iff.mp q1).1
        exact Or.inr ⟨j1, r, by omega, q1, q2, (hyb j1 (by omega)).mpr ⟨hj1, q3⟩, by omega, q5, q6⟩
  · rw [c3]
    by_cases eu : u = i.toNat
    · subst eu
      rw [upd2_int e2 (by rw [hy]; exact wand_ir), hyb v hv]
      have hst := stk_iff (L := L) (B := Bof b) (n := n.toNat) (k := k) (u := i.toNat) (v := v) h2 (by omega)
      constructor
      · rintro ⟨a1, a2⟩
        exact ⟨by omega, by omega, hbi, ⟨_, by rw [hcl]; exact List.getElem?_eq_getElem a1⟩, fun q => a2 (hst.mp q)⟩
      · rintro ⟨-, -, -, ⟨r, a1⟩, a2⟩
        rw [hcl] at a1
        exact ⟨(List.getElem?_eq_some_iff.mp a1).1, fun q => a2 (hst.mpr q)⟩
    · rw [vi_up e2 (Or.inr eu)]
      have := h4 u v hu hv
      unfold cnR at this
      rw [this]
      exact ⟨fun q => ⟨by omega, q.2⟩, fun q => ⟨by omega, q.2⟩⟩
theorem WTI.end (h : WTI K V V1 o n b i) (hi : i < 0) : WTC K V V1 o n b := fun L hL hO h0 hn u v hu hv => by
  obtain ⟨k, h1, h2, -, h4⟩ := h L hL hO h0 hn
  rw [h4 u v hu hv]
  exact ⟨fun q => q.2, fun q => ⟨by omega, q⟩⟩
/-! numberOf() -/
def ISK (V : Vmap) (o : Nat) (i j X : Int) : Prop := 0 ≤ i → i < 20 → 0 ≤ j → j < 32 → (X ≠ 0 ↔ tb (cnR V o i.toNat) j.toNat = true)
theorem ISK.mk (hX : X = rgv V (vq V o 4) 20 i) (hY : Y ≠ 0 ↔ wand (wshr X j) 1 ≠ 0) : ISK V o i j Y := fun h0 h1 h2 h3 => by
  rw [← rgv_in (n := 20) h0 (by omega)] at hX
  have e : ((j.toNat : Nat) : Int) = j := Int.toNat_of_nonneg h2
  rw [hY, hX, ← e, shr1_n0 (by omega)]
  rfl
/-- what counts are clauses that are there -/
def CHs (L : List TXL) (C : Nat → Nat → Prop) : Prop := ∀ u v, C u v → ∃ r, (clA L u)[v]? = some r
theorem CTL.len12 (h : CTL K V o L) (u : Nat) : (clA L u).length ≤ 12 := by
  by_cases e : u < L.length
  · have hr := List.getElem?_eq_getElem e
    rw [clA_at hr]
    exact (h.2 _ _ hr).2.2.2.2.tbt.len
  · unfold clA
    rw [List.getElem?_eq_none (Nat.not_lt.mp e)]
    exact Nat.zero_le _
theorem CHs.v12 (h : CHs L C) (hL : CTL K V o L) {u v : Nat} (hC : C u v) : v < 12 ∧ u < L.length := by
  obtain ⟨r, hr⟩ := h u v hC
  have h1 := (List.getElem?_eq_some_iff.mp hr).1
  have h2 := hL.len12 u
  exact ⟨by omega, clA_lt hr⟩
theorem CNQ.chs {B : Nat → Prop} {N : Nat} : CHs L (CNQ L B N) := fun u v h => h.2.2.1
theorem CNF.chs {y : Nat → Int} : CHs L (CNF L y d) := fun u v h => by
  obtain ⟨B, -, h2⟩ := h
  exact h2.2.2.1
def NOI (K : Kmap) (V : Vmap) (o : Nat) (c a b i : Int) : Prop := ∀ L C, CTL K V o L → OKL L → CNB V o C → CHs L C → NUMO L C c a b L.length i
def NII (K : Kmap) (V : Vmap) (o : Nat) (c a b i j : Int) : Prop := j < vi V (vq V (vq V (vq V o 0) i.toNat) 2) 3 ∧ ∀ L C, CTL K V o L → OKL L → CNB V o C → CHs L C → NUMI L C c a b i.toNat j
def NMO (K : Kmap) (V : Vmap) (o : Nat) (c a b X : Int) : Prop := ∀ L C, CTL K V o L → OKL L → CNB V o C → CHs L C → NUMS L C c a b L.length X
theorem NOI.beg (hz : z = vi V o 1 - 1) : NOI K V o c a b z := fun L C hL _ _ _ => NUMO.beg (by rw [hz, hL.1]; exact Int.le_refl _)
theorem NOI.nul (h : NOI K V o c a b i) (hn : TNL V o → i < 0 ∨ vi V o 1 ≤ i) (h0 : 0 ≤ i) (hj : j = i - 1) : NOI K V o c a b j := fun L C hL hO hC hH u v r hu hi hr hm => by
  have h2 := hn hL.tnl
  have h3 := hL.1
  exact h L C hL hO hC hH u v r hu (by omega) hr hm
theorem NOI.skip (h : NOI K V o c a b i) (h0 : 0 ≤ i) (h20 : i < 20) (hX : X = rgv V (vq V o 4) 20 i) (hz : X = 0) (hj : j = i - 1) : NOI K V o c a b j := fun L C hL hO hC hH => (h L C hL hO hC hH).skip (fun v hv => by
  rw [← rgv_in (n := 20) h0 (by omega)] at hX
  have h1 := (hC i.toNat v (by omega) (by have := (hH.v12 hL hv).1; omega)).mpr hv
  have h2 : cnR V o i.toNat = 0 := hX.symm.trans hz
  rw [h2, tb_zero] at h1
  cases h1) h0 hj
theorem NOI.step (h : NOI K V o c a b i) (g : NII K V o c a b i w) (h0 : 0 ≤ i) (hw : w < 0) (hj : j = i - 1) : NOI K V o c a b j := fun L C hL hO hC hH => (h L C hL hO hC hH).step (g.2 L C hL hO hC hH) h0 hw hj
theorem NMO.none (h : NOI K V o c a b i) (hi : i < 0) (hX : X = -1) : NMO K V o c a b X := fun L C hL hO hC hH => NUMS.none (h L C hL hO hC hH) hi hX
theorem NII.beg (h0 : 0 ≤ i) (hi : i < vi V o 1) (hq : q = vq V (vq V o 0) i.toNat) (hz : z = vi V (vq V q 2) 3 - 1) : NII K V o c a b i z := ⟨by rw [← hq]; omega, fun L C hL _ _ _ => by
  obtain ⟨t, ht, hcl, -, -, -, hTX⟩ := hL.at h0 hi hq
  have h3 : vi V (vq V q 2) 3 = (t.2.2.length : Int) := hTX.tbt.2.2.2.1
  exact NUMI.beg (by rw [hcl]; omega)⟩
theorem NII.step (h : NII K V o c a b i j) (hj0 : 0 ≤ j) (h0 : 0 ≤ i) (hi : i < vi V o 1) (hq : q = vq V (vq V o 0) i.toNat) (g : ∀ L l C, CTL K V o L → CNB V o C → TBT K V (vq V q 2) l → ∀ r, l[j.toNat]? = some r → MTQ c a b r → ¬ C i.toNat j.toNat) (hn : n = j - 1) : NII K V o c a b i n := ⟨by have := h.1; omega, fun L C hL hO hC hH => by
  obtain ⟨t, ht, hcl, -, -, -, hTX⟩ := hL.at h0 hi hq
  exact (h.2 L C hL hO hC hH).step hj0 (fun r hr hm => g L t.2.2 C hL hC hTX.tbt r (by rw [← hcl]; exact hr) hm) hn⟩
theorem NII.n0 (h : NII K V o c a b i j) (hj0 : 0 ≤ j) (h0 : 0 ≤ i) (hi : i < vi V o 1) (hq : q = vq V (vq V o 0) i.toNat) (g : TG K V (vq V q 2) j 0 X) (hX : X ≠ c) (hn : n = j - 1) : NII K V o c a b i n := h.step hj0 h0 hi hq (fun L l C _ _ hT r hr hm _ => hX ((hT.g0 hr hj0 g).trans hm.1)) hn
theorem NII.n2 (h : NII K V o c a b i j) (hj0 : 0 ≤ j) (h0 : 0 ≤ i) (hi : i < vi V o 1) (hq : q = vq V (vq V o 0) i.toNat) (g : TG K V (vq V q 2) j 2 X) (hX : X ≠ a) (hc : c = 107) (hn : n = j - 1) : NII K V o c a b i n := h.step hj0 h0 hi hq (fun L l C _ _ hT r hr hm _ => hX ((hT.g2 hr hj0 g).trans (hm.2 hc).1)) hn
theorem NII.n3 (h : NII K V o c a b i j) (hj0 : 0 ≤ j) (h0 : 0 ≤ i) (hi : i < vi V o 1) (hq : q = vq V (vq V o 0) i.toNat) (g : TG K V (vq V q 2) j 3 X) (hX : X ≠ b) (hc : c = 107) (hn : n = j - 1) : NII K V o c a b i n := h.step hj0 h0 hi hq (fun L l C _ _ hT r hr hm _ => hX ((hT.g3 hr hj0 g).trans (hm.2 hc).2)) hn
theorem NII.nc (h : NII K V o c a b i j) (hj0 : 0 ≤ j) (h0 : 0 ≤ i) (hi : i < vi V o 1) (hq : q = vq V (vq V o 0) i.toNat) (h20 : i < 20) (h12 : j < 32) (g : ISK V o i j X) (hX : X = 0) (hn : n = j - 1) : NII K V o c a b i n := h.step hj0 h0 hi hq (fun L l C _ hC hT r hr hm hCC => (g h0 h20 hj0 h12).mpr ((hC i.toNat j.toNat (by omega) (by omega)).mpr hCC) hX) hn
theorem NMO.hit (h : NOI K V o c a b i) (h' : NII K V o c a b i j) (hj0 : 0 ≤ j) (h0 : 0 ≤ i) (hi : i < vi V o 1) (hq : q = vq V (vq V o 0) i.toNat) (h20 : i < 20) (h12 : j < 32) (g0 : TG K V (vq V q 2) j 0 Y) (hY : Y = c) (hm : c ≠ 107 ∨ ∃ A B, A = a ∧ B = b ∧ TG K V (vq V q 2) j 2 A ∧ TG K V (vq V q 2) j 3 B) (g : ISK V o i j Z) (hZ : Z ≠ 0) (g1 : TG K V (vq V q 2) j 1 X) : NMO K V o c a b X := fun L C hL hO hC hH => by
  obtain ⟨t, ht, hcl, -, -, -, hTX⟩ := hL.at h0 hi hq
  obtain ⟨r, hr⟩ := hTX.tbt.at hj0 (by have := h'.1; rw [← hq] at this; exact this)
  have hlen := hL.1
  refine NUMS.hit (h L C hL hO hC hH) (h'.2 L C hL hO hC hH) h0 hj0 (by omega) (by rw [hcl]; exact hr) ⟨(hTX.tbt.g0 hr hj0 g0).symm.trans hY, fun hc => ?_⟩ ((hC i.toNat j.toNat (by omega) (by omega)).mp ((g h0 h20 hj0 h12).mp hZ)) (hTX.tbt.g1 hr hj0 g1)
  rcases hm with hm | ⟨A, B, e1, e2, m1, m2⟩
  · exact absurd hc hm
  · exact ⟨(hTX.tbt.g2 hr hj0 m1).symm.trans e1, (hTX.tbt.g3 hr hj0 m2).symm.trans e2⟩
/-! binds() -/
def BDR (L : List TXL) (B : Nat → Prop) (y d : Int) (i : Nat) : Prop := ∃ t, L[i]? = some t ∧ t.1 ≤ d ∧ d ≤ t.2.1 ∧ (i = 0 ∨ (y ≠ -1 ∧ y ≤ d ∧ ∀ Z, NUMS L (CNQ L B i) 103 0 0 i Z → Z ≤ d - y))
def BDC (K : Kmap) (V : Vmap) (o p : Nat) (i d b X : Int) : Prop := ∀ L, CTL K V o L → OKL L → 0 ≤ i → (X ≠ 0 ↔ BDR L (Bof b) (vi V (vq V p 3) i.toNat) d i.toNat)
theorem BDC.nt (hn : TNL V o → i < 0 ∨ vi V o 1 ≤ i) (hX : X = 0) : BDC K V o p i d b X := fun L hL _ h0 => ⟨fun h => absurd hX h, fun ⟨t, ht, _⟩ => by
  have h1 := hn hL.tnl
  have h2 := (List.getElem?_eq_some_iff.mp ht).1
  have h3 := hL.1
  exfalso
  omega⟩
theorem BDC.nf (hi : i < vi V o 1) (hq : q = vq V (vq V o 0) i.toNat) (hf : d < vi V q 0 ∨ vi V q 1 < d) (hX : X = 0) : BDC K V o p i d b X := fun L hL _ h0 => ⟨fun h => absurd hX h, fun ⟨t, ht, h1, h2, _⟩ => by
  obtain ⟨t', ht', -, -, e0, e1, -⟩ := hL.at h0 hi hq
  rw [ht] at ht'
  cases ht'
  exfalso
  omega⟩
theorem BDC.zz (hi : i < vi V o 1) (hq : q = vq V (vq V o 0) i.toNat) (hf : vi V q 0 ≤ d ∧ d ≤ vi V q 1) (hz : i = 0) (hX : X ≠ 0) : BDC K V o p i d b X := fun L hL _ h0 => ⟨fun _ => by
  obtain ⟨t', ht', -, -, e0, e1, -⟩ := hL.at h0 hi hq
  exact ⟨t', ht', by omega, by omega, Or.inl (by omega)⟩, fun _ => hX⟩
theorem BDC.ny (hY : Y = rgv V (vq V p 3) 20 i) (h20 : i < 20) (hi0 : i ≠ 0) (hc : Y = -1 ∨ d < Y) (hX : X = 0) : BDC K V o p i d b X := fun L hL _ h0 => ⟨fun h => absurd hX h, fun ⟨t, ht, h1, h2, h3⟩ => by
  rw [← rgv_in (n := 20) h0 (by omega)] at hY
  rcases h3 with h3 | ⟨h3, h4, -⟩
  · omega
  · omega⟩
theorem BDC.g (hi : i < vi V o 1) (hq : q = vq V (vq V o 0) i.toNat) (hf : vi V q 0 ≤ d ∧ d ≤ vi V q 1) (hY : Y = rgv V (vq V p 3) 20 i) (h20 : i < 20) (hi0 : i ≠ 0) (hc : Y ≠ -1) (hyd : Y ≤ d) (hym : -1 ≤ Y) (rd : ir d) (hw : WTC K V V1 o i b) (hT : ∀ L, CTL K V o L → CTL K V1 o L) (hz : ir (d - Y) → z = d - Y) (hn : NMO K V1 o 103 0 0 Z) (hX : X ≠ 0 ↔ Z ≤ z) : BDC K V o p i d b X := fun L hL hO h0 => by
  rw [← rgv_in (n := 20) h0 (by omega)] at hY
  have hlen := hL.1
  have ez := hz ⟨by omega, by have := rd.2; omega⟩
  have hN := hn L _ (hT L hL) hO (hw L hL hO h0 (by omega)) CNQ.chs
  have hN2 := hN.cut (m := i.toNat) (fun u v h => h.1) (by omega)
  obtain ⟨t', ht', -, -, e0, e1, -⟩ := hL.at h0 hi hq
  rw [hX]
  constructor
  · intro h1
    refine ⟨t', ht', by omega, by omega, Or.inr ⟨by omega, by omega, fun W hW => ?_⟩⟩
    have := hN2.uniq hW
    omega
  · rintro ⟨t, -, -, -, h3⟩
    rcases h3 with h3 | ⟨-, -, h5⟩
    · omega
    · have := h5 Z hN2
      omega
/-! weigh() -/
abbrev yRow (V : Vmap) (p : Nat) : Nat → Int := fun i => vi V (vq V p 3) i
theorem yrfr {ws : Nat} (hF : FR ws K V K V1) (hp : K p = some (0, 2)) (hW : WT K V) (b1 : ws.testBit (keyK (0, 2) 3) = false) (b2 : ws.testBit (abase + 124) = false) (j : Nat) : vi V1 (vq V1 p 3) j = vi V (vq V p 3) j := by
  obtain ⟨N, hA⟩ := (hW.ref hp (j := 3) (Nat.le_of_ble_eq_true rfl) rfl).2
  rw [vq_eq (hF _ _ 3 hp hp b1)]
  exact vi_frA hF hA hA b2
def CWL (V : Vmap) (o : Nat) (L : List TXL) (y : Nat → Int) (d : Int) : Prop := CNB V o (CNF L y d)
def WGI (K : Kmap) (V : Vmap) (o p : Nat) (d b i : Int) : Prop := ∀ L, CTL K V o L → OKL L → BND L (yRow V p) d (Bof b) i.toNat ∧ ∀ k : Nat, i ≤ (k : Int) → k < 32 → tb b k = false
def WGH (K : Kmap) (V V1 : Vmap) (o p : Nat) (e d : Int) : Prop := (V1 = V ∧ vi V o 6 = e ∧ vi V o 7 = d) ∨ ∀ L, CTL K V o L → OKL L → CWL V1 o L (yRow V p) d ∧ vi V1 o 6 = e ∧ vi V1 o 7 = d
theorem WGH.old (h6 : vi V o 6 = a) (h7 : vi V o 7 = d) : WGH K V V o p a d := Or.inl ⟨rfl, h6, h7⟩
theorem WGI.beg : WGI K V o p d 0 0 := fun L _ _ => ⟨BND.nil, fun k _ _ => tb_zero⟩
theorem BDR.cong {B B' : Nat → Prop} {i : Nat} (hB : ∀ k, k < i → (B k ↔ B' k)) (h : BDR L B a d i) : BDR L B' a d i := by
  have e : (CNQ L B i) = (CNQ L B' i) := funext fun u => funext fun w => propext (cnq_cong hB)
  unfold BDR at h ⊢
  rw [← e]
  exact h
theorem BND.mono {y : Nat → Int} {B : Nat → Prop} {n m : Nat} (h : BND L y d B n) (hm : m ≤ n) : BND L y d B m := fun i hi => h i (by omega)
theorem WGI.no (h : WGI K V o p d b i) (h0 : 0 ≤ i) (h20 : i < 20) (hT : ∀ L, CTL K V o L → CTL K V1 o L) (hy : ∀ j, vi V1 (vq V1 p 3) j = vi V (vq V p 3) j) (g : BDC K V1 o p i d b X) (hX : X = 0) (hn : n = i + 1) : WGI K V o p d b n := fun L hL hO => by
  obtain ⟨h1, h2⟩ := h L hL hO
  have g1 := g L (hT L hL) hO h0
  rw [hy] at g1
  rw [hn, show (i + 1).toNat = i.toNat + 1 by omega]
  have hb := h2 i.toNat (by omega) (by omega)
  refine ⟨h1.more ?_, fun k hk hk2 => h2 k (by omega) hk2⟩
  constructor
  · intro q
    have q' : tb b i.toNat = true := q
    rw [hb] at q'
    cases q'
  · intro q
    exact absurd hX (g1.mpr q)
theorem WGI.yes (h : WGI K V o p d b i) (h0 : 0 ≤ i) (h20 : i < 20) (hT : ∀ L, CTL K V o L → CTL K V1 o L) (hy : ∀ j, vi V1 (vq V1 p 3) j = vi V (vq V p 3) j) (g : BDC K V1 o p i d b X) (hX : X ≠ 0) (hz : z = wor b (wshl 1 i)) (hn : n = i + 1) : WGI K V o p d z n := fun L hL hO => by
  obtain ⟨h1, h2⟩ := h L hL hO
  have g1 := g L (hT L hL) hO h0
  rw [hy] at g1
  rw [hn, show (i + 1).toNat = i.toNat + 1 by omega]
  have e : ((i.toNat : Nat) : Int) = i := Int.toNat_of_nonneg h0
  have hbit : ∀ k : Nat, k < 32 → tb z k = (tb b k || decide (k = i.toNat)) := fun k hk => by
    rw [hz, ← e]
    exact set_bit (by omega) hk
  have hlow : ∀ k, k < i.toNat → (Bof b k ↔ Bof z k) := fun k hk => by
    have h9 := hbit k (by omega)
    rw [decide_eq_false (by omega), Bool.or_false] at h9
    unfold Bof
    rw [h9]
  refine ⟨(h1.cong hlow).more ?_, fun k hk hk2 => ?_⟩
  · constructor
    · intro _
      exact BDR.cong hlow (g1.mp hX)
    · intro _
      show tb z i.toNat = true
      rw [hbit _ (by omega), decide_eq_true rfl, Bool.or_true]
  · rw [hbit k hk2, h2 k (by omega) hk2, decide_eq_false (by omega)]
    rfl
theorem WGH.new (h : WGI K V o p d b i) (hT : ∀ L, CTL K V o L → CTL K V1 o L) (hi : vi V1 o 1 ≤ i) (hw : WTC K V1 V2 o (vi V1 o 1) b) (ho : K o = some (0, 1)) (hW : WT K V2) (e1 : V3 = upd2 V2 o 6 (ti a)) (ra : ir a) (e2 : V4 = upd2 V3 o 7 (ti d)) (rd : ir d) : WGH K V V4 o p a d := Or.inr fun L hL hO => by
  obtain ⟨h1, -⟩ := h L hL hO
  have hlen := (hT L hL).1
  have hB := h1.mono (m := L.length) (by omega)
  obtain ⟨N, hA⟩ := (hW.ref ho (j := 4) (Nat.le_of_ble_eq_true rfl) rfl).2
  have n4 : vq V2 o 4 ≠ o := Ne.symm (K_ne ho hA (by simp))
  have hc : ∀ u, cnR V4 o u = cnR V2 o u := fun u => by
    unfold cnR
    rw [vq_up e2 (Or.inr (by decide)), vq_up e1 (Or.inr (by decide)), vi_up e2 (Or.inl n4), vi_up e1 (Or.inl n4)]
  refine ⟨fun u v hu hv => ?_, by rw [vi_up e2 (Or.inr (by decide)), upd2_int e1 ra], upd2_int e2 rd⟩
  have h9 := hw L (hT L hL) hO (by omega) (by omega) u v hu hv
  rw [hc, h9, hlen, Int.toNat_natCast]
  exact (CNF.iff hB).symm
/-! what was weighed last -/
theorem rowOkT.uniq {R j : Nat} {r r' : CLT} (h : rowOkT V R j r) (g : rowOkT V R j r') : r = r' := by
  obtain ⟨st, en, ⟨a1, a2, a3, a4, -⟩, -⟩ := h
  obtain ⟨st', en', ⟨b1, b2, b3, b4, -⟩, -⟩ := g
  obtain ⟨r1, r2, r3, r4⟩ := r
  obtain ⟨s1, s2, s3, s4⟩ := r'
  simp only at a1 a2 a3 a4 b1 b2 b3 b4
  rw [← a1, ← a2, ← a3, ← a4, ← b1, ← b2, ← b3, ← b4]
theorem TBT.uniq {l' : List CLT} (h : TBT K V t l) (g : TBT K V t l') : l = l' := by
  have e : l.length = l'.length := by
    have h1 := h.2.2.2.1
    have h2 := g.2.2.2.1
    omega
  refine List.ext_getElem? fun j => ?_
  by_cases q : j < l.length
  · have h1 := List.getElem?_eq_getElem q
    have h2 := List.getElem?_eq_getElem (show j < l'.length by omega)
    rw [h1, h2, (h.2.2.2.2.2 _ _ h1).uniq (g.2.2.2.2.2 _ _ h2)]
  · rw [List.getElem?_eq_none (by omega), List.getElem?_eq_none (by omega)]
theorem CTL.uniq {L' : List TXL} (h : CTL K V o L) (g : CTL K V o L') : L = L' := by
  have e : L.length = L'.length := by
    have h1 := h.1
    have h2 := g.1
    omega
  refine List.ext_getElem? fun j => ?_
  by_cases q : j < L.length
  · have h1 := List.getElem?_eq_getElem q
    have h2 := List.getElem?_eq_getElem (show j < L'.length by omega)
    obtain ⟨-, -, a3, a4, a5⟩ := h.2 _ _ h1
    obtain ⟨-, -, b3, b4, b5⟩ := g.2 _ _ h2
    have e5 := TBT.uniq a5.tbt b5.tbt
    rw [h1, h2]
    have e3 := a3.symm.trans b3
    have e4 := a4.symm.trans b4
    rw [Prod.ext e3 (Prod.ext e4 e5)]
  · rw [List.getElem?_eq_none (by omega), List.getElem?_eq_none (by omega)]
theorem CTS.uniq {L' : List TXL} (h : CTS K V x L) (g : CTS K V x L') : L = L' := CTL.uniq h.ctl g.ctl
def CWP (V : Vmap) (x : Nat) (L : List TXL) : Prop := 0 ≤ vi V (lwO V x) 6 ∧ vi V (lwO V x) 6 < vi V x 4 ∧ CWL V (lwO V x) L (yRow V (pty V x (vi V (lwO V x) 6).toNat)) (vi V (lwO V x) 7)
def CWI (K : Kmap) (V : Vmap) (x : Nat) : Prop := PN V x ∧ ∃ L, CTS K V x L ∧ OKL L ∧ (vi V (lwO V x) 7 ≠ -1 → CWP V x L)
theorem CWI.nil (hN : PN V x) (h5 : txN V x = 0) (h7 : vi V (lwO V x) 7 = -1) : CWI K V x := ⟨hN, [], CTS.nil h5, OKL.nil, fun h => absurd h7 h⟩
theorem CWP.same (h : CWP V x L) (hl : lwO V1 x = lwO V x) (h6 : vi V1 (lwO V x) 6 = vi V (lwO V x) 6) (h7 : vi V1 (lwO V x) 7 = vi V (lwO V x) 7) (h4 : vi V x 4 ≤ vi V1 x 4) (hc : ∀ u, cnR V1 (lwO V x) u = cnR V (lwO V x) u) (hy : ∀ p : Nat, (p : Int) < vi V x 4 → ∀ i, yrw V1 x p i = yrw V x p i) : CWP V1 x L := by
  obtain ⟨a3, a4, a5⟩ := h
  unfold CWP
  rw [hl, h6, h7]
  refine ⟨a3, by omega, fun u v hu hv => ?_⟩
  rw [hc]
  have e : yRow V1 (pty V1 x (vi V (lwO V x) 6).toNat) = yRow V (pty V x (vi V (lwO V x) 6).toNat) := funext fun i => hy _ (by omega) i
  rw [e]
  exact a5 u v hu hv
def cwbits (ws : Nat) : Bool := [keyK (0, 1) 4, keyK (0, 1) 6, keyK (0, 1) 7, abase + 134].all fun b => !ws.testBit b
theorem CWP.fr {ws : Nat} (h : CWP V x L) (hF : FR ws K V K1 V1) (hE : ext K K1) (hW : WT K V) (hx : K x = some (0, 10)) (hN : PN V x) (b1 : (!ws.testBit (keyK (0, 10) 1)) = true) (b2 : ycbits ws = true) (b3 : cwbits ws = true) : CWP V1 x L := by
  simp only [cwbits, List.all_cons, List.all_nil, Bool.and_true, Bool.and_eq_true, Bool.not_eq_true'] at b3
  rw [Bool.not_eq_true'] at b1
  obtain ⟨c1, c2, c3, c4⟩ := b3
  have hl := (lw_own hx hW).1
  have hl1 := hE.obj (Or.inl (by decide)) hl
  have s1 : lwO V1 x = lwO V x := vq_eq (hF x _ 1 hx (hE.obj (Or.inl (by decide)) hx) b1)
  obtain ⟨N, hA⟩ := (hW.ref hl (j := 4) (Nat.le_of_ble_eq_true rfl) rfl).2
  have hY := YCS.fr hF hE hW hx hN b2
  refine h.same s1 (vi_fr hF hl hl1 c2) (vi_fr hF hl hl1 c3) (by rw [hY.1]; exact Int.le_refl _) (fun u => ?_) (fun p hp i => (hY.2 p hp).2.2 i)
  unfold cnR
  rw [vq_eq (hF _ _ 4 hl hl1 c1)]
  exact vi_frA hF hA (hE.arr hA) c4
/-- the parties are there -/
theorem PN.fr {ws : Nat} (hN : PN V x) (hF : FR ws K V K1 V1) (hE : ext K K1) (hW : WT K V) (hx : K x = some (0, 10)) (b2 : ycbits ws = true) : PN V1 x := fun p hp hc => by
  have hb := b2
  simp only [ycbits, List.all_cons, List.all_nil, Bool.and_true, Bool.and_eq_true, Bool.not_eq_true'] at hb
  have hY := YCS.fr hF hE hW hx hN b2
  have hp' : (p : Int) < vi V x 4 := by
    have h9 : (p : Int) < vi V1 x 4 := hp
    rw [hY.1] at h9
    exact h9
  obtain ⟨ha, hr, -, -⟩ := yr_at hW hx hN hp'
  have hx1 := hE.obj (Or.inl (by decide)) hx
  have h3 : vq V1 x 3 = vq V x 3 := vq_eq (hF x _ 3 hx hx1 hb.2.1)
  rw [h3, hF _ _ p ha (hE.arr ha) hb.2.2.1, hr] at hc
  cases hc
theorem CWI.fr {ws : Nat} (h : CWI K V x) (hF : FR ws K V K1 V1) (hE : ext K K1) (hW : WT K V) (hx : K x = some (0, 10)) (b1 : txbits ws = true) (b2 : ycbits ws = true) (b3 : cwbits ws = true) : CWI K1 V1 x := by
  obtain ⟨hN, L, h1, h2, h3⟩ := h
  have g : SAM TXK K V V1 := SAM.frx ext.rf hF hE b1
  have hl := (g.law hx hW).1
  have b0 : (!ws.testBit (keyK (0, 10) 1)) = true := by
    simp only [txbits, List.all_cons, List.all_nil, Bool.and_true, Bool.and_eq_true] at b1
    exact b1.2.2.2.2.2.2.2.2.1
  refine ⟨hN.fr hF hE hW hx b2, L, h1.sam hE hx hW g, h2, fun h7 => (h3 ?_).fr hF hE hW hx hN b0 b2 b3⟩
  have b3' := b3
  simp only [cwbits, List.all_cons, List.all_nil, Bool.and_true, Bool.and_eq_true, Bool.not_eq_true'] at b3'
  have hlo := (lw_own hx hW).1
  rw [hl, vi_fr hF hlo (hE.obj (Or.inl (by decide)) hlo) b3'.2.2.1] at h7
  exact h7
/-- a party stays where it is -/
theorem pty_k {ws : Nat} (h : q = vq V (vq V x 3) a.toNat) (ha : 0 ≤ a ∧ a < vi V x 4) (hF : FR ws K V K V1) (hW : WT K V) (hx : K x = some (0, 10)) (hN : PN V x) (b : ycbits ws = true) : q = vq V1 (vq V1 x 3) a.toNat ∧ vi V1 x 4 = vi V x 4 := by
  have hY := YCS.fr hF ext.rf hW hx hN b
  have h9 := (hY.2 a.toNat (by omega)).1
  exact ⟨h.trans h9.symm, hY.1⟩
/-- it is weighed, or was -/
theorem CWI.weigh {ws : Nat} (h : CWI K V x) (hw : WGH K V V1 o q a d) (ho : o = lwO V x) (hq : q = vq V (vq V x 3) a.toNat) (ha : 0 ≤ a ∧ a < vi V x 4) (hF : FR ws K V K V1) (hW : WT K V) (hx : K x = some (0, 10)) (b1 : txbits ws = true) (b2 : ycbits ws = true) : CWI K V1 x ∧ (d ≠ -1 → ∀ L, CTS K V x L → CTL K V1 (lwO V x) L ∧ OKL L ∧ CNB V1 (lwO V x) (CNF L (yrw V x a.toNat) d)) := by
  have h' := h
  obtain ⟨hN, L, h1, h2, h3⟩ := h
  have g : SAM TXK K V V1 := SAM.frx ext.rf hF ext.rf b1
  obtain ⟨s1, -⟩ := g.law hx hW
  have hY := YCS.fr hF ext.rf hW hx hN b2
  have hp : q = pty V x a.toNat := hq
  subst hp ho
  have h1' := h1.sam ext.rf hx hW g
  have h1c : CTL K V1 (lwO V1 x) L := h1'.ctl
  rw [s1] at h1c
  rcases hw with ⟨e, h6, h7⟩ | hw
  · subst e
    refine ⟨h', fun hd L' hL' => ?_⟩
    have e := hL'.uniq h1
    subst e
    obtain ⟨-, -, a5⟩ := h3 (by rw [h7]; exact hd)
    rw [h6, h7] at a5
    exact ⟨h1c, h2, a5⟩
  · obtain ⟨g1, g6, g7⟩ := hw L h1.ctl h2
    have hyr : yRow V1 (pty V1 x a.toNat) = yRow V (pty V x a.toNat) := funext fun i => (hY.2 a.toNat (by omega)).2.2 i
    refine ⟨⟨hN.fr hF ext.rf hW hx b2, L, h1', h2, fun _ => ?_⟩, fun _ L' hL' => ?_⟩
    · unfold CWP
      rw [s1, g6, g7, hY.1, hyr]
      exact ⟨ha.1, ha.2, g1⟩
    · have e := hL'.uniq h1
      subst e
      exact ⟨h1c, h2, g1⟩
end YC
