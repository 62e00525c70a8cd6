/-! ### numbers of the machine's long kind, by name -/
section PVG
variable {M : MRec} {K0 : Kmap} {V0 : Vmap} {Φ : Option Value → Kmap → Vmap → Prop} {K : Kmap} {V : Vmap} {cells slots pc : Nat} {ls : List (Option Value)} {st : List Value}
theorem GO.nameL {X : Int64} (kk : ∀ Z, Z = X → GO M K0 V0 Φ K V cells slots pc ls (.long Z :: st)) : GO M K0 V0 Φ K V cells slots pc ls (.long X :: st) := kk X rfl
theorem GO.loop1M (P : Int → Int64 → Vmap → Prop) (lf : Int → Int64 → List (Option Value)) (μ : Int → Vmap → Nat) (i0 : Int) (s0 : Int64) (h0 : P i0 s0 V) (hls : lf i0 s0 = ls) (step : ∀ (i : Int) (s : Int64) (V : Vmap), P i s V → (∀ (i' : Int) (s' : Int64) (V' : Vmap), P i' s' V' → μ i' V' < μ i V → GO M K0 V0 Φ K V' cells slots pc (lf i' s') st) → GO M K0 V0 Φ K V cells slots pc (lf i s) st) : GO M K0 V0 Φ K V cells slots pc ls st :=
  GO.loop (α := Int × Int64) (fun a => P a.1 a.2) (fun a => lf a.1 a.2) (fun a => μ a.1) (i0, s0) h0 hls (fun a V h ih => step a.1 a.2 V h (fun i' s' V' h' hl => ih (i', s') V' h' hl))
end PVG
/-! ### what was caught beyond what may be, told alike: over -/
section PV
variable {K K1 K2 : Kmap} {V V0 V1 V2 W W1 : Vmap} {x m o t : Nat} {i j n k c s e d p a b w z y T A B D E F G S X Y Z : Int} {R R' : Nat → Int × Int × Int × Int × Int} {L : List TXL}
abbrev tsr (R : Nat → Int × Int × Int × Int × Int) (u v : Nat) : Prop := (R u).2.1 = (R v).2.1 ∧ (R u).2.2.1 = (R v).2.2.1 ∧ (R u).2.2.2.2 / 360 = (R v).2.2.2.2 / 360 ∧ ((R u).2.2.2.2 < (R v).2.2.2.2 ∨ ((R u).2.2.2.2 = (R v).2.2.2.2 ∧ u ≤ v))
def tsum (R : Nat → Int × Int × Int × Int × Int) (v : Nat) : Nat → Int
  | 0 => 0
  | u + 1 => tsum R v u + (if tsr R u v then (R u).2.2.2.1 else 0)
theorem tsum_cong {v q : Nat} (h : ∀ u, u < q → R u = R' u) (hv : R v = R' v) : tsum R v q = tsum R' v q := by
  induction q with
  | zero => rfl
  | succ q ih =>
    have h1 := ih (fun u hu => h u (by omega))
    have h2 := h q (by omega)
    show tsum R v q + (if tsr R q v then (R q).2.2.2.1 else 0) = tsum R' v q + (if tsr R' q v then (R' q).2.2.2.1 else 0)
    by_cases g : tsr R' q v
    · have g' : tsr R q v := by
        unfold tsr
        rw [h2, hv]
        exact g
      rw [if_pos g, if_pos g', h1, h2]
    · have g' : ¬ tsr R q v := fun f => g (by
        unfold tsr at f ⊢
        rw [← h2, ← hv]
        exact f)
      rw [if_neg g, if_neg g', h1]
theorem tsum_rng {v q : Nat} (h : ∀ u, u < q → 0 ≤ (R u).2.2.2.1 ∧ (R u).2.2.2.1 ≤ 1000000) : 0 ≤ tsum R v q ∧ tsum R v q ≤ 1000000 * (q : Int) := by
  induction q with
  | zero =>
    show 0 ≤ (0 : Int) ∧ (0 : Int) ≤ 1000000 * ((0 : Nat) : Int)
    omega
  | succ q ih =>
    have h1 := ih (fun u hu => h u (by omega))
    have h2 := h q (by omega)
    show 0 ≤ tsum R v q + (if tsr R q v then (R q).2.2.2.1 else 0) ∧ tsum R v q + (if tsr R q v then (R q).2.2.2.1 else 0) ≤ 1000000 * ((q + 1 : Nat) : Int)
    by_cases g : tsr R q v
    · rw [if_pos g]
      omega
    · rw [if_neg g]
      omega
theorem tsum_big {v q : Nat} (h : ∀ u, ir (R u).2.2.2.1) : -2147483648 * (q : Int) ≤ tsum R v q ∧ tsum R v q ≤ 2147483648 * (q : Int) := by
  induction q with
  | zero =>
    show -2147483648 * ((0 : Nat) : Int) ≤ (0 : Int) ∧ (0 : Int) ≤ 2147483648 * ((0 : Nat) : Int)
    omega
  | succ q ih =>
    have h2 : -2147483648 ≤ (R q).2.2.2.1 ∧ (R q).2.2.2.1 ≤ 2147483647 := h q
    show -2147483648 * ((q + 1 : Nat) : Int) ≤ tsum R v q + (if tsr R q v then (R q).2.2.2.1 else 0) ∧ tsum R v q + (if tsr R q v then (R q).2.2.2.1 else 0) ≤ 2147483648 * ((q + 1 : Nat) : Int)
    by_cases g : tsr R q v
    · rw [if_pos g]
      omega
    · rw [if_neg g]
      omega
/-! tonnesUpTo(): the class's -/
def sdt (V : Vmap) (x : Nat) : Prop := ∀ i : Nat, (i : Int) < csz V x → (0 ≤ ctg V x i 0 ∧ ctg V x i 0 < vi V x 10) ∧ (0 ≤ ctg V x i 3 ∧ ctg V x i 3 ≤ 1000000) ∧ 0 ≤ ctg V x i 4 ∧ ctg V x i 4 ≤ 3599
def TNI (V : Vmap) (x : Nat) (c t i : Int) : Prop := i ≤ csz V x ∧ (sdt V x → 0 ≤ c → c < csz V x → t = tsum (ctr V x) c.toNat i.toNat)
theorem TNI.beg (hW : WT K V) (hx : K x = some (0, 10)) : TNI V x c 0 0 := ⟨(ct_tab hW (ct_at hW hx)).2.1.2.1, fun _ _ _ => rfl⟩
theorem TNI.skip {t : Int} (h : TNI V x c t i) (h0 : 0 ≤ i) (hi : i < vi V (vq V x 14) 3) (hn : n = i + 1) (hq : sdt V x → 0 ≤ c → c < csz V x → ¬ tsr (ctr V x) i.toNat c.toNat) : TNI V x c t n := by
  have hi' : i < csz V x := hi
  refine ⟨by omega, fun hr c0 c1 => ?_⟩
  rw [h.2 hr c0 c1, hn, show (i + 1).toNat = i.toNat + 1 by omega]
  show tsum (ctr V x) c.toNat i.toNat = tsum (ctr V x) c.toNat i.toNat + (if tsr (ctr V x) i.toNat c.toNat then (ctr V x i.toNat).2.2.2.1 else 0)
  rw [if_neg (hq hr c0 c1)]
  omega
theorem TNI.n1 {t : Int} (h : TNI V x c t i) (h0 : 0 ≤ i) (hi : i < vi V (vq V x 14) 3) (hn : n = i + 1) (hW : WT K V) (hx : K x = some (0, 10)) (g1 : TG K V (vq V x 14) c 4 D) (g2 : TG K V (vq V x 14) i 4 E) (hb : ¬ (E < D ∨ (E = D ∧ i ≤ c))) : TNI V x c t n := h.skip h0 hi hn fun _ c0 c1 q => by
  have e1 := tgv_ct hW hx (by decide) (by decide) c0 c1 g1
  have e2 := tgv_ct hW hx (by decide) (by decide) h0 hi g2
  have k4 : (4 : Int).toNat = 4 := rfl
  rw [k4] at e1 e2
  have q4 : ctg V x i.toNat 4 < ctg V x c.toNat 4 ∨ (ctg V x i.toNat 4 = ctg V x c.toNat 4 ∧ i.toNat ≤ c.toNat) := q.2.2.2
  omega
theorem TNI.n2 {t : Int} (h : TNI V x c t i) (h0 : 0 ≤ i) (hi : i < vi V (vq V x 14) 3) (hn : n = i + 1) (hW : WT K V) (hx : K x = some (0, 10)) (g1 : TG K V (vq V x 14) c 4 D) (g2 : TG K V (vq V x 14) i 4 E) (hy : wdiv E 360 ≠ wdiv D 360) : TNI V x c t n := h.skip h0 hi hn fun hr c0 c1 q => by
  have hi' : i < csz V x := hi
  have e1 := tgv_ct hW hx (by decide) (by decide) c0 c1 g1
  have e2 := tgv_ct hW hx (by decide) (by decide) h0 hi g2
  have k4 : (4 : Int).toNat = 4 := rfl
  rw [k4] at e1 e2
  have r1 := (hr c.toNat (by omega)).2.2
  have r2 := (hr i.toNat (by omega)).2.2
  have q4 : ctg V x i.toNat 4 / 360 = ctg V x c.toNat 4 / 360 := q.2.2.1
  have w1 : wdiv E 360 = E / 360 := wdiv_p ⟨by omega, by omega⟩ (ir_c rfl) (by omega) (by omega)
  have w2 : wdiv D 360 = D / 360 := wdiv_p ⟨by omega, by omega⟩ (ir_c rfl) (by omega) (by omega)
  rw [w1, w2, e1, e2] at hy
  exact hy q4
theorem TNI.n3 {t : Int} (h : TNI V x c t i) (h0 : 0 ≤ i) (hi : i < vi V (vq V x 14) 3) (hn : n = i + 1) (hW : WT K V) (hx : K x = some (0, 10)) (g1 : TG K V (vq V x 14) i 1 A) (g2 : TG K V (vq V x 14) c 1 B) (hy : A ≠ B) : TNI V x c t n := h.skip h0 hi hn fun hr c0 c1 q => by
  have e1 := tgv_ct hW hx (by decide) (by decide) c0 c1 g2
  have e2 := tgv_ct hW hx (by decide) (by decide) h0 hi g1
  have q4 : ctg V x i.toNat 1 = ctg V x c.toNat 1 := q.1
  exact hy (e2.trans (q4.trans e1.symm))
theorem TNI.n4 {t : Int} (h : TNI V x c t i) (h0 : 0 ≤ i) (hi : i < vi V (vq V x 14) 3) (hn : n = i + 1) (hW : WT K V) (hx : K x = some (0, 10)) (g1 : TG K V (vq V x 14) i 2 A) (g2 : TG K V (vq V x 14) c 2 B) (hy : A ≠ B) : TNI V x c t n := h.skip h0 hi hn fun hr c0 c1 q => by
  have e1 := tgv_ct hW hx (by decide) (by decide) c0 c1 g2
  have e2 := tgv_ct hW hx (by decide) (by decide) h0 hi g1
  have q4 : ctg V x i.toNat 2 = ctg V x c.toNat 2 := q.2.1
  exact hy (e2.trans (q4.trans e1.symm))
theorem TNI.hit {t : Int} (h : TNI V x c t i) (h0 : 0 ≤ i) (hi : i < vi V (vq V x 14) 3) (hn : n = i + 1) (hW : WT K V) (hx : K x = some (0, 10)) (g1 : TG K V (vq V x 14) c 4 D) (g2 : TG K V (vq V x 14) i 4 E) (hb : E < D ∨ (E = D ∧ i ≤ c)) (hy : wdiv E 360 = wdiv D 360) (g3 : TG K V (vq V x 14) i 1 A) (g4 : TG K V (vq V x 14) c 1 B) (hk : A = B) (g5 : TG K V (vq V x 14) i 2 F) (g6 : TG K V (vq V x 14) c 2 G) (hs : F = G) (g7 : TG K V (vq V x 14) i 3 S) (hz : ir (t + S) → z = t + S) : TNI V x c z n := by
  have hi' : i < csz V x := hi
  refine ⟨by omega, fun hr c0 c1 => ?_⟩
  have e1 := tgv_ct hW hx (by decide) (by decide) c0 c1 g1
  have e2 := tgv_ct hW hx (by decide) (by decide) h0 hi g2
  have e3 := tgv_ct hW hx (by decide) (by decide) h0 hi g3
  have e4 := tgv_ct hW hx (by decide) (by decide) c0 c1 g4
  have e5 := tgv_ct hW hx (by decide) (by decide) h0 hi g5
  have e6 := tgv_ct hW hx (by decide) (by decide) c0 c1 g6
  have e7 := tgv_ct hW hx (by decide) (by decide) h0 hi g7
  have k1 : (1 : Int).toNat = 1 := rfl
  have k2 : (2 : Int).toNat = 2 := rfl
  have k3 : (3 : Int).toNat = 3 := rfl
  have k4 : (4 : Int).toNat = 4 := rfl
  rw [k4] at e1 e2
  rw [k1] at e3 e4
  rw [k2] at e5 e6
  rw [k3] at e7
  have r1 := (hr c.toNat (by omega)).2.2
  have r2 := hr i.toNat (by omega)
  have w1 : wdiv E 360 = E / 360 := wdiv_p ⟨by omega, by omega⟩ (ir_c rfl) (by omega) (by omega)
  have w2 : wdiv D 360 = D / 360 := wdiv_p ⟨by omega, by omega⟩ (ir_c rfl) (by omega) (by omega)
  rw [w1, w2, e1, e2] at hy
  have hq : tsr (ctr V x) i.toNat c.toNat := ⟨e3.symm.trans (hk.trans e4), e5.symm.trans (hs.trans e6), hy, by
    show ctg V x i.toNat 4 < ctg V x c.toNat 4 ∨ (ctg V x i.toNat 4 = ctg V x c.toNat 4 ∧ i.toNat ≤ c.toNat)
    omega⟩
  have hc := (ct_tab hW (ct_at hW hx)).2.1
  have ht := h.2 hr c0 c1
  have hm := tsum_rng (R := ctr V x) (v := c.toNat) (q := i.toNat) (fun u hu => (hr u (by omega)).2.1)
  have hc2 : csz V x ≤ ((200 : Nat) : Int) := hc.2.2.1
  have k200 : ((200 : Nat) : Int) = 200 := rfl
  have hz1 := hz ⟨by omega, by omega⟩
  rw [hz1, hn, show (i + 1).toNat = i.toNat + 1 by omega]
  show t + S = tsum (ctr V x) c.toNat i.toNat + (if tsr (ctr V x) i.toNat c.toNat then (ctr V x i.toNat).2.2.2.1 else 0)
  rw [if_pos hq, ht, e7]
  rfl
def TNC (V : Vmap) (x : Nat) (c X : Int) : Prop := sdt V x → 0 ≤ c → c < csz V x → X = tsum (ctr V x) c.toNat (csz V x).toNat
theorem TNI.end {t : Int} (h : TNI V x c t i) (hi : vi V (vq V x 14) 3 ≤ i) : TNC V x c t := fun hr c0 c1 => by
  have hi' : csz V x ≤ i := hi
  have e : i = csz V x := by
    have := h.1
    omega
  have h2 := h.2 hr c0 c1
  rw [e] at h2
  exact h2
/-! which catch is over, for a list of texts -/
def OVP (R : Nat → Int × Int × Int × Int × Int) (own : Nat → Int) (L : List TXL) (y : Nat → Nat → Int) (q c : Nat) : Prop := ∃ Z, NUMS L (CNF L (y (own (R c).1.toNat).toNat) (R c).2.2.2.2) 107 (R c).2.1 (R c).2.2.1 L.length Z ∧ Z ≠ -1 ∧ Z < tsum R c q
theorem OVP.cong {own own' : Nat → Int} {y y' : Nat → Nat → Int} {q c : Nat} (hc : R c = R' c) (ht : tsum R c q = tsum R' c q) (ho : own (R c).1.toNat = own' (R c).1.toNat) (hy : ∀ i, i < L.length → y (own (R c).1.toNat).toNat i = y' (own (R c).1.toNat).toNat i) : OVP R own L y q c ↔ OVP R' own' L y' q c := by
  constructor
  · rintro ⟨Z, h1, h2, h3⟩
    refine ⟨Z, ?_, h2, by rw [← ht]; exact h3⟩
    rw [← hc, ← ho]
    exact h1.cong (fun i j => ⟨CNF.yes hy, CNF.yes (fun i hi => (hy i hi).symm)⟩)
  · rintro ⟨Z, h1, h2, h3⟩
    refine ⟨Z, ?_, h2, by rw [ht]; exact h3⟩
    rw [← hc, ← ho] at h1
    exact h1.cong (fun i j => ⟨CNF.yes (fun i hi => (hy i hi).symm), CNF.yes hy⟩)
def OVJ (D : Nat → Prop) (dy : Nat → Int) (b c : Int) : Prop := (b = -1 ∧ ∀ u : Nat, (u : Int) < c → ¬ D u) ∨ (0 ≤ b ∧ b < c ∧ D b.toNat ∧ ∀ u : Nat, (u : Int) < c → D u → dy b.toNat < dy u ∨ (dy b.toNat = dy u ∧ b.toNat ≤ u))
theorem OVJ.beg {D : Nat → Prop} {dy : Nat → Int} : OVJ D dy (-1) 0 := Or.inl ⟨rfl, fun u hu => by omega⟩
theorem OVJ.no {D : Nat → Prop} {dy : Nat → Int} (h : OVJ D dy b c) (hD : ¬ D c.toNat) (c0 : 0 ≤ c) (hn : n = c + 1) : OVJ D dy b n := by
  have hs : ∀ u : Nat, (u : Int) < n → D u → (u : Int) < c := fun u hu q => by
    by_cases e : u = c.toNat
    · rw [e] at q
      exact absurd q hD
    · omega
  rcases h with ⟨h1, h2⟩ | ⟨h1, h2, h3, h4⟩
  · exact Or.inl ⟨h1, fun u hu q => h2 u (hs u hu q) q⟩
  · exact Or.inr ⟨h1, by omega, h3, fun u hu q => h4 u (hs u hu q) q⟩
theorem OVJ.late {D : Nat → Prop} {dy : Nat → Int} (h : OVJ D dy b c) (hb : b ≠ -1) (hd : dy b.toNat ≤ dy c.toNat) (c0 : 0 ≤ c) (hn : n = c + 1) : OVJ D dy b n := by
  rcases h with ⟨h1, h2⟩ | ⟨h1, h2, h3, h4⟩
  · exact absurd h1 hb
  · refine Or.inr ⟨h1, by omega, h3, fun u hu q => ?_⟩
    by_cases e : u = c.toNat
    · rw [e]
      omega
    · exact h4 u (by omega) q
theorem OVJ.hit {D : Nat → Prop} {dy : Nat → Int} (h : OVJ D dy b c) (hb : b = -1 ∨ dy c.toNat < dy b.toNat) (hD : D c.toNat) (c0 : 0 ≤ c) (hn : n = c + 1) : OVJ D dy c n := by
  refine Or.inr ⟨c0, by omega, hD, fun u hu q => ?_⟩
  by_cases e : u = c.toNat
  · rw [e]
    omega
  · rcases h with ⟨h1, h2⟩ | ⟨h1, h2, h3, h4⟩
    · exact absurd q (h2 u (by omega))
    · have h5 := h4 u (by omega) q
      omega
theorem OVJ.lt {D : Nat → Prop} {dy : Nat → Int} (h : OVJ D dy b c) (hb : b ≠ -1) : 0 ≤ b ∧ b < c := by
  rcases h with ⟨h1, -⟩ | ⟨h1, h2, -⟩
  · exact absurd h1 hb
  · exact ⟨h1, h2⟩
theorem OVJ.uniq {D D' : Nat → Prop} {dy dy' : Nat → Int} (h : OVJ D dy X n) (g : OVJ D' dy' Y n) (hD : ∀ u : Nat, (u : Int) < n → (D u ↔ D' u)) (hd : ∀ u : Nat, (u : Int) < n → dy u = dy' u) : X = Y := by
  rcases h with ⟨h1, h2⟩ | ⟨h1, h2, h3, h4⟩
  · rcases g with ⟨g1, g2⟩ | ⟨g1, g2, g3, -⟩
    · omega
    · exact absurd ((hD Y.toNat (by omega)).mpr g3) (h2 Y.toNat (by omega))
  · rcases g with ⟨g1, g2⟩ | ⟨g1, g2, g3, g4⟩
    · exact absurd ((hD X.toNat (by omega)).mp h3) (g2 X.toNat (by omega))
    · have a1 := h4 Y.toNat (by omega) ((hD Y.toNat (by omega)).mpr g3)
      have a2 := g4 X.toNat (by omega) ((hD X.toNat (by omega)).mp h3)
      have a3 := hd X.toNat (by omega)
      have a4 := hd Y.toNat (by omega)
      omega
/-! isOver(), over(): the class's -/
def shw (V : Vmap) (x s : Nat) : Int := vi V (vq V (vq V x 9) s) 0
def sho (V : Vmap) (x : Nat) : Prop := ∀ s : Nat, (s : Int) < vi V x 10 → 0 ≤ shw V x s ∧ shw V x s < vi V x 4
def OVD (V : Vmap) (x : Nat) (L : List TXL) (u : Nat) : Prop := OVP (ctr V x) (shw V x) L (yrw V x) (csz V x).toNat u
def OVC (K : Kmap) (V : Vmap) (x : Nat) (c X : Int) : Prop := SN V x → sdt V x → sho V x → 0 ≤ c → c < csz V x → ∀ L, CTS K V x L → (X ≠ 0 ↔ OVD V x L c.toNat)
theorem OVC.ns (hW : WT K V) (hx : K x = some (0, 10)) (g : TG K V (vq V x 14) c 0 S) (h : SN V x → S < 0 ∨ vi V x 10 ≤ S) : OVC K V x c X := fun hN hr _ c0 c1 => by
  have e := tgv_ct hW hx (by decide) (by decide) c0 c1 g
  have k0 : (0 : Int).toNat = 0 := rfl
  rw [k0] at e
  have r := (hr c.toNat (by omega)).1
  have := h hN
  omega
theorem OVC.np (hW : WT K V) (hx : K x = some (0, 10)) (g : TG K V (vq V x 14) c 0 S) (ho : o = vq V (vq V x 9) S.toNat) (hp : PN V x) (h : PN V x → vi V o 0 < 0 ∨ vi V x 4 ≤ vi V o 0) : OVC K V x c X := fun _ hr hs c0 c1 => by
  have e := tgv_ct hW hx (by decide) (by decide) c0 c1 g
  have k0 : (0 : Int).toNat = 0 := rfl
  rw [k0] at e
  have r := (hr c.toNat (by omega)).1
  have q := hs S.toNat (by omega)
  have e2 : shw V x S.toNat = vi V o 0 := by unfold shw; rw [← ho]
  have := h hp
  omega
theorem OV.num (hW : WT K V) (hW1 : WT K V1) (hx : K x = some (0, 10)) (g0 : TG K V (vq V x 14) c 0 S) (ho : o = vq V (vq V x 9) S.toNat) (gD : TG K V (vq V x 14) c 4 D) (hcw : D ≠ -1 → ∀ L, CTS K V x L → CTL K V1 (lwO V x) L ∧ OKL L ∧ CNB V1 (lwO V x) (CNF L (yrw V x (vi V o 0).toNat) D)) (f : CAM V V1 x) (e14 : vq V1 x 14 = vq V x 14) (gk : TG K V1 (vq V x 14) c 1 A) (gs : TG K V1 (vq V x 14) c 2 B) (hn : NMO K V1 (vq V x 1) 107 A B Z) : sdt V x → 0 ≤ c → c < csz V x → ∀ L, CTS K V x L → NUMS L (CNF L (yrw V x (shw V x (ctr V x c.toNat).1.toNat).toNat) (ctr V x c.toNat).2.2.2.2) 107 (ctr V x c.toNat).2.1 (ctr V x c.toNat).2.2.1 L.length Z := fun hr c0 c1 L hL => by
  have k0 : (0 : Int).toNat = 0 := rfl
  have k1 : (1 : Int).toNat = 1 := rfl
  have k2 : (2 : Int).toNat = 2 := rfl
  have k4 : (4 : Int).toNat = 4 := rfl
  have c1' : c < csz V1 x := by rw [f.1]; exact c1
  have e0 := tgv_ct hW hx (by decide) (by decide) c0 c1 g0
  have eD := tgv_ct hW hx (by decide) (by decide) c0 c1 gD
  rw [← e14] at gk gs
  have e1 := tgv_ct hW1 hx (by decide) (by decide) c0 c1' gk
  have e2 := tgv_ct hW1 hx (by decide) (by decide) c0 c1' gs
  rw [k0] at e0
  rw [k4] at eD
  rw [k1, f.2] at e1
  rw [k2, f.2] at e2
  have r := (hr c.toNat (by omega)).2.2
  have h1 := hn.get (hcw (by omega)) hL
  have e3 : shw V x (ctr V x c.toNat).1.toNat = vi V o 0 := by
    show vi V (vq V (vq V x 9) (ctg V x c.toNat 0).toNat) 0 = vi V o 0
    rw [← e0, ← ho]
  rw [e3]
  show NUMS L (CNF L (yrw V x (vi V o 0).toNat) (ctg V x c.toNat 4)) 107 (ctg V x c.toNat 1) (ctg V x c.toNat 2) L.length Z
  rw [← eD, ← e1, ← e2]
  exact h1
theorem OVC.none (N : sdt V x → 0 ≤ c → c < csz V x → ∀ L, CTS K V x L → NUMS L (CNF L (yrw V x (shw V x (ctr V x c.toNat).1.toNat).toNat) (ctr V x c.toNat).2.2.2.2) 107 (ctr V x c.toNat).2.1 (ctr V x c.toNat).2.2.1 L.length Z) (hZ : Z = -1) (hX : X = 0) : OVC K V x c X := fun _ hr _ c0 c1 L hL => ⟨fun q => absurd hX q, fun ⟨Z', q1, q2, _⟩ => absurd ((q1.uniq (N hr c0 c1 L hL)).trans hZ) q2⟩
theorem OVC.cmp (N : sdt V x → 0 ≤ c → c < csz V x → ∀ L, CTS K V x L → NUMS L (CNF L (yrw V x (shw V x (ctr V x c.toNat).1.toNat).toNat) (ctr V x c.toNat).2.2.2.2) 107 (ctr V x c.toNat).2.1 (ctr V x c.toNat).2.2.1 L.length Z) (hZ : Z ≠ -1) (f : CAM V V1 x) (h10 : vi V1 x 10 = vi V x 10) (ht : TNC V1 x c T) (hX : X ≠ 0 ↔ Z < T) : OVC K V x c X := fun _ hr _ c0 c1 L hL => by
  have hr1 : sdt V1 x := fun i hi => by
    rw [f.1] at hi
    rw [f.2, f.2, f.2, h10]
    exact hr i hi
  have eR : ctr V1 x = ctr V x := funext fun i => w5 (f.2 i 0) (f.2 i 1) (f.2 i 2) (f.2 i 3) (f.2 i 4)
  have hT := ht hr1 c0 (by rw [f.1]; exact c1)
  rw [eR, f.1] at hT
  rw [hX, hT]
  constructor
  · exact fun q => ⟨Z, N hr c0 c1 L hL, hZ, q⟩
  · rintro ⟨Z', q1, q2, q3⟩
    rw [← q1.uniq (N hr c0 c1 L hL)]
    exact q3
def OVE (K : Kmap) (V W : Vmap) (x : Nat) : Prop := (SN V x → SN W x) ∧ CAM V W x ∧ (SN V x → ∀ s : Nat, (s : Int) < vi V x 10 → shw W x s = shw V x s) ∧ vi W x 10 = vi V x 10 ∧ YCS V W x ∧ (∀ L, CTS K V x L → CTS K W x L)
def shbits (ws : Nat) : Bool := [keyK (0, 10) 9, abase + 8, keyK (0, 6) 0].all fun b => !ws.testBit b
theorem OVE.fr {ws : Nat} (hF : FR ws K V K W) (hW : WT K V) (hx : K x = some (0, 10)) (hN : PN V x) (b1 : nnbits 10 9 7 ws = true) (b2 : ctbits ws = true) (b3 : shbits ws = true) (b4 : txbits ws = true) (b5 : ycbits ws = true) (b6 : ws.testBit (keyK (0, 10) 10) = false) : OVE K V W x := by
  refine ⟨fun h => NN.frx 10 9 7 rfl rfl hF ext.rf h hW hx b1, CAM.fr hF ext.rf hW hx b2, fun hS s hs => ?_, vi_fr hF hx hx b6, YCS.fr hF ext.rf hW hx hN b5, fun L h => h.sam ext.rf hx hW (SAM.frx ext.rf hF ext.rf b4)⟩
  simp only [shbits, List.all_cons, List.all_nil, Bool.and_true, Bool.and_eq_true, Bool.not_eq_true'] at b3
  obtain ⟨c9, c8, c0⟩ := b3
  obtain ⟨N, hA⟩ := (hW.ref hx (j := 9) (Nat.le_of_ble_eq_true rfl) rfl).2
  have hl := (hW.len hA).2.2
  have hN10 : N = 10 := by
    rcases hl with h | h
    · exact absurd h (by decide)
    · exact h
  subst hN10
  have hs9 := (hW.int hx (j := 10) (Nat.le_of_ble_eq_true rfl) rfl).2
  have e9 : vq W x 9 = vq V x 9 := vq_eq (hF x _ 9 hx hx c9)
  have e8 : W (vq V x 9) s = V (vq V x 9) s := hF _ _ s hA hA c8
  have hk : K (vq V (vq V x 9) s) = some (0, 6) := by
    rcases hW.nul hA (j := s) (show s < 10 by omega) rfl with h | h
    · exact absurd h (hS s hs)
    · exact h.2
  unfold shw
  rw [e9, vq_eq e8]
  exact vi_fr hF hk hk c0
theorem OVE.iff (f : OVE K V W x) (h : OVC K W x c X) (hN : SN V x) (hr : sdt V x) (ho : sho V x) (c0 : 0 ≤ c) (c1 : c < csz V x) (hL : CTS K V x L) : X ≠ 0 ↔ OVD V x L c.toNat := by
  obtain ⟨f1, f2, f3, f4, f5, f6⟩ := f
  have hr1 : sdt W x := fun i hi => by
    rw [f2.1] at hi
    rw [f2.2, f2.2, f2.2, f4]
    exact hr i hi
  have ho1 : sho W x := fun s hs => by
    rw [f4] at hs
    rw [f3 hN s hs, f5.1]
    exact ho s hs
  have eR : ctr W x = ctr V x := funext fun i => w5 (f2.2 i 0) (f2.2 i 1) (f2.2 i 2) (f2.2 i 3) (f2.2 i 4)
  have g := h (f1 hN) hr1 ho1 c0 (by rw [f2.1]; exact c1) L (f6 L hL)
  rw [g]
  unfold OVD
  rw [eR, f2.1]
  have r1 := (hr c.toNat (by omega)).1
  have q1 : ((ctr V x c.toNat).1.toNat : Int) < vi V x 10 := by
    show ((ctg V x c.toNat 0).toNat : Int) < vi V x 10
    omega
  have q2 := f3 hN _ q1
  have q3 := ho _ q1
  refine OVP.cong rfl rfl q2 (fun i _ => ?_)
  rw [q2]
  exact (f5.2 _ (by omega)).2.2 i
def OVI (K : Kmap) (V : Vmap) (x : Nat) (b c : Int) : Prop := c ≤ csz V x ∧ (SN V x → sdt V x → sho V x → ∀ L, CTS K V x L → OVJ (OVD V x L) (fun u => ctg V x u 4) b c)
theorem OVI.beg (hW : WT K V) (hx : K x = some (0, 10)) : OVI K V x (-1) 0 := ⟨(ct_tab hW (ct_at hW hx)).2.1.2.1, fun _ _ _ _ _ => OVJ.beg⟩
theorem OVI.no (h : OVI K V x b c) (f : OVE K V W x) (hc : OVC K W x c Y) (hY : Y = 0) (c0 : 0 ≤ c) (hi : c < vi W (vq W x 14) 3) (hn : n = c + 1) : OVI K V x b n := by
  have hi' : c < csz W x := hi
  rw [f.2.1.1] at hi'
  exact ⟨by omega, fun hN hr ho L hL => (h.2 hN hr ho L hL).no (fun q => absurd hY ((f.iff hc hN hr ho c0 hi' hL).mpr q)) c0 hn⟩
theorem OVI.late (h : OVI K V x b c) (f : OVE K V W x) (hW : WT K W) (hx : K x = some (0, 10)) (hb : b ≠ -1) (g1 : TG K W (vq W x 14) c 4 D) (g2 : TG K W (vq W x 14) b 4 E) (hd : ¬ D < E) (c0 : 0 ≤ c) (hi : c < vi W (vq W x 14) 3) (hn : n = c + 1) : OVI K V x b n := by
  have hi' : c < csz W x := hi
  have hi2 := hi'
  rw [f.2.1.1] at hi'
  refine ⟨by omega, fun hN hr ho L hL => ?_⟩
  have h1 := h.2 hN hr ho L hL
  have h2 := h1.lt hb
  have e1 := tgv_ct hW hx (by decide) (by decide) c0 hi2 g1
  have e2 := tgv_ct hW hx (by decide) (by decide) h2.1 (by omega) g2
  have k4 : (4 : Int).toNat = 4 := rfl
  rw [k4, f.2.1.2] at e1 e2
  refine h1.late hb ?_ c0 hn
  show ctg V x b.toNat 4 ≤ ctg V x c.toNat 4
  omega
theorem OVI.hit1 (h : OVI K V x b c) (f : OVE K V W x) (hb : b = -1) (hc : OVC K W x c Y) (hY : Y ≠ 0) (c0 : 0 ≤ c) (hi : c < vi W (vq W x 14) 3) (hn : n = c + 1) : OVI K V x c n := by
  have hi' : c < csz W x := hi
  rw [f.2.1.1] at hi'
  exact ⟨by omega, fun hN hr ho L hL => (h.2 hN hr ho L hL).hit (Or.inl hb) ((f.iff hc hN hr ho c0 hi' hL).mp hY) c0 hn⟩
theorem OVI.hit2 (h : OVI K V x b c) (f : OVE K V W x) (hW : WT K W) (hx : K x = some (0, 10)) (hb : b ≠ -1) (g1 : TG K W (vq W x 14) c 4 D) (g2 : TG K W (vq W x 14) b 4 E) (hd : D < E) (hc : OVC K W x c Y) (hY : Y ≠ 0) (c0 : 0 ≤ c) (hi : c < vi W (vq W x 14) 3) (hn : n = c + 1) : OVI K V x c n := by
  have hi' : c < csz W x := hi
  have hi2 := hi'
  rw [f.2.1.1] at hi'
  refine ⟨by omega, fun hN hr ho L hL => ?_⟩
  have h1 := h.2 hN hr ho L hL
  have h2 := h1.lt hb
  have e1 := tgv_ct hW hx (by decide) (by decide) c0 hi2 g1
  have e2 := tgv_ct hW hx (by decide) (by decide) h2.1 (by omega) g2
  have k4 : (4 : Int).toNat = 4 := rfl
  rw [k4, f.2.1.2] at e1 e2
  refine h1.hit (Or.inr ?_) ((f.iff hc hN hr ho c0 hi' hL).mp hY) c0 hn
  show ctg V x c.toNat 4 < ctg V x b.toNat 4
  omega
def OVT (K : Kmap) (V : Vmap) (x : Nat) (X : Int) : Prop := SN V x → sdt V x → sho V x → ∀ L, CTS K V x L → OVJ (OVD V x L) (fun u => ctg V x u 4) X (csz V x)
theorem OVI.end (h : OVI K V x b c) (f : OVE K V W x) (hi : vi W (vq W x 14) 3 ≤ c) : OVT K V x b := fun hN hr ho L hL => by
  have hi' : csz W x ≤ c := hi
  rw [f.2.1.1] at hi'
  have e : c = csz V x := by
    have := h.1
    omega
  rw [← e]
  exact h.2 hN hr ho L hL
/-! the reference's -/
theorem lcm_gt {u v : Int64} (rZ : ir Z) (e1 : v = (Int32.ofInt Z).toInt64) (e2 : y = (lg_cmp u v).toInt) : 0 < y ↔ Z < u.toInt := by
  have h1 := lg_cmp_gt u v
  rw [Int32.lt_iff_toInt_lt, Int64.lt_iff_toInt_lt, ← e2, e1, Jvm.Kit.i64_of_i32, ti_int rZ] at h1
  have e0 : (0 : Int32).toInt = 0 := rfl
  rw [e0] at h1
  exact h1
def ROS (V : Vmap) (m : Nat) (k : Int) (z : Int64) (i : Int) : Prop := i ≤ vi V m 120 ∧ z.toInt = tsum (mcr V m) k.toNat i.toNat
theorem ROS.beg {z : Int64} (h : 0 ≤ vi V m 120) (e : z = Int64.ofNat 0) : ROS V m k z 0 := ⟨h, by rw [e]; rfl⟩
theorem ROS.add {z z1 z2 : Int64} (h : ROS V m k z i) (h0 : 0 ≤ i) (hi : i < vi V m 120) (hm : vi V m 120 ≤ 200) (rS : ir S) (e1 : z1 = (Int32.ofInt S).toInt64) (e2 : z2 = z + z1) (hS : S = if tsr (mcr V m) i.toNat k.toNat then (mcr V m i.toNat).2.2.2.1 else 0) (hn : n = i + 1) : ROS V m k z2 n := by
  refine ⟨by omega, ?_⟩
  have hb := tsum_big (R := mcr V m) (v := k.toNat) (q := i.toNat) (fun u => vi_ir)
  have h2 := h.2
  have rS' : -2147483648 ≤ S ∧ S ≤ 2147483647 := rS
  have e3 : z1.toInt = S := by rw [e1, Jvm.Kit.i64_of_i32, ti_int rS]
  have e4 : z2.toInt = z.toInt + S := by
    rw [e2, ← e3]
    exact Jvm.Kit.i64_add (by omega) (by omega)
  rw [e4, h2, hn, show (i + 1).toNat = i.toNat + 1 by omega]
  show tsum (mcr V m) k.toNat i.toNat + S = tsum (mcr V m) k.toNat i.toNat + (if tsr (mcr V m) i.toNat k.toNat then (mcr V m i.toNat).2.2.2.1 else 0)
  rw [hS]
theorem ROS.no {z z1 z2 : Int64} (h : ROS V m k z i) (h0 : 0 ≤ i) (k0 : 0 ≤ k) (hi : i < vi V m 120) (hm : vi V m 120 ≤ 200) (e1 : z1 = (Int32.ofInt 0).toInt64) (e2 : z2 = z + z1) (hq : ¬ (vi V (vq V m 129) i.toNat = vi V (vq V m 129) k.toNat ∧ vi V (vq V m 130) i.toNat = vi V (vq V m 130) k.toNat ∧ vi V (vq V m 132) i.toNat / 360 = vi V (vq V m 132) k.toNat / 360 ∧ (vi V (vq V m 132) i.toNat < vi V (vq V m 132) k.toNat ∨ (vi V (vq V m 132) i.toNat = vi V (vq V m 132) k.toNat ∧ i ≤ k)))) (hn : n = i + 1) : ROS V m k z2 n :=
  h.add h0 hi hm (ir_c rfl) e1 e2 (by
    rw [if_neg]
    intro q
    have q4 : vi V (vq V m 132) i.toNat < vi V (vq V m 132) k.toNat ∨ (vi V (vq V m 132) i.toNat = vi V (vq V m 132) k.toNat ∧ i.toNat ≤ k.toNat) := q.2.2.2
    exact hq ⟨q.1, q.2.1, q.2.2.1, by omega⟩) hn
theorem ROS.hit {z z1 z2 : Int64} (h : ROS V m k z i) (h0 : 0 ≤ i) (k0 : 0 ≤ k) (hi : i < vi V m 120) (hm : vi V m 120 ≤ 200) (e1 : z1 = (Int32.ofInt (vi V (vq V m 131) i.toNat)).toInt64) (e2 : z2 = z + z1) (h1 : vi V (vq V m 129) i.toNat = vi V (vq V m 129) k.toNat) (h2 : vi V (vq V m 130) i.toNat = vi V (vq V m 130) k.toNat) (h3 : vi V (vq V m 132) i.toNat / 360 = vi V (vq V m 132) k.toNat / 360) (h4 : vi V (vq V m 132) i.toNat < vi V (vq V m 132) k.toNat ∨ (vi V (vq V m 132) i.toNat = vi V (vq V m 132) k.toNat ∧ i ≤ k)) (hn : n = i + 1) : ROS V m k z2 n :=
  h.add h0 hi hm vi_ir e1 e2 (by
    rw [if_pos]
    · rfl
    · exact ⟨h1, h2, h3, by
        show vi V (vq V m 132) i.toNat < vi V (vq V m 132) k.toNat ∨ (vi V (vq V m 132) i.toNat = vi V (vq V m 132) k.toNat ∧ i.toNat ≤ k.toNat)
        omega⟩) hn
def ROD (V : Vmap) (m : Nat) (L : List TXL) (u : Nat) : Prop := OVP (mcr V m) (fun s => ar 94 V m s) L (yrm V m) (vi V m 120).toNat u
def ROE (V W : Vmap) (m : Nat) : Prop := MCM V W m ∧ ar 94 W m = ar 94 V m ∧ YMS V W m ∧ ∀ L, MTS V m L → MTS W m L
def robits (ws : Nat) : Bool := [keyK (0, 11) 94, abase + 73].all fun b => !ws.testBit b
theorem ROE.fr {ws : Nat} (hF : FR ws K V K W) (hW : WT K V) (hm : K m = some (0, 11)) (b1 : mcbits ws = true) (b2 : robits ws = true) (b3 : ymbits ws = true) (b4 : mtbits ws = true) : ROE V W m := by
  have b2' := b2
  simp only [robits, List.all_cons, List.all_nil, Bool.and_true, Bool.and_eq_true, Bool.not_eq_true'] at b2'
  exact ⟨MCM.fr hF ext.rf hW hm b1, arq hF ext.rf hm (hW.ref hm (j := 94) (Nat.le_of_ble_eq_true rfl) rfl).2 b2'.1 b2'.2, YMS.fr hF ext.rf hW hm b3, fun L h => h.fr hF ext.rf hW hm b4⟩
def ROV (V : Vmap) (m : Nat) (b c : Int) : Prop := c ≤ vi V m 120 ∧ ∀ L, MTS V m L → OKL L → OVJ (ROD V m L) (fun u => vi V (vq V m 132) u) b c
theorem ROV.beg (h : 0 ≤ vi V m 120) : ROV V m (-1) 0 := ⟨h, fun _ _ _ => OVJ.beg⟩
theorem ROV.late (h : ROV V m b c) (f : ROE V W m) (hb : b ≠ -1) (hd : vi W (vq W m 132) b.toNat < vi W (vq W m 132) c.toNat ∨ (vi W (vq W m 132) b.toNat = vi W (vq W m 132) c.toNat ∧ b ≤ c)) (c0 : 0 ≤ c) (hi : c < vi W m 120) (hn : n = c + 1) : ROV V m b n := by
  rw [f.1.1] at hi
  refine ⟨by omega, fun L hL hO => (h.2 L hL hO).late hb ?_ c0 hn⟩
  have e1 : vi W (vq W m 132) b.toNat = vi V (vq V m 132) b.toNat := congrArg (fun q : Int × Int × Int × Int × Int => q.2.2.2.2) (f.1.2 b.toNat)
  have e2 : vi W (vq W m 132) c.toNat = vi V (vq V m 132) c.toNat := congrArg (fun q : Int × Int × Int × Int × Int => q.2.2.2.2) (f.1.2 c.toNat)
  show vi V (vq V m 132) b.toNat ≤ vi V (vq V m 132) c.toNat
  omega
theorem ROV.iff {z : Int64} (f : ROE V W m) (hs : ROS W m c z i) (hi : vi W m 120 ≤ i) (hr : RNM W W1 m 107 A B p d Z) (eA : A = vi W (vq W m 129) c.toNat) (eB : B = vi W (vq W m 130) c.toNat) (ep : p = vi W (vq W m 94) (vi W (vq W m 128) c.toNat).toNat) (ed : d = vi W (vq W m 132) c.toNat) (d0 : 0 ≤ d) (d1 : d ≤ 3599) (hL : MTS V m L) (hO : OKL L) : ROD V m L c.toNat ↔ (Z ≠ -1 ∧ Z < z.toInt) := by
  obtain ⟨f1, f2, f3, f4⟩ := f
  have e : i = vi W m 120 := by
    have := hs.1
    omega
  have h1 := hr L (f4 L hL) hO (Or.inl rfl) d0 d1
  have eR : mcr W m = mcr V m := funext f1.2
  have hz := hs.2
  rw [e, eR, f1.1] at hz
  have r1 : vi W (vq W m 129) c.toNat = (mcr V m c.toNat).2.1 := congrArg (fun q : Int × Int × Int × Int × Int => q.2.1) (f1.2 c.toNat)
  have r2 : vi W (vq W m 130) c.toNat = (mcr V m c.toNat).2.2.1 := congrArg (fun q : Int × Int × Int × Int × Int => q.2.2.1) (f1.2 c.toNat)
  have r0 : vi W (vq W m 128) c.toNat = (mcr V m c.toNat).1 := congrArg (fun q : Int × Int × Int × Int × Int => q.1) (f1.2 c.toNat)
  have r4 : vi W (vq W m 132) c.toNat = (mcr V m c.toNat).2.2.2.2 := congrArg (fun q : Int × Int × Int × Int × Int => q.2.2.2.2) (f1.2 c.toNat)
  have r3 : vi W (vq W m 94) (mcr V m c.toNat).1.toNat = ar 94 V m (mcr V m c.toNat).1.toNat := congrFun f2 _
  rw [eA, eB, ep, ed, r1, r2, r0, r4, r3] at h1
  have h2 : NUMS L (CNF L (yrm V m (ar 94 V m (mcr V m c.toNat).1.toNat).toNat) (mcr V m c.toNat).2.2.2.2) 107 (mcr V m c.toNat).2.1 (mcr V m c.toNat).2.2.1 L.length Z := by
    refine h1.cong (fun u v => ⟨CNF.yes (fun q _ => f3.2 _ q), CNF.yes (fun q _ => (f3.2 _ q).symm)⟩)
  rw [hz]
  constructor
  · rintro ⟨Z', q1, q2, q3⟩
    have e9 := q1.uniq h2
    subst e9
    exact ⟨q2, q3⟩
  · rintro ⟨q2, q3⟩
    exact ⟨Z, h2, q2, q3⟩
theorem ROV.no {z : Int64} (h : ROV V m b c) (f : ROE V W m) (hs : ROS W m c z i) (hi : vi W m 120 ≤ i) (hr : RNM W W1 m 107 A B p d Z) (eA : A = vi W (vq W m 129) c.toNat) (eB : B = vi W (vq W m 130) c.toNat) (ep : p = vi W (vq W m 94) (vi W (vq W m 128) c.toNat).toNat) (ed : d = vi W (vq W m 132) c.toNat) (d0 : 0 ≤ d) (d1 : d ≤ 3599) (hq : ¬ (Z ≠ -1 ∧ Z < z.toInt)) (c0 : 0 ≤ c) (hc : c < vi W m 120) (hn : n = c + 1) : ROV V m b n := by
  rw [f.1.1] at hc
  exact ⟨by omega, fun L hL hO => (h.2 L hL hO).no (fun q => hq ((ROV.iff f hs hi hr eA eB ep ed d0 d1 hL hO).mp q)) c0 hn⟩
theorem ROV.hit {z : Int64} (h : ROV V m b c) (f : ROE V W m) (hs : ROS W m c z i) (hi : vi W m 120 ≤ i) (hr : RNM W W1 m 107 A B p d Z) (eA : A = vi W (vq W m 129) c.toNat) (eB : B = vi W (vq W m 130) c.toNat) (ep : p = vi W (vq W m 94) (vi W (vq W m 128) c.toNat).toNat) (ed : d = vi W (vq W m 132) c.toNat) (d0 : 0 ≤ d) (d1 : d ≤ 3599) (hq : Z ≠ -1 ∧ Z < z.toInt) (hb : b = -1 ∨ ¬ (vi W (vq W m 132) b.toNat < vi W (vq W m 132) c.toNat ∨ (vi W (vq W m 132) b.toNat = vi W (vq W m 132) c.toNat ∧ b ≤ c))) (c0 : 0 ≤ c) (hc : c < vi W m 120) (hn : n = c + 1) : ROV V m c n := by
  rw [f.1.1] at hc
  refine ⟨by omega, fun L hL hO => ?_⟩
  have h1 := h.2 L hL hO
  refine h1.hit ?_ ((ROV.iff f hs hi hr eA eB ep ed d0 d1 hL hO).mpr hq) c0 hn
  rcases hb with hb | hb
  · exact Or.inl hb
  · by_cases q : b = -1
    · exact Or.inl q
    · have h2 := h1.lt q
      have e1 : vi W (vq W m 132) b.toNat = vi V (vq V m 132) b.toNat := congrArg (fun q : Int × Int × Int × Int × Int => q.2.2.2.2) (f.1.2 b.toNat)
      have e2 : vi W (vq W m 132) c.toNat = vi V (vq V m 132) c.toNat := congrArg (fun q : Int × Int × Int × Int × Int => q.2.2.2.2) (f.1.2 c.toNat)
      refine Or.inr ?_
      show vi V (vq V m 132) c.toNat < vi V (vq V m 132) b.toNat
      omega
def ROT (V : Vmap) (m : Nat) (X : Int) : Prop := ∀ L, MTS V m L → OKL L → OVJ (ROD V m L) (fun u => vi V (vq V m 132) u) X (vi V m 120)
theorem ROV.end (h : ROV V m b c) (f : ROE V W m) (hi : vi W m 120 ≤ c) : ROT V m b := fun L hL hO => by
  rw [f.1.1] at hi
  have e : c = vi V m 120 := by
    have := h.1
    omega
  rw [← e]
  exact h.2 L hL hO
/-! the ships' parties, told alike -/
def SHE (V : Vmap) (x m : Nat) : Prop := ∀ s : Nat, (s : Int) < vi V x 10 → shw V x s = ar 94 V m s ∧ 0 ≤ shw V x s ∧ shw V x s < vi V x 4
theorem SHE.nil (h : vi V x 10 = 0) : SHE V x m := fun s hs => by omega
theorem SHE.frx {ws : Nat} (h : SHE V x m) (hF : FR ws K V K1 V1) (hE : ext K K1) (hW : WT K V) (hx : K x = some (0, 10)) (hm : K m = some (0, 11)) (hN : SN V x) (h10 : vi V1 x 10 = vi V x 10) (h4 : vi V x 4 ≤ vi V1 x 4) (b3 : shbits ws = true) (b2 : robits ws = true) : SHE V1 x m := fun s hs => by
  rw [h10] at hs
  simp only [robits, List.all_cons, List.all_nil, Bool.and_true, Bool.and_eq_true, Bool.not_eq_true'] at b2
  have e94 := arq hF hE hm (hW.ref hm (j := 94) (Nat.le_of_ble_eq_true rfl) rfl).2 b2.1 b2.2
  simp only [shbits, List.all_cons, List.all_nil, Bool.and_true, Bool.and_eq_true, Bool.not_eq_true'] at b3
  obtain ⟨c9, c8, c0⟩ := b3
  obtain ⟨N, hA⟩ := (hW.ref hx (j := 9) (Nat.le_of_ble_eq_true rfl) rfl).2
  have hl := (hW.len hA).2.2
  have hN10 : N = 10 := by
    rcases hl with h | h
    · exact absurd h (by decide)
    · exact h
  subst hN10
  have hs9 := (hW.int hx (j := 10) (Nat.le_of_ble_eq_true rfl) rfl).2
  have hk : K (vq V (vq V x 9) s) = some (0, 6) := by
    rcases hW.nul hA (j := s) (show s < 10 by omega) rfl with h | h
    · exact absurd h (hN s hs)
    · exact h.2
  have e9 : vq V1 x 9 = vq V x 9 := vq_eq (hF x _ 9 hx (hE.obj (Or.inl (by decide)) hx) c9)
  have e8 : V1 (vq V x 9) s = V (vq V x 9) s := hF _ _ s hA (hE.arr hA) c8
  have es : shw V1 x s = shw V x s := by
    unfold shw
    rw [e9, vq_eq e8]
    exact vi_fr hF hk (hE.obj (Or.inl (by decide)) hk) c0
  have h1 := h s hs
  rw [es, e94]
  exact ⟨h1.1, h1.2.1, by omega⟩
end PV
