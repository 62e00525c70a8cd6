/-! ### the class's reader: conditions and clauses -/
section T7
variable {K : Kmap} {V V0 V1 V2 V3 V4 V5 V6 : Vmap} {x m d d1 : Nat} {l : List CLT} {row : CLT} {st en : Int} {f g : (Nat → Int) → Nat → PS → PE}
/-- condition(): what it reads, and what it leaves in the row -/
def CNT (K : Kmap) (V V1 : Vmap) (x : Nat) : Prop := CR K V V1 x (fun src e => conF src e) ∧ ∀ m l row st en, CLP K V x m l row st en → CLP K V1 x m l row (scN V x) (scN V1 x)
theorem CSame.rf : CSame V V x := ⟨rfl, rfl, fun _ _ => rfl, rfl, fun _ => rfl⟩
theorem rset4 {n : Int} : rset row 4 n = row := by unfold rset; simp
theorem rset5 {n : Int} : rset row 5 n = row := by unfold rset; simp
theorem STT.scN {c n : Int} (h : STT K V V1 x c n) (hx : K x = some (0, 4)) (hW : WT K V) : scN V1 x = scN V x := by
  obtain ⟨hT, hC, ⟨N, hR⟩, -⟩ := sc_own hx hW
  rcases h.1 with rfl | ⟨j, e1⟩
  · rfl
  · have e2 : V1 = upd2 V (cbR V x) j (ti n) := e1
    unfold Jvm.Pilot.@@N@@.scN
    rw [(h.sfr hx hW).1]
    exact vi_up e2 (Or.inl (K_ne hT hR (by simp)))
theorem CNT.mk {ws9 ws15 ws19 ws35 ws47 : Nat} {v : Value} {n9 n47 : Int} (h9 : STT K V V1 x 4 n9) (e9 : n9 = scN V x) (hx : K x = some (0, 4)) (hW : WT K V) (hW1 : WT K V1) (hF9 : FR ws9 K V K V1) (hb9 : scbits ws9 = true) (h15 : CRg K V1 V2 x 0 1 0 (depS 40 d)) (hd : d = 0) (hF15 : FR ws15 K V1 K V2) (hc15 : clbits ws15 = true) (hW2 : WT K V2) (h19 : CR K V2 V3 x (fun src e => parD src e d1)) (hd1 : d1 = 1) (hF19 : FR ws19 K V2 K V3) (hc19 : clbits ws19 = true) (hW3 : WT K V3) (e4 : V4 = upd2 V3 x 4 v) (hW4 : WT K V4) (h35 : CRg K V4 V5 x 0 1 0 (fun src e => tak src e 41)) (hF35 : FR ws35 K V4 K V5) (hc35 : clbits ws35 = true) (hW5 : WT K V5) (h47 : STT K V5 V6 x 5 n47) (e47 : n47 = scN V5 x) (hF47 : FR ws47 K V5 K V6) (hb47 : scbits ws47 = true) : CNT K V V6 x := by
  subst hd hd1
  have r9 : ir (scN V x) := vi_ir
  have r47 : ir (scN V5 x) := vi_ir
  subst e9 e47
  refine ⟨?_, fun m l row st en hp => ?_⟩
  · refine ((((((CRg.fr hF9 hx hW hb9 (h9.sfr hx hW)).bnd h15 (a := 0) (b := 0) (l := 0) (by omega) (by omega) (by omega)).bnd h19 (a := 0) (b := 0) (l := 0) (by omega) (by omega) (by omega)).bnd (CRg.dep hx hW3 e4) (a := 0) (b := 0) (l := 0) (by omega) (by omega) (by omega)).bnd h35 (a := 0) (b := 0) (l := 0) (by omega) (by omega) (by omega)).bnd (CRg.fr hF47 hx hW5 hb47 (h47.sfr hx hW5)) (a := 0) (b := 0) (l := 0) (by omega) (by omega) (by omega)).to fun src e s hs => ?_
    rw [bnd_id, bnd_id, bnd_ok]
    unfold depS conF
    by_cases hr : rdS src e s.1 = 40
    · rw [if_pos hr, if_pos hr, if_neg (by decide), bnd_ok]
      rfl
    · rw [if_neg hr, if_neg hr, bnd_er, bnd_er]
  · have p1 := h9.clp hx hW (by decide) (by decide) r9 hp
    rw [if_pos rfl, if_neg (by decide), rset4] at p1
    have p2 := p1.same (CSame.fr hF15 hx hW1 hc15)
    have p3 := p2.same (CSame.fr hF19 hx hW2 hc19)
    have p4 := p3.same (CSame.put hx hW3 e4 (by decide))
    have p5 := p4.same (CSame.fr hF35 hx hW4 hc35)
    have p6 := h47.clp hx hW5 (by decide) (by decide) r47 p5
    rw [if_neg (by decide), if_pos rfl, rset5] at p6
    rw [h47.scN hx hW5]
    exact p6
/-! clauses, step by step -/
/-- the row, and whether its condition stands -/
def CLQ (K : Kmap) (V : Vmap) (x : Nat) (l : List CLT) (row : CLT) (a : Bool) : Prop := ∃ st en, CLP K V x 12 l row st en ∧ (a = true → st < en) ∧ (a = false → en ≤ st)
theorem CLQ.same {a : Bool} (h : CLQ K V x l row a) (g : CSame V V1 x) : CLQ K V1 x l row a := by
  obtain ⟨st, en, h1, h2⟩ := h
  exact ⟨st, en, h1.same g, h2⟩
def CLI (K : Kmap) (V0 V : Vmap) (x : Nat) (rest : (Nat → Int) → Nat → PS → PCl) (row : CLT) (a : Bool) : Prop := ∀ src e l s, AT K V0 x src e s → s.2.1 ≤ s.1 → CLC K V0 x 12 l → SFR V0 V x ∧ ((∃ s1, AT K V x src e s1 ∧ (s1.2.1 + s.1 ≤ s1.1 + s.2.1 ∧ s.2.1 ≤ s1.2.1) ∧ CLQ K V x l row a ∧ claS src e l.length s = rest src e s1) ∨ ∃ q, FELL K V x src e q ∧ claS src e l.length s = .error q)
/-- a clause: all that clause() does -/
def CLS (K : Kmap) (V V1 : Vmap) (x : Nat) : Prop := ∀ src e l s, AT K V x src e s → s.2.1 ≤ s.1 → CLC K V x 12 l → SFR V V1 x ∧ match claS src e l.length s with
  | .ok r => AT K V1 x src e r.1 ∧ (r.1.2.1 + s.1 ≤ r.1.1 + s.2.1 ∧ s.2.1 ≤ r.1.2.1) ∧ CLC K V1 x 12 (l ++ [r.2])
  | .error q => FELL K V1 x src e q
variable {rest rest1 : (Nat → Int) → Nat → PS → PCl}
theorem CLS.e1 {w : Int} (hc : isCL (sgC V x) = false) (h : RFS V V1 x 1 w) (hx : K x = some (0, 4)) (hW : WT K V) (rw_ : ir w) (hw : w = vi V x 3) : CLS K V V1 x := fun src e l s hs hn hl => by
  refine ⟨h.sfr hx hW (ir_c rfl), ?_⟩
  have e1 : claS src e l.length s = .error (1, s.1) := by
    unfold claS
    rw [if_neg (by rw [← hs.sg, hc]; decide)]
  rw [e1]
  exact ((CR0.rfs h hx hW (ir_c rfl) (by decide) rw_ hw) src e).1 s hs (by omega)
theorem CLS.e4 {w : Int} {a X : Int} (hc : isCL (sgC V x) = true) (hap : APP K V V1 (cbT V x) a 0 0 0 0 X) (hX : X = -1) (h : RFS V1 V2 x 4 w) (hx : K x = some (0, 4)) (hW : WT K V) (rw_ : ir w) (hw : w = vi V1 x 3) : CLS K V V2 x := fun src e l s hs hn hl => by
  have hl' := hl
  obtain ⟨hRM, hm1, hm12, hn1, -, -⟩ := hl
  rcases hap 6 12 (by decide) (by decide) hRM hm1 with ⟨q1, -, rfl⟩ | ⟨q1, q2, -⟩
  · refine ⟨h.sfr hx hW (ir_c rfl), ?_⟩
    have hn2 : vi V1 (cbT V1 x) 3 = ((l.length : Nat) : Int) := hn1
    have e1 : claS src e l.length s = .error (4, s.1) := by
      unfold claS
      rw [if_pos (by rw [← hs.sg]; exact hc), if_pos (by omega)]
    rw [e1]
    exact ((CR0.rfs h hx hW (ir_c rfl) (by decide) rw_ hw) src e).1 s hs (by omega)
  · have := hRM.2.1
    omega
theorem CLI.beg {a X Z : Int} (hc : isCL (sgC V x) = true) (ha : a = sgC V x) (hap : APP K V V1 (cbT V x) a 0 0 0 0 X) (hX : X ≠ -1) (hx : K x = some (0, 4)) (hW : WT K V) (hW1 : WT K V1) {ws : Nat} (hF : FR ws K V K V1) (hb : scbits ws = true) (ra : ir a) (e2 : V2 = upd2 V1 x 3 (ti Z)) (hZ : ir (vi V1 x 3 + 1) → Z = vi V1 x 3 + 1) (rZ : ir Z) : CLI K V V2 x (fun src e => claG src e a) (a, 0, 0, 0) false := fun src e l s hs hn hl => by
  obtain ⟨s1, p1⟩ := APP.clp hap hX hx hW ra hl
  have hlm := p1.2.2
  have hfr := (CRg.fr hF hx hW hb s1)
  have a1 : AT K V1 x src e s := ((hfr.1 src e).1 s hs (by omega)).1
  have hsg : sgC V1 x = a := by rw [a1.sg, ha, hs.sg]
  have hne : a ≠ -1 := by
    rintro rfl
    rw [← ha] at hc
    exact absurd hc (by decide)
  have had := CRg.adv hx hW1 hsg hne e2 hZ rZ
  have r : RES K V2 x src e 1 0 s.2.1 s.1 (tak src e a s) := (had.1 src e).1 s a1 (by omega)
  have ht : tak src e a s = .ok (adv s) := by
    unfold tak
    rw [if_pos (by rw [← a1.sg]; exact hsg)]
  rw [ht] at r
  refine ⟨s1.tr had.2, Or.inl ⟨adv s, r.1, by show s.2.1 + s.1 ≤ s.1 + 1 + s.2.1 ∧ s.2.1 ≤ s.2.1; omega, ⟨0, 0, p1.same (CSame.put hx hW1 e2 (by decide)), fun q => Bool.noConfusion q, fun _ => Int.le_refl _⟩, ?_⟩⟩
  unfold claS
  rw [if_pos (by rw [← hs.sg]; exact hc), if_neg (by omega), ← hs.sg, ← ha]
theorem CLI.to {b : Bool} (h : CLI K V V1 x rest row b) (e : ∀ src e s, rest src e s = rest1 src e s) : CLI K V V1 x rest1 row b := fun src e0 l s hs hn hl => by
  obtain ⟨h1, h2⟩ := h src e0 l s hs hn hl
  refine ⟨h1, ?_⟩
  rcases h2 with ⟨s1, a1, a2, a3, a4⟩ | h2
  · exact Or.inl ⟨s1, a1, a2, a3, by rw [a4, e]⟩
  · exact Or.inr h2
/-- a step that leaves the table -/
theorem CLI.cr {a k : Nat} {b : Bool} (h : CLI K V V1 x (fun src e s => bnc (f src e s) (rest1 src e)) row b) (hc : CRg K V1 V2 x 0 a k f) (hk : k ≤ a) (hS : CSame V1 V2 x) : CLI K V V2 x rest1 row b := fun src e l s hs hn hl => by
  obtain ⟨h1, h2⟩ := h src e l s hs hn hl
  refine ⟨h1.tr hc.2, ?_⟩
  rcases h2 with ⟨s1, a1, a2, a3, a4⟩ | ⟨q, a1, a2⟩
  · try dsimp only at a4
    have r := (hc.1 src e).1 s1 a1 (by omega)
    cases hf : f src e s1 with
    | ok s2 =>
      rw [hf] at r a4
      exact Or.inl ⟨s2, r.1, by have := r.2; omega, a3.same hS, a4⟩
    | error q =>
      rw [hf] at r a4
      exact Or.inr ⟨q, r, a4⟩
  · exact Or.inr ⟨q, (hc.1 src e).2 q a1, a2⟩
/-- a number -/
theorem CLI.num {most X : Int} {b : Bool} {rn : (Nat → Int) → Nat → Int → PS → PCl} (h : CLI K V V1 x (fun src e s => bnn (numQ src e most s) (fun s1 n => rn src e n s1)) row b) (hd : DGT K V1 V2 x most X) (hS : CSame V1 V2 x) : CLI K V V2 x (fun src e => rn src e X) row b := fun src e l s hs hn hl => by
  obtain ⟨h1, h2⟩ := h src e l s hs hn hl
  refine ⟨h1.tr hd.1.2, ?_⟩
  rcases h2 with ⟨s1, a1, a2, a3, a4⟩ | ⟨q, a1, a2⟩
  · try dsimp only at a4
    have r := (hd.1.1 src e).1 s1 a1 (by omega)
    have r' : RES K V2 x src e 1 0 s1.2.1 s1.1 (numP src e most s1) := r
    unfold numP at r'
    cases hf : numS src e most s1.1 with
    | ok p =>
      have hX := hd.2 src e s1 p a1 hf
      have e1 : numQ src e most s1 = .ok ((p.1, s1.2), p.2) := by unfold numQ; rw [hf]
      rw [hf] at r'
      rw [e1] at a4
      refine Or.inl ⟨(p.1, s1.2), r'.1, by have := r'.2; omega, a3.same hS, ?_⟩
      rw [a4, hX]
      rfl
    | error q =>
      have e1 : numQ src e most s1 = .error q := by unfold numQ; rw [hf]
      rw [hf] at r'
      rw [e1] at a4
      exact Or.inr ⟨q, r', a4⟩
  · exact Or.inr ⟨q, (hd.1.1 src e).2 q a1, a2⟩
/-- a number of the row is put -/
theorem CLI.set {c n : Int} {ws : Nat} {b : Bool} (h : CLI K V V1 x rest row b) (hs : STT K V1 V2 x c n) (hx : K x = some (0, 4)) (hW : WT K V1) (hF : FR ws K V1 K V2) (hb : scbits ws = true) (c0 : 0 ≤ c) (c5 : c ≤ 3) (rn : ir n) : CLI K V V2 x rest (rset row c n) b := fun src e l s h0 hn hl => by
  obtain ⟨h1, h2⟩ := h src e l s h0 hn hl
  have hfr := CRg.fr hF hx hW hb (hs.sfr hx hW)
  refine ⟨h1.tr hfr.2, ?_⟩
  rcases h2 with ⟨s1, a1, a2, a3, a4⟩ | ⟨q, a1, a2⟩
  · try dsimp only at a4
    have r := (hfr.1 src e).1 s1 a1 (by omega)
    obtain ⟨st, en, a5, a6⟩ := a3
    have p := hs.clp hx hW c0 (by omega) rn a5
    rw [if_neg (by omega), if_neg (by omega)] at p
    exact Or.inl ⟨s1, r.1, a2, ⟨st, en, p, a6⟩, a4⟩
  · exact Or.inr ⟨q, (hfr.1 src e).2 q a1, a2⟩
/-- a condition: the row knows where it begins and ends -/
theorem CLI.con {b : Bool} (h : CLI K V V1 x (fun src e s => bnc (conF src e s) (rest1 src e)) row b) (hc : CNT K V1 V2 x) : CLI K V V2 x rest1 row true := fun src e l s hs hn hl => by
  obtain ⟨h1, h2⟩ := h src e l s hs hn hl
  refine ⟨h1.tr hc.1.2, ?_⟩
  rcases h2 with ⟨s1, a1, a2, a3, a4⟩ | ⟨q, a1, a2⟩
  · try dsimp only at a4
    have r : RES K V2 x src e 0 0 s1.2.1 s1.1 (conF src e s1) := (hc.1.1 src e).1 s1 a1 (by omega)
    cases hf : conF src e s1 with
    | ok s2 =>
      rw [hf] at r a4
      have hi := conF_inc _ _ hf
      have g1 : (scN V1 x).toNat = s1.2.1 := by have := a1.2.2.1; rw [← this]; rfl
      have g2 : (scN V2 x).toNat = s2.2.1 := by have := r.1.2.2.1; rw [← this]; rfl
      have g3 := a1.2.2.2.2.1
      have g4 := r.1.2.2.2.2.1
      obtain ⟨st, en, a5, a6⟩ := a3
      exact Or.inl ⟨s2, r.1, by have := r.2; omega, ⟨_, _, hc.2 _ _ _ _ _ a5, fun _ => by omega, fun q => Bool.noConfusion q⟩, a4⟩
    | error q =>
      rw [hf] at r a4
      exact Or.inr ⟨q, r, a4⟩
  · exact Or.inr ⟨q, (hc.1.1 src e).2 q a1, a2⟩
/-- a row is whole -/
theorem CLP.fin (h : CLP K V x m l row st en) (h1 : askB row.1 → st < en) (h2 : ¬ askB row.1 → en ≤ st) : CLC K V x m (l ++ [row]) := by
  obtain ⟨⟨a1, a2, a3, a4, a5, a6⟩, b, c⟩ := h
  have e1 : (l ++ [row]).length = l.length + 1 := by simp
  unfold CLC
  rw [e1]
  refine ⟨a1, a2, a3, a4, fun j r hr => ?_, a6⟩
  by_cases hj : j < l.length
  · rw [List.getElem?_append_left hj] at hr
    exact a5 j r hr
  · have hj2 : j = l.length := by
      have := (List.getElem?_eq_some_iff.mp hr).1
      omega
    subst hj2
    have e2 : (l ++ [row])[l.length]? = some row := by simp
    rw [e2] at hr
    cases hr
    exact ⟨st, en, b, h1, h2⟩
theorem CLI.end {b : Bool} {r : CLT} (h : CLI K V V1 x (fun _ _ s => .ok (s, r)) row b) (hr : row = r) (hb : b = true ↔ askB row.1) : CLS K V V1 x := fun src e l s hs hn hl => by
  obtain ⟨h1, h2⟩ := h src e l s hs hn hl
  refine ⟨h1, ?_⟩
  rcases h2 with ⟨s1, a1, a2, ⟨st, en, a5, a6, a7⟩, a4⟩ | ⟨q, a1, a2⟩
  · rw [a4]
    show AT K V1 x src e s1 ∧ _ ∧ CLC K V1 x 12 (l ++ [r])
    rw [← hr]
    refine ⟨a1, a2, a5.fin (fun q => a6 (hb.mpr q)) (fun q => a7 ?_)⟩
    cases hb1 : b with
    | true => exact absurd (hb.mp hb1) q
    | false => rfl
  · rw [a2]
    exact a1
end T7
