/-! ### the reference's reading() -/
section RY
variable {K K1 : Kmap} {V V0 V1 V2 : Vmap} {x m : Nat} {n i j p X Y : Int}
def ISC (V : Vmap) (x : Nat) (i j X : Int) : Prop := X ≠ 0 ↔ (0 ≤ i ∧ i < vi V x 47 ∧ 0 ≤ j ∧ j < vi V (vq V x 50) i.toNat)
def MRC (V : Vmap) (x : Nat) (p i j n : Int) : Prop := 0 ≤ p ∧ p < vi V x 9 ∧ (0 ≤ i ∧ i < vi V x 47 ∧ 0 ≤ j ∧ j < vi V (vq V x 50) i.toNat) ∧ askB (vi V (vq V x 53) (12 * i + j).toNat) ∧ 1 ≤ n ∧ n ≤ 100 ∧ vi V x 48 < 20 ∧ n ≤ vi V x 30
def MRX (V V1 : Vmap) (x : Nat) (p i j n X : Int) : Prop := ∀ src, SRM V x n.toNat src → (¬ MRC V x p i j n ∧ X = -1 ∧ MTSame V V1 x ∧ vi V1 x 48 = vi V x 48) ∨ (MRC V x p i j n ∧ vi V1 x 30 = 0 ∧ match reaF src n.toNat pz with
  | .error q => X = -1000 * q.1 - (q.2 : Int) ∧ vi V1 x 48 = vi V x 48
  | .ok _ => X = 0 ∧ vi V1 x 48 = vi V x 48 + 1)
theorem MRX.no (h : ¬ MRC V x p i j n) (hX : X = -1) : MRX V V x p i j n X := fun src _ => Or.inl ⟨h, hX, ⟨rfl, fun _ => rfl⟩, rfl⟩
theorem MRC.ni (h : ISC V x i j X) (hX : X = 0) : ¬ MRC V x p i j n := by
  rintro ⟨-, -, h1, -⟩
  exact h.mpr h1 hX
theorem MRC.na (h : X ≠ 0 ↔ ASK (vi V (vq V x 53) Y.toNat)) (hY : Y = 12 * i + j) (hX : X = 0) : ¬ MRC V x p i j n := by
  rintro ⟨-, -, -, h1, -⟩
  rw [← hY] at h1
  exact h.mpr h1 hX
theorem MRC.nn (h : p < 0 ∨ vi V x 9 ≤ p ∨ n < 1 ∨ 100 < n ∨ 20 ≤ vi V x 48 ∨ vi V x 30 < n) : ¬ MRC V x p i j n := by
  rintro ⟨h1, h2, -, -, h3, h4, h5, h6⟩
  omega
theorem MRC.mk {Z : Int} (h0 : 0 ≤ p) (h1 : p < vi V x 9) (hi : ISC V x i j X) (hX : X ≠ 0) (ha : Y ≠ 0 ↔ ASK (vi V (vq V x 53) Z.toNat)) (hY : Y ≠ 0) (hZ : Z = 12 * i + j) (hn : 1 ≤ n ∧ n ≤ 100 ∧ vi V x 48 < 20 ∧ n ≤ vi V x 30) : MRC V x p i j n := ⟨h0, h1, hi.mp hX, by rw [← hZ]; exact ha.mp hY, hn⟩
theorem MRX.e1 (hc : MRC V x p i j n) (hT : ∀ src, SRM V x n.toNat src → TP V0 x src n.toNat) (h31 : vi V0 x 31 = 0) (h36 : vi V0 x 36 = 0) (hd : CND V0 V1 x Y) (hY : Y = 0) (hX : X = vi V1 x 33) (h30 : vi V2 x 30 = 0) (h48 : vi V2 x 48 = vi V x 48) : MRX V V2 x p i j n X := fun src hs => by
  refine Or.inr ⟨hc, h30, ?_⟩
  have hn : n.toNat ≤ 200 := by obtain ⟨-, -, -, -, h1, h2, -, -⟩ := hc; omega
  obtain ⟨q, g1, g2⟩ := (hd src n.toNat hn (hT src hs)).2 hY
  have hP : psE (Tm V0 x) pz := ⟨by show (vi V0 x 31).toNat = 0; omega, by show (vi V0 x 36).toNat = 0; omega⟩
  have hcg := reaF_cg (src := src) (e := n.toNat) _ _ hP
  have e1 : reaF src n.toNat (Tm V0 x) = .error q := by unfold reaF; rw [g1]; rfl
  rw [e1] at hcg
  cases h3 : reaF src n.toNat pz with
  | ok r => rw [h3] at hcg; exact hcg.elim
  | error q2 =>
    rw [h3] at hcg
    have hcg' : q = q2 := hcg
    subst hcg'
    have g2' : vi V1 x 33 = -1000 * q.1 - (q.2 : Int) := g2
    exact ⟨by omega, h48⟩
theorem MRX.e2 (hc : MRC V x p i j n) (hT : ∀ src, SRM V x n.toNat src → TP V0 x src n.toNat) (h31 : vi V0 x 31 = 0) (h36 : vi V0 x 36 = 0) (hd : CND V0 V1 x Y) (hY : Y ≠ 0) (h0 : 0 ≤ vi V1 x 31) (hne : vi V1 x 31 ≠ n) (hX : X = -1000 - vi V1 x 31) (h30 : vi V2 x 30 = 0) (h48 : vi V2 x 48 = vi V x 48) : MRX V V2 x p i j n X := fun src hs => by
  refine Or.inr ⟨hc, h30, ?_⟩
  have hn : n.toNat ≤ 200 := by obtain ⟨-, -, -, -, h1, h2, -, -⟩ := hc; omega
  have hn0 : 0 ≤ n := by obtain ⟨-, -, -, -, h1, h2, -, -⟩ := hc; omega
  have g1 := (hd src n.toNat hn (hT src hs)).1 hY
  have hP : psE (Tm V0 x) pz := ⟨by show (vi V0 x 31).toNat = 0; omega, by show (vi V0 x 36).toNat = 0; omega⟩
  have hcg := reaF_cg (src := src) (e := n.toNat) _ _ hP
  have hb := conF_bd (src := src) (e := n.toNat) (Tm V0 x) (by rw [hP.1]; exact Nat.zero_le _)
  rw [g1] at hb
  have hb' : (vi V1 x 31).toNat ≤ n.toNat := hb
  have e1 : reaF src n.toNat (Tm V0 x) = .error (1, (vi V1 x 31).toNat) := by
    unfold reaF
    rw [g1]
    show (if (vi V1 x 31).toNat < n.toNat then _ else _) = _
    rw [if_pos (by omega)]
    rfl
  rw [e1] at hcg
  cases h3 : reaF src n.toNat pz with
  | ok r => rw [h3] at hcg; exact hcg.elim
  | error q2 =>
    rw [h3] at hcg
    have hcg' : ((1 : Int), (vi V1 x 31).toNat) = q2 := hcg
    subst hcg'
    refine ⟨?_, h48⟩
    show X = -1000 * 1 - (((vi V1 x 31).toNat : Nat) : Int)
    omega
theorem MRX.ok (hc : MRC V x p i j n) (hT : ∀ src, SRM V x n.toNat src → TP V0 x src n.toNat) (h31 : vi V0 x 31 = 0) (h36 : vi V0 x 36 = 0) (hd : CND V0 V1 x Y) (hY : Y ≠ 0) (he : vi V1 x 31 = n) (hX : X = 0) (h30 : vi V2 x 30 = 0) (h48 : vi V2 x 48 = vi V x 48 + 1) : MRX V V2 x p i j n X := fun src hs => by
  refine Or.inr ⟨hc, h30, ?_⟩
  have hn : n.toNat ≤ 200 := by obtain ⟨-, -, -, -, h1, h2, -, -⟩ := hc; omega
  have g1 := (hd src n.toNat hn (hT src hs)).1 hY
  have hP : psE (Tm V0 x) pz := ⟨by show (vi V0 x 31).toNat = 0; omega, by show (vi V0 x 36).toNat = 0; omega⟩
  have hcg := reaF_cg (src := src) (e := n.toNat) _ _ hP
  have e1 : reaF src n.toNat (Tm V0 x) = .ok (Tm V1 x) := by
    unfold reaF
    rw [g1]
    show (if (vi V1 x 31).toNat < n.toNat then _ else _) = _
    rw [if_neg (by omega)]
  rw [e1] at hcg
  cases h3 : reaF src n.toNat pz with
  | error q => rw [h3] at hcg; exact hcg.elim
  | ok r => exact ⟨hX, h48⟩
/-- whether a clause asks, on both sides -/
theorem MTS.ask {L : List TXL} (h : MTS V m L) : ASKC L i j ↔ (0 ≤ i ∧ i < vi V m 47 ∧ 0 ≤ j ∧ j < vi V (vq V m 50) i.toNat) ∧ askB (vi V (vq V m 53) (12 * i + j).toNat) := by
  obtain ⟨h1, h2⟩ := h
  refine ⟨fun ⟨t, r, a0, a1, a2, a3, a4⟩ => ?_, fun ⟨⟨a0, a1, a2, a3⟩, a4⟩ => ?_⟩
  · have hi := (List.getElem?_eq_some_iff.mp a1).1
    have hj := (List.getElem?_eq_some_iff.mp a3).1
    obtain ⟨b0, -, -, b3, b4⟩ := h2 _ _ a1
    have b5 := (b4 _ _ a3).1
    have b3' : vi V (vq V m 50) i.toNat = (t.2.2.length : Int) := b3
    have b5' : vi V (vq V m 53) (12 * i.toNat + j.toNat) = r.1 := b5
    refine ⟨⟨a0, by omega, a2, by omega⟩, ?_⟩
    rw [show (12 * i + j).toNat = 12 * i.toNat + j.toNat by omega, b5']
    exact a4
  · have hi : i.toNat < L.length := by omega
    have e1 : L[i.toNat]? = some L[i.toNat] := List.getElem?_eq_getElem hi
    obtain ⟨b0, -, -, b3, b4⟩ := h2 _ _ e1
    have b3' : vi V (vq V m 50) i.toNat = ((L[i.toNat].2.2.length : Nat) : Int) := b3
    have hj : j.toNat < L[i.toNat].2.2.length := by omega
    have e2 : L[i.toNat].2.2[j.toNat]? = some L[i.toNat].2.2[j.toNat] := List.getElem?_eq_getElem hj
    have b5 := (b4 _ _ e2).1
    have b5' : vi V (vq V m 53) (12 * i.toNat + j.toNat) = L[i.toNat].2.2[j.toNat].1 := b5
    rw [show (12 * i + j).toNat = 12 * i.toNat + j.toNat by omega, b5'] at a4
    exact ⟨_, _, a0, e1, a2, e2, a4⟩
/-- both sides' readings -/
theorem RXX.both (hT : TPR V x m) (hx : K x = some (0, 10)) (hW : WT K V) (hp : PN V x) {L : List TXL} (hL : CTS K V x L) (hM : MTS V1 m L) (hn : vi V x 4 = vi V1 m 9) (hr : rdN V x = vi V1 m 48) (f : CRX K K1 V V1 x p i j n X) (gs : MTSame V V1 m) (f1 : MRX V1 V2 m p i j n Y) (t : TSame V1 V2 x) (hr2 : rdN V2 x = rdN V1 x) : X = Y ∧ TPR V2 x m ∧ CTS K1 V1 x L ∧ rdN V2 x = vi V2 m 48 := by
  have hc : RDC V x L p i j n ↔ MRC V1 m p i j n := by
    have ha := hM.ask (i := i) (j := j)
    unfold RDC MRC
    rw [hn, hr, ha, hT.1, gs.1]
    exact ⟨fun ⟨a, b, ⟨c, d⟩, e⟩ => ⟨a, b, c, d, e⟩, fun ⟨a, b, c, d, e⟩ => ⟨a, b, ⟨c, d⟩, e⟩⟩
  rcases f hp L hL with ⟨p1, p2, p3, p4, p5⟩ | ⟨p1, p2, p3, p4⟩
  · rcases f1 (mtC V1 m) (fun _ _ => rfl) with ⟨q1, q2, q3, q4⟩ | ⟨q1, -, -⟩
    · exact ⟨by omega, (hT.same p4 gs).same t q3, p3, by omega⟩
    · exact absurd (hc.mpr q1) p1
  · have hs : SRM V1 m n.toNat (tpC V x) := fun k hk => by
      rw [gs.2]
      exact (hT.2 k (by have := p1.2.2.2.2.2.2; omega)).symm
    rcases f1 (tpC V x) hs with ⟨q1, -, -, -⟩ | ⟨q1, q2, q3⟩
    · exact absurd (hc.mp p1) q1
    · have hz : tpN V2 x = 0 := by rw [t.1]; exact p2
      cases h1 : reaF (tpC V x) n.toNat pz with
      | error e =>
        rw [h1] at p4 q3
        obtain ⟨a1, a2⟩ := p4
        obtain ⟨b1, b2⟩ := q3
        exact ⟨by omega, TPR.zero hz q2, p3, by omega⟩
      | ok r =>
        rw [h1] at p4 q3
        obtain ⟨a1, a2⟩ := p4
        obtain ⟨b1, b2⟩ := q3
        exact ⟨by omega, TPR.zero hz q2, p3, by omega⟩
end RY
