/-! ### the reference's text() -/
def texR (src : Nat → Int) (e k : Nat) (s : PS) (l : List CLT) : PLs := if e ≤ s.1 then .ok (s, l) else (match tak src e 59 s with
  | .ok s2 => texL src e k s2 l
  | .error q => .error q)
section UT
variable {K K1 K2 : Kmap} {V V0 V1 V2 V3 M : Vmap} {x : Nat} {n g X Y a b : Int}
theorem texL_r {src : Nat → Int} {e k : Nat} {s : PS} {l : List CLT} : texL src e (k + 1) s l = match claS src e l.length s with
    | .ok r => texR src e k r.1 (l ++ [r.2])
    | .error q => .error q := rfl
/-- the source is the tape of V -/
def SRM (V : Vmap) (x e : Nat) (src : Nat → Int) : Prop := ∀ j : Nat, j < e → mtC V x j = src j
theorem TP.of {ws : Nat} {src : Nat → Int} (hF : FR ws K V K V1) (hx : K x = some (0, 11)) (hW : WT K V) (b2 : ws.testBit (keyK (0, 11) 29) = false) (b3 : ws.testBit (abase + (31 + 1)) = false) (h32 : vi V1 x 32 = n) (h : SRM V x n.toNat src) : TP V1 x src n.toNat := by
  obtain ⟨k, hk⟩ := (hW.ref hx (j := 29) (Nat.le_of_ble_eq_true rfl) rfl).2
  have q : vq V1 x 29 = vq V x 29 := vq_eq (hF x _ 29 hx hx b2)
  exact ⟨by rw [h32], fun j hj => by rw [q, vi_frA hF hk hk b3]; exact h j hj⟩
/-- behind some clauses; g: whether all went well -/
def RTI (V V0 V1 : Vmap) (x : Nat) (n g : Int) : Prop := ∀ src, SRM V x n.toNat src → (g ≠ 0 → ∃ l, RLC V1 x l ∧ texF src n.toNat (Tm V0 x) = texR src n.toNat (13 - l.length) (Tm V1 x) l) ∧ (g = 0 → ∃ q, texF src n.toNat (Tm V0 x) = .error q ∧ ER V1 x q)
theorem RTI.beg (hT : ∀ src, SRM V x n.toNat src → TP V0 x src n.toNat) (h200 : n.toNat ≤ 200) (h38 : vi V0 x 38 = 0) (hc : RCS V0 V1 x X) : RTI V V0 V1 x n X := fun src hs => by
  have hTP := hT src hs
  have hl : RLC V0 x [] := ⟨h38, by simp, fun j r hr => by simp at hr⟩
  have e0 : texF src n.toNat (Tm V0 x) = match claS src n.toNat 0 (Tm V0 x) with
    | .ok r => texR src n.toNat 12 r.1 ([] ++ [r.2])
    | .error q => .error q := texL_r
  refine ⟨fun hX => ?_, fun hX => ?_⟩
  · obtain ⟨r, h1, h2⟩ := hc.1 hX src n.toNat [] h200 hTP hl
    have h1' : claS src n.toNat 0 (Tm V0 x) = .ok (Tm V1 x, r) := h1
    rw [h1'] at e0
    exact ⟨[] ++ [r], h2, e0⟩
  · obtain ⟨q, h1, h2⟩ := hc.2 hX src n.toNat [] h200 hTP (by rw [h38]; rfl)
    have h1' : claS src n.toNat 0 (Tm V0 x) = .error q := h1
    rw [h1'] at e0
    exact ⟨q, e0, h2⟩
theorem RTI.bad (h : RTI V V0 V1 x n g) (hg : g ≠ 0) (hT : ∀ src, SRM V x n.toNat src → TP V1 x src n.toNat) (h0 : 0 ≤ vi V1 x 31) (hlt : vi V1 x 31 < n) (hs : sgn V1 x ≠ 59) (hf : vi V2 x 33 = -1000 - vi V1 x 31) (hX : X = 0) : RTI V V0 V2 x n X := fun src hs0 => ⟨fun q => absurd hX q, fun _ => by
  obtain ⟨l, h1, h2⟩ := (h src hs0).1 hg
  have hsg := (hT src hs0).sg h0
  refine ⟨(1, (vi V1 x 31).toNat), ?_, ?_⟩
  · have ht : tak src n.toNat 59 (Tm V1 x) = .error (1, (vi V1 x 31).toNat) := by
      unfold tak
      rw [if_neg (show ¬ rdS src n.toNat (Tm V1 x).1 = 59 from fun q => hs (hsg.trans q))]
      rfl
    rw [h2]
    unfold texR
    rw [if_neg (show ¬ n.toNat ≤ (Tm V1 x).1 by show ¬ n.toNat ≤ (vi V1 x 31).toNat; omega), ht]
  · show vi V2 x 33 = -1000 * 1 - (((vi V1 x 31).toNat : Nat) : Int)
    omega⟩
theorem RTI.step (h : RTI V V0 V1 x n g) (hg : g ≠ 0) (hT : ∀ src, SRM V x n.toNat src → TP V1 x src n.toNat) (h0 : 0 ≤ vi V1 x 31) (hlt : vi V1 x 31 < n) (hs : sgn V1 x = 59) (hp : vi V2 x 31 = vi V1 x 31 + 1) (hc36 : vi V2 x 36 = vi V1 x 36) (hS : sd V2 x = sd V1 x) (h38 : vi V2 x 38 = vi V1 x 38) (e1 : ar 41 V2 x = ar 41 V1 x) (e4 : ar 44 V2 x = ar 44 V1 x) (e5 : ar 45 V2 x = ar 45 V1 x) (e6 : ar 46 V2 x = ar 46 V1 x) (hT2 : ∀ src, SRM V x n.toNat src → TP V2 x src n.toNat) (h200 : n.toNat ≤ 200) (hc : RCS V2 V3 x Y) (hX : Y ≠ 0 ↔ X ≠ 0) : RTI V V0 V3 x n X := fun src hs0 => by
  obtain ⟨l, ⟨l1, l2, l3⟩, h2⟩ := (h src hs0).1 hg
  have hl : RLC V2 x l := ⟨h38.trans l1, l2, fun j r hr => by rw [e1, e4, e5, e6]; exact l3 j r hr⟩
  have hsg := (hT src hs0).sg h0
  have hT' : Tm V2 x = adv (Tm V1 x) := by
    show ((vi V2 x 31).toNat, (vi V2 x 36).toNat, sd V2 x) = ((vi V1 x 31).toNat + 1, (vi V1 x 36).toNat, sd V1 x)
    rw [hc36, hS, show (vi V2 x 31).toNat = (vi V1 x 31).toNat + 1 by omega]
  have ht : tak src n.toNat 59 (Tm V1 x) = .ok (Tm V2 x) := by
    unfold tak
    rw [if_pos (show rdS src n.toNat (Tm V1 x).1 = 59 from hsg.symm.trans hs), hT']
  have h3 : texF src n.toNat (Tm V0 x) = texL src n.toNat (13 - l.length) (Tm V2 x) l := by
    rw [h2]
    unfold texR
    rw [if_neg (show ¬ n.toNat ≤ (Tm V1 x).1 by show ¬ n.toNat ≤ (vi V1 x 31).toNat; omega), ht]
  rw [show 13 - l.length = (12 - l.length) + 1 by omega, texL_r] at h3
  refine ⟨fun q => ?_, fun q => ?_⟩
  · obtain ⟨r, c1, c2⟩ := hc.1 (hX.mpr q) src n.toNat l h200 (hT2 src hs0) hl
    rw [c1] at h3
    refine ⟨l ++ [r], c2, ?_⟩
    rw [show 13 - (l ++ [r]).length = 12 - l.length by rw [List.length_append]; show 13 - (l.length + 1) = _; omega]
    exact h3
  · have hY : Y = 0 := Classical.byContradiction fun hy => (hX.mp hy) q
    obtain ⟨r, c1, c2⟩ := hc.2 hY src n.toNat l h200 (hT2 src hs0) hl.1
    rw [c1] at h3
    exact ⟨r, h3, c2⟩
/-! what the reference knows of texts -/
def MTS (V : Vmap) (x : Nat) (L : List TXL) : Prop := vi V x 47 = (L.length : Int) ∧ ∀ i t, L[i]? = some t → t.2.2.length ≤ 12 ∧ ar 51 V x i = t.1 ∧ ar 52 V x i = t.2.1 ∧ ar 50 V x i = (t.2.2.length : Int) ∧ ∀ j r, t.2.2[j]? = some r → ar 53 V x (12 * i + j) = r.1 ∧ ar 56 V x (12 * i + j) = r.2.1 ∧ ar 57 V x (12 * i + j) = r.2.2.1 ∧ ar 58 V x (12 * i + j) = r.2.2.2
theorem MTS.nil (h : vi V x 47 = 0) : MTS V x [] := ⟨h, fun i t ht => by simp at ht⟩
theorem MTS.eq {L : List TXL} (h : MTS V x L) (e47 : vi V1 x 47 = vi V x 47) (e50 : ar 50 V1 x = ar 50 V x) (e51 : ar 51 V1 x = ar 51 V x) (e52 : ar 52 V1 x = ar 52 V x) (e53 : ar 53 V1 x = ar 53 V x) (e56 : ar 56 V1 x = ar 56 V x) (e57 : ar 57 V1 x = ar 57 V x) (e58 : ar 58 V1 x = ar 58 V x) : MTS V1 x L := by
  unfold MTS
  rw [e47, e50, e51, e52, e53, e56, e57, e58]
  exact h
def MTC (V : Vmap) (x : Nat) (a b n : Int) : Prop := 0 ≤ a ∧ a ≤ b ∧ b ≤ 3599 ∧ 1 ≤ n ∧ n ≤ 200 ∧ vi V x 47 < 20 ∧ n ≤ vi V x 30
def MTX (V V1 : Vmap) (x : Nat) (a b n X : Int) : Prop := ∀ L src, MTS V x L → SRM V x n.toNat src → (¬ MTC V x a b n ∧ X = -1 ∧ MTS V1 x L ∧ MTSame V V1 x) ∨ (MTC V x a b n ∧ vi V1 x 30 = 0 ∧ match texF src n.toNat pz with
  | .error q => X = -1000 * q.1 - (q.2 : Int) ∧ MTS V1 x L
  | .ok r => X = (L.length : Int) ∧ MTS V1 x (L ++ [(a, b, r.2)]))
theorem MTX.no (h : ¬ MTC V x a b n) (hX : X = -1) : MTX V V x a b n X := fun L src hL _ => Or.inl ⟨h, hX, hL, rfl, fun _ => rfl⟩
theorem MTX.er (hc : MTC V x a b n) (h : RTI V V0 V1 x n g) (hg : g = 0) (h31 : vi V0 x 31 = 0) (h36 : vi V0 x 36 = 0) (h33 : vi V2 x 33 = vi V1 x 33) (hX : X = vi V2 x 33) (h30 : vi V2 x 30 = 0) (e47 : vi V2 x 47 = vi V x 47) (e50 : ar 50 V2 x = ar 50 V x) (e51 : ar 51 V2 x = ar 51 V x) (e52 : ar 52 V2 x = ar 52 V x) (e53 : ar 53 V2 x = ar 53 V x) (e56 : ar 56 V2 x = ar 56 V x) (e57 : ar 57 V2 x = ar 57 V x) (e58 : ar 58 V2 x = ar 58 V x) : MTX V V2 x a b n X := fun L src hL hsr => by
  obtain ⟨q, h1, h2⟩ := (h src hsr).2 hg
  have hP : psE (Tm V0 x) pz := ⟨by show (vi V0 x 31).toNat = 0; omega, by show (vi V0 x 36).toNat = 0; omega⟩
  have hcg := texF_cg (src := src) (e := n.toNat) hP
  refine Or.inr ⟨hc, h30, ?_⟩
  rw [h1] at hcg
  cases h3 : texF src n.toNat pz with
  | ok r => rw [h3] at hcg; exact hcg.elim
  | error q2 =>
    rw [h3] at hcg
    have hcg' : q = q2 := hcg
    subst hcg'
    have h2' : vi V1 x 33 = -1000 * q.1 - (q.2 : Int) := h2
    exact ⟨by omega, hL.eq e47 e50 e51 e52 e53 e56 e57 e58⟩
theorem MTX.ok {i1 i2 i3 : Nat} {k3 n5 : Int} {C53 C56 C57 C58 : Nat → Int} (hc : MTC V x a b n) (h : RTI V V0 V1 x n g) (hg : g ≠ 0) (h31 : vi V0 x 31 = 0) (h36 : vi V0 x 36 = 0) (he : n ≤ vi V1 x 31) (m38 : vi M x 38 = vi V1 x 38) (m41 : ar 41 M x = ar 41 V1 x) (m44 : ar 44 M x = ar 44 V1 x) (m45 : ar 45 M x = ar 45 V1 x) (m46 : ar 46 M x = ar 46 V1 x) (e47 : vi V2 x 47 = vi V x 47 + 1) (e51 : ar 51 V2 x = updf (ar 51 V x) i1 a) (hi1 : (i1 : Int) = vi V x 47) (e52 : ar 52 V2 x = updf (ar 52 V x) i2 b) (hi2 : (i2 : Int) = vi V x 47) (e50 : ar 50 V2 x = updf (ar 50 V x) i3 k3) (hi3 : (i3 : Int) = vi V x 47) (hk : k3 = vi M x 38) (a53 : ar 53 V2 x = C53) (a56 : ar 56 V2 x = C56) (a57 : ar 57 V2 x = C57) (a58 : ar 58 V2 x = C58) (c53 : CPf (ar 53 V x) (ar 41 M x) C53 (12 * vi V x 47) 0 n5) (c56 : CPf (ar 56 V x) (ar 44 M x) C56 (12 * vi V x 47) 0 n5) (c57 : CPf (ar 57 V x) (ar 45 M x) C57 (12 * vi V x 47) 0 n5) (c58 : CPf (ar 58 V x) (ar 46 M x) C58 (12 * vi V x 47) 0 n5) (hn : vi M x 38 ≤ n5) (h30 : vi V2 x 30 = 0) (hX : X = vi V x 47) : MTX V V2 x a b n X := fun L src hL hsr => by
  obtain ⟨l, ⟨l1, l2, l3⟩, h2⟩ := (h src hsr).1 hg
  have hP : psE (Tm V0 x) pz := ⟨by show (vi V0 x 31).toNat = 0; omega, by show (vi V0 x 36).toNat = 0; omega⟩
  have hcg := texF_cg (src := src) (e := n.toNat) hP
  have h2' : texF src n.toNat (Tm V0 x) = .ok (Tm V1 x, l) := by
    rw [h2]
    unfold texR
    rw [if_pos (show n.toNat ≤ (Tm V1 x).1 by show n.toNat ≤ (vi V1 x 31).toNat; omega)]
  refine Or.inr ⟨hc, h30, ?_⟩
  rw [h2'] at hcg
  cases h3 : texF src n.toNat pz with
  | error q => rw [h3] at hcg; exact hcg.elim
  | ok r =>
    rw [h3] at hcg
    have hcl : l = r.2 := hcg.2
    obtain ⟨hl0, hold⟩ := hL
    have hN : vi V x 47 = (L.length : Int) := hl0
    refine ⟨by omega, by rw [List.length_append]; show _ = ((L.length + 1 : Nat) : Int); omega, fun i t hi => ?_⟩
    by_cases c : i < L.length
    · rw [List.getElem?_append_left c] at hi
      obtain ⟨t0, t1, t2, t3, t4⟩ := hold i t hi
      refine ⟨t0, by rw [e51, updf_of (by omega)]; exact t1, by rw [e52, updf_of (by omega)]; exact t2, by rw [e50, updf_of (by omega)]; exact t3, fun j r hr => ?_⟩
      have hj := (List.getElem?_eq_some_iff.mp hr).1
      obtain ⟨z1, z2, z3, z4⟩ := t4 j r hr
      rw [a53, a56, a57, a58, c53.1 _ (by omega), c56.1 _ (by omega), c57.1 _ (by omega), c58.1 _ (by omega)]
      exact ⟨z1, z2, z3, z4⟩
    · have hi2' : i = L.length := by
        have := (List.getElem?_eq_some_iff.mp hi).1
        rw [List.length_append] at this
        have h9 : i < L.length + 1 := this
        omega
      subst hi2'
      have e3 : (L ++ [(a, b, r.2)])[L.length]? = some (a, b, r.2) := by simp
      rw [e3] at hi
      cases hi
      refine ⟨by rw [← hcl]; exact l2, by rw [e51, show L.length = i1 by omega, updf_at], by rw [e52, show L.length = i2 by omega, updf_at], ?_, fun j r1 hr => ?_⟩
      · rw [e50, show L.length = i3 by omega, updf_at, hk, m38, l1, hcl]
      · have hr' : l[j]? = some r1 := by rw [hcl]; exact hr
        have hj := (List.getElem?_eq_some_iff.mp hr').1
        obtain ⟨z1, z2, z3, z4⟩ := l3 j r1 hr'
        have ix : 12 * L.length + j = (12 * vi V x 47).toNat + j := by omega
        have hj5 : (j : Int) < n5 := by omega
        rw [a53, a56, a57, a58, ix, c53.2 j hj5, c56.2 j hj5, c57.2 j hj5, c58.2 j hj5, m41, m44, m45, m46]
        exact ⟨by omega, by omega, by omega, by omega⟩
/-- both sides' texts, and what text() does with them -/
theorem TXX.both {m : Nat} (hT : TPR V x m) (hx : K x = some (0, 10)) (hW : WT K V) {L : List TXL} (hL : CTS K V x L) (hM : MTS V m L) (f : CTX K K1 V V1 x a b n X) (gM : MTS V1 m L) (gs : MTSame V V1 m) (f1 : MTX V1 V2 m a b n Y) (k : ∀ L', CTS K1 V1 x L' → CTS K2 V2 x L') (t : TSame V1 V2 x) : X = Y ∧ TPR V2 x m ∧ ∃ L', CTS K2 V2 x L' ∧ MTS V2 m L' := by
  have h20 : (L.length : Int) = txN V x := hL.1.symm
  have hc : TXC V x a b n ↔ MTC V1 m a b n := by
    unfold TXC MTC
    rw [gM.1, h20, gs.1, ← hT.1]
  rcases f L hL with ⟨p1, p2, p3, p4⟩ | ⟨p1, p2, p3⟩
  · rcases f1 L (mtC V1 m) gM (fun _ _ => rfl) with ⟨q1, q2, q3, q4⟩ | ⟨q1, -, -⟩
    · exact ⟨by omega, (hT.same p4 gs).same t q4, L, k L p3, q3⟩
    · exact absurd (hc.mpr q1) p1
  · have hs : SRM V1 m n.toNat (tpC V x) := fun j hj => by
      rw [gs.2]
      exact (hT.2 j (by have := p1.2.2.2.2.2.2; omega)).symm
    rcases f1 L (tpC V x) gM hs with ⟨q1, -, -, -⟩ | ⟨q1, q2, q3⟩
    · exact absurd (hc.mp p1) q1
    · have hz : tpN V2 x = 0 := by rw [t.1]; exact p2
      cases h1 : texF (tpC V x) n.toNat pz with
      | error e =>
        rw [h1] at p3 q3
        exact ⟨by have := p3.1; have := q3.1; omega, TPR.zero hz q2, L, k L p3.2, q3.2⟩
      | ok r =>
        rw [h1] at p3 q3
        exact ⟨by have := p3.1; have := q3.1; omega, TPR.zero hz q2, _, k _ p3.2, q3.2⟩
end UT
