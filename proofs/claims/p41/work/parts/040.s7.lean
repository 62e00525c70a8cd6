/-! ### conditions in the reference's memory -/
section S7
variable {V0 V V1 V2 : Vmap} {x : Nat}
/-- all that waits -/
def Ql (V : Vmap) (x : Nat) : List (Int × Nat) := stQ (wt V x) (vi V x 37).toNat
/-- how many depths wait -/
def nO : List (Int × Nat) → Nat
  | [] => 0
  | q :: S => (if q.1 = 10 ∨ q.1 = 13 then 1 else 0) + nO S
theorem nO_11 {k : Nat} {S : List (Int × Nat)} : nO ((11, k) :: S) = nO S := by
  show (if (11 : Int) = 10 ∨ (11 : Int) = 13 then 1 else 0) + nO S = nO S
  rw [if_neg (by decide), Nat.zero_add]
theorem nO_12 {k : Nat} {S : List (Int × Nat)} : nO ((12, k) :: S) = nO S := by
  show (if (12 : Int) = 10 ∨ (12 : Int) = 13 then 1 else 0) + nO S = nO S
  rw [if_neg (by decide), Nat.zero_add]
theorem Ql_top {op : Int} (hop : op = topf V x) (h0 : vi V x 37 ≠ 0) (hQ : wt V1 x = wt V x) (hw : vi V1 x 37 = vi V x 37 - 1) (h1 : 0 ≤ vi V1 x 37) : Ql V x = (op, (wt V x (vi V x 37 - 1).toNat % 1048576).toNat) :: Ql V1 x := by
  have ht : topf V x = wt V x (vi V x 37 - 1).toNat / UU := by unfold topf; rw [if_neg h0]
  obtain ⟨k, hk⟩ : ∃ k, (vi V x 37).toNat = k + 1 := ⟨(vi V x 37).toNat - 1, by omega⟩
  have h2 : (vi V1 x 37).toNat = k := by omega
  have h3 : (vi V x 37 - 1).toNat = k := by omega
  unfold Ql
  rw [hk, h2, h3, hQ, hop, ht, h3]
  rfl
theorem Ql_push {op c : Int} (hop : 0 ≤ c ∧ c < 1048576) (h0 : 0 ≤ vi V x 37) (hQ : wt V1 x = updf (wt V x) (vi V x 37).toNat (1048576 * op + c)) (hw : vi V1 x 37 = vi V x 37 + 1) : Ql V1 x = (op, c.toNat) :: Ql V x := by
  unfold Ql
  rw [show (vi V1 x 37).toNat = (vi V x 37).toNat + 1 by omega, hQ]
  exact stQ_push (by omega) (by rw [show (1048576 * op + c) % 1048576 = c by omega])
theorem Ql_same (hQ : wt V1 x = wt V x) (hw : vi V1 x 37 = vi V x 37) : Ql V1 x = Ql V x := by unfold Ql; rw [hQ, hw]
/-- endsPiece() -/
def EPi (V0 V : Vmap) (x : Nat) : Prop := ∀ (src : Nat → Int) (e : Nat), WQ (Ql V0 x) → ((nO (Ql V0 x) : Nat) : Int) = vi V0 x 35 →
  WQ (Ql V x) ∧ ((nO (Ql V x) : Nat) : Int) = vi V x 35 ∧ vi V x 35 ≤ vi V0 x 35 ∧ conQ src e (vi V0 x 35).toNat none none (Ql V0 x) (Tm V0 x) = conQ src e (vi V x 35).toNat none none (Ql V x) (Tm V x)
theorem EPi.rf : EPi V V x := fun _ _ h h2 => ⟨h, h2, Int.le_refl _, rfl⟩
theorem EPi.step (h : EPi V0 V x) (ht : 10 = topf V x) (h0 : vi V x 37 ≠ 0) (hS : sd V1 x = updf (sd V x) (vi V x 36).toNat (1048576 * 10 + 0)) (hQ : wt V1 x = wt V x) (hc : vi V1 x 36 = vi V x 36 + 1) (hw : vi V1 x 37 = vi V x 37 - 1) (hp : vi V1 x 31 = vi V x 31) (ho : 1 ≤ vi V x 35 → vi V1 x 35 = vi V x 35 - 1) (h0c : 0 ≤ vi V x 36) (h0w : 0 ≤ vi V1 x 37) : EPi V0 V1 x := by
  intro src e g1 g2
  obtain ⟨a1, a2, a4, a3⟩ := h src e g1 g2
  have hK := Ql_top ht h0 hQ hw h0w
  have hT1 : Tm V1 x = emt (Tm V x) 10485760 := by
    show ((vi V1 x 31).toNat, (vi V1 x 36).toNat, sd V1 x) = ((vi V x 31).toNat, (vi V x 36).toNat + 1, updf (sd V x) (vi V x 36).toNat 10485760)
    rw [hp, hS, show (vi V1 x 36).toNat = (vi V x 36).toNat + 1 by omega, show (1048576 * 10 + 0 : Int) = 10485760 by decide]
  rw [hK] at a1 a2 a3
  have hn : nO ((10, (wt V x (vi V x 37 - 1).toNat % 1048576).toNat) :: Ql V1 x) = 1 + nO (Ql V1 x) := rfl
  rw [hn] at a2
  have ho := ho (by omega)
  refine ⟨a1.2, by omega, by omega, ?_⟩
  rw [a3, conQ_not, hT1, show (vi V1 x 35).toNat = (vi V x 35).toNat - 1 by omega]
/-- not isn't the last that waits -/
def T10 (l : List (Int × Nat)) : Prop := ∀ q S, l = q :: S → q.1 ≠ 10
/-- lands() -/
def LDi (V0 V : Vmap) (x : Nat) (a : Int) : Prop := ∀ (src : Nat → Int) (e : Nat), e ≤ 200 → TP V0 x src e → WQ (Ql V0 x) → (a ≠ 0 → rdS src e (vi V0 x 31).toNat ≠ 38) →
  WQ (Ql V x) ∧ nO (Ql V x) = nO (Ql V0 x) ∧ (T10 (Ql V0 x) → T10 (Ql V x)) ∧ conQ src e (vi V0 x 35).toNat none none (Ql V0 x) (Tm V0 x) = conQ src e (vi V0 x 35).toNat none none (Ql V x) (Tm V x)
theorem LDi.rf {a : Int} : LDi V V x a := fun _ _ _ _ h _ => ⟨h, rfl, id, rfl⟩
theorem LDi.step {a m op : Int} (h : LDi V0 V x a) (hp0 : vi V x 31 = vi V0 x 31) (hop : op = topf V x) (ht : op = 11 ∨ (a ≠ 0 ∧ op = 12)) (h0 : vi V x 37 ≠ 0) (hm : m = wt V x (vi V x 37 - 1).toNat % 1048576) (hS : sd V1 x = updf (sd V x) m.toNat (1048576 * (sd V x m.toNat / 1048576) + vi V x 36)) (hQ : wt V1 x = wt V x) (hc : vi V1 x 36 = vi V x 36) (hw : vi V1 x 37 = vi V x 37 - 1) (hp : vi V1 x 31 = vi V x 31) (h0c : 0 ≤ vi V x 36) (h0w : 0 ≤ vi V1 x 37) : LDi V0 V1 x a := by
  intro src e h200 hTP g1 g2
  obtain ⟨a1, a2, a4, a3⟩ := h src e h200 hTP g1 g2
  have hK := Ql_top hop h0 hQ hw h0w
  rw [← hm] at hK
  have hT1 : Tm V1 x = pat (Tm V x) (some m.toNat) := by
    show ((vi V1 x 31).toNat, (vi V1 x 36).toNat, sd V1 x) = ((vi V x 31).toNat, (vi V x 36).toNat, updf (sd V x) m.toNat (1048576 * (sd V x m.toNat / 1048576) + ((vi V x 36).toNat : Int)))
    rw [hp, hc, hS, show (((vi V x 36).toNat : Nat) : Int) = vi V x 36 by omega]
  rw [hK] at a1 a2 a3
  rcases ht with ht | ⟨ha, ht⟩
  · subst ht
    refine ⟨a1.2, nO_11.symm.trans a2, fun _ q S hq => ?_, ?_⟩
    · rcases a1.1 with g | g | g | g
      · exact absurd g (by simp)
      · exact absurd g.1 (by simp)
      · obtain ⟨-, r, T, h1, h2⟩ := g
        rw [hq] at h1
        cases h1
        omega
      · exact absurd g.1 (by simp)
    rw [a3, land11 h200 a1, hT1]
  · subst ht
    refine ⟨a1.2, nO_12.symm.trans a2, fun _ q S hq => ?_, ?_⟩
    · rcases a1.1 with g | g | g | g
      · exact absurd g (by simp)
      · exact absurd g.1 (by simp)
      · exact absurd g.1 (by simp)
      · obtain ⟨-, r, T, h1, h2⟩ := g
        rw [hq] at h1
        cases h1
        omega
    rw [a3, land12 h200 a1 (by show rdS src e (vi V x 31).toNat ≠ 38; rw [hp0]; exact g2 ha), hT1]
/-- jumps() behind an and -/
theorem JQ.and {src : Nat → Int} {e : Nat} (h200 : e ≤ 200) (hws : WQ (Ql V x)) (ht : ∀ q S, Ql V x = q :: S → q.1 ≠ 10 ∧ q.1 ≠ 11) (hne : vi V x 37 ≠ 0) (hsg : rdS src e (vi V x 31).toNat = 38) (h0c : 0 ≤ vi V x 36 ∧ vi V x 36 < 1048576) (h0w : 0 ≤ vi V x 37) (hS : sd V1 x = updf (sd V x) (vi V x 36).toNat (1048576 * 11 + 0)) (hQ : wt V1 x = updf (wt V x) (vi V x 37).toNat (1048576 * 11 + vi V x 36)) (hc : vi V1 x 36 = vi V x 36 + 1) (hw : vi V1 x 37 = vi V x 37 + 1) (hp : vi V1 x 31 = vi V x 31 + 1) (hp0 : 0 ≤ vi V x 31) (ho : vi V1 x 35 = vi V x 35) : WQ (Ql V1 x) ∧ nO (Ql V1 x) = nO (Ql V x) ∧ conQ src e (vi V x 35).toNat none none (Ql V x) (Tm V x) = bnd (pieD src e (vi V1 x 35).toNat (Tm V1 x)) (conQ src e (vi V1 x 35).toNat none none (Ql V1 x)) := by
  have hK : Ql V1 x = (11, (vi V x 36).toNat) :: Ql V x := Ql_push h0c h0w hQ hw
  have hT1 : Tm V1 x = emt (adv (Tm V x)) 11534336 := by
    show ((vi V1 x 31).toNat, (vi V1 x 36).toNat, sd V1 x) = ((vi V x 31).toNat + 1, (vi V x 36).toNat + 1, updf (sd V x) (vi V x 36).toNat 11534336)
    rw [hS, show (vi V1 x 36).toNat = (vi V x 36).toNat + 1 by omega, show (vi V1 x 31).toNat = (vi V x 31).toNat + 1 by omega, show (1048576 * 11 + 0 : Int) = 11534336 by decide]
  have hrd : rdS src e (Tm V x).1 = 38 := hsg
  rw [hK, hT1, ho]
  obtain ⟨k, hk⟩ : ∃ k, (vi V x 37).toNat = k + 1 := ⟨(vi V x 37).toNat - 1, by omega⟩
  have hcons : ∃ q S, Ql V x = q :: S := ⟨(wt V x k / 1048576, (wt V x k % 1048576).toNat), stQ (wt V x) k, by unfold Ql; rw [hk]; rfl⟩
  obtain ⟨⟨o, i⟩, S, hqs⟩ := hcons
  have h10 := ht _ _ hqs
  rw [hqs] at hws ⊢
  rcases hws.1 with h | h | h | h
  · have h' : o = 13 := h
    subst h'
    refine ⟨⟨Or.inr (Or.inr (Or.inl ⟨rfl, _, _, rfl, Or.inl rfl⟩)), hws⟩, nO_11, ?_⟩
    rw [conQ_and h200 hrd]
    have hr : conQ src e (vi V x 35).toNat none none ((11, (vi V x 36).toNat) :: (13, i) :: S) = conQ src e (vi V x 35).toNat (some (Tm V x).2.1) none ((13, i) :: S) := funext fun s => conQ_11
    rw [hr]
    rfl
  · exact absurd h.1 h10.1
  · exact absurd h.1 h10.2
  · obtain ⟨h1, ⟨o2, i2⟩, T, rfl, hr2⟩ := h
    have h' : o = 12 := h1
    subst h'
    have h2' : o2 = 13 := hr2
    subst h2'
    refine ⟨⟨Or.inr (Or.inr (Or.inl ⟨rfl, _, _, rfl, Or.inr rfl⟩)), hws⟩, nO_11, ?_⟩
    rw [conQ_12, conQ_and h200 hrd]
    have hr : conQ src e (vi V x 35).toNat none none ((11, (vi V x 36).toNat) :: (12, i) :: (13, i2) :: T) = conQ src e (vi V x 35).toNat (some (Tm V x).2.1) (some i) ((13, i2) :: T) := funext fun s => by rw [conQ_11, conQ_12]; rfl
    rw [hr]
    rfl
/-- jumps() behind an or -/
theorem JQ.or {src : Nat → Int} {e : Nat} (h200 : e ≤ 200) (hws : WQ (Ql V x)) (ht : ∀ q S, Ql V x = q :: S → q.1 = 13) (hne : vi V x 37 ≠ 0) (hsg : rdS src e (vi V x 31).toNat = 124) (h0c : 0 ≤ vi V x 36 ∧ vi V x 36 < 1048576) (h0w : 0 ≤ vi V x 37) (hS : sd V1 x = updf (sd V x) (vi V x 36).toNat (1048576 * 12 + 0)) (hQ : wt V1 x = updf (wt V x) (vi V x 37).toNat (1048576 * 12 + vi V x 36)) (hc : vi V1 x 36 = vi V x 36 + 1) (hw : vi V1 x 37 = vi V x 37 + 1) (hp : vi V1 x 31 = vi V x 31 + 1) (hp0 : 0 ≤ vi V x 31) (ho : vi V1 x 35 = vi V x 35) : WQ (Ql V1 x) ∧ nO (Ql V1 x) = nO (Ql V x) ∧ conQ src e (vi V x 35).toNat none none (Ql V x) (Tm V x) = bnd (pieD src e (vi V1 x 35).toNat (Tm V1 x)) (conQ src e (vi V1 x 35).toNat none none (Ql V1 x)) := by
  have hK : Ql V1 x = (12, (vi V x 36).toNat) :: Ql V x := Ql_push h0c h0w hQ hw
  have hT1 : Tm V1 x = emt (adv (Tm V x)) 12582912 := by
    show ((vi V1 x 31).toNat, (vi V1 x 36).toNat, sd V1 x) = ((vi V x 31).toNat + 1, (vi V x 36).toNat + 1, updf (sd V x) (vi V x 36).toNat 12582912)
    rw [hS, show (vi V1 x 36).toNat = (vi V x 36).toNat + 1 by omega, show (vi V1 x 31).toNat = (vi V x 31).toNat + 1 by omega, show (1048576 * 12 + 0 : Int) = 12582912 by decide]
  have hrd : rdS src e (Tm V x).1 = 124 := hsg
  rw [hK, hT1, ho]
  obtain ⟨k, hk⟩ : ∃ k, (vi V x 37).toNat = k + 1 := ⟨(vi V x 37).toNat - 1, by omega⟩
  have hcons : ∃ q S, Ql V x = q :: S := ⟨(wt V x k / 1048576, (wt V x k % 1048576).toNat), stQ (wt V x) k, by unfold Ql; rw [hk]; rfl⟩
  obtain ⟨⟨o, i⟩, S, hqs⟩ := hcons
  have h' : o = 13 := ht _ _ hqs
  subst h'
  rw [hqs] at hws ⊢
  refine ⟨⟨Or.inr (Or.inr (Or.inr ⟨rfl, _, _, rfl, rfl⟩)), hws⟩, nO_12, ?_⟩
  rw [conQ_or h200 hrd]
  have hr : conQ src e (vi V x 35).toNat none none ((12, (vi V x 36).toNat) :: (13, i) :: S) = conQ src e (vi V x 35).toNat none (some (Tm V x).2.1) ((13, i) :: S) := funext fun s => conQ_12
  rw [hr]
  rfl
end S7
