/-! ### how far a fault can be -/
def BR (e : Nat) (r : PE) : Prop := match r with
  | .ok t => t.1 ≤ e
  | .error q => 1 ≤ q.1 ∧ q.1 ≤ 5 ∧ q.2 ≤ e
def BdE (e : Nat) (f : PS → PE) : Prop := ∀ s, s.1 ≤ e → BR e (f s)
def BRC (e : Nat) (r : PCl) : Prop := match r with
  | .ok t => t.1.1 ≤ e
  | .error q => 1 ≤ q.1 ∧ q.1 ≤ 5 ∧ q.2 ≤ e
def BRL (e : Nat) (r : PLs) : Prop := match r with
  | .ok t => t.1.1 ≤ e
  | .error q => 1 ≤ q.1 ∧ q.1 ≤ 5 ∧ q.2 ≤ e
section TE
variable {src : Nat → Int} {e : Nat}
theorem rd_lt {p : Nat} (h : rdS src e p ≠ -1) : p < e := by
  unfold rdS at h
  by_cases q : p < e
  · exact q
  · rw [if_neg q] at h; exact absurd rfl h
theorem br_e {c : Int} {p : Nat} (h1 : 1 ≤ c) (h5 : c ≤ 5) (hp : p ≤ e) : BR e (.error (c, p)) := ⟨h1, h5, hp⟩
theorem br3 {c : Int} {p : Nat} (h1 : 1 ≤ c) (h5 : c ≤ 5) (hp : p ≤ e) : 1 ≤ ((c, p) : Int × Nat).1 ∧ ((c, p) : Int × Nat).1 ≤ 5 ∧ ((c, p) : Int × Nat).2 ≤ e := ⟨h1, h5, hp⟩
theorem BR.bnd {r : PE} {f : PS → PE} (h : BR e r) (hf : BdE e f) : BR e (Jvm.Pilot.@@N@@.bnd r f) := by
  cases r with
  | ok s => exact hf s h
  | error q => exact h
theorem tak_bd {c : Int} (hc : c ≠ -1) : BdE e (tak src e c) := fun s hs => by
  unfold tak
  by_cases q : rdS src e s.1 = c
  · rw [if_pos q]
    have h : s.1 < e := rd_lt (by rw [q]; exact hc)
    exact h
  · rw [if_neg q]; exact br_e (by decide) (by decide) hs
theorem dep_bd {d : Nat} {s : PS} {f : PS → PE} (h1 : s.1 < e) (hf : BdE e f) : BR e (dep d s f) := by
  unfold dep
  by_cases q : 8 ≤ d
  · rw [if_pos q]; exact br_e (by decide) (by decide) (Nat.le_of_lt h1)
  · rw [if_neg q]; exact hf (adv s) h1
theorem numL_bd : ∀ (k p : Nat) (n : Int), p ≤ e → (numL src e k p n).1 ≤ e := by
  intro k
  induction k with
  | zero => exact fun p n h => h
  | succ k ih =>
    intro p n h
    unfold numL
    by_cases q : dgB (rdS src e p) = true
    · rw [if_pos q]
      refine ih _ _ (rd_lt (src := src) (fun h1 => ?_))
      rw [h1] at q
      exact absurd q (by decide)
    · rw [if_neg q]; exact h
theorem numS_bd {most : Int} {p : Nat} (h : p ≤ e) : match numS src e most p with
    | .ok r => r.1 ≤ e
    | .error q => 1 ≤ q.1 ∧ q.1 ≤ 5 ∧ q.2 ≤ e := by
  have hl := numL_bd (src := src) (e := e) 6 p 0 h
  unfold numS
  by_cases q1 : dgB (rdS src e p) = true
  · rw [if_pos q1]
    by_cases q2 : dgB (rdS src e (numL src e 6 p 0).1) = true
    · rw [if_pos q2]; exact br3 (by decide) (by decide) hl
    · rw [if_neg q2]
      by_cases q3 : most < (numL src e 6 p 0).2
      · rw [if_pos q3]; exact br3 (by decide) (by decide) h
      · rw [if_neg q3]; exact hl
  · rw [if_neg q1]; exact br3 (by decide) (by decide) h
theorem facG_bd {T : Nat → PS → PE} (hT : ∀ d, BdE e (T d)) (d : Nat) : BdE e (facG src e T d) := fun s h => by
  unfold facG
  by_cases q : rdS src e s.1 = 91
  · rw [if_pos q]
    exact dep_bd (rd_lt (by rw [q]; decide)) fun a ha => (hT _ a ha).bnd (tak_bd (by decide))
  · rw [if_neg q]
    by_cases q2 : 0 ≤ letN (rdS src e s.1)
    · rw [if_pos q2]
      have h1 : s.1 < e := rd_lt (fun h1 => by rw [h1] at q2; exact absurd q2 (by decide))
      exact h1
    · rw [if_neg q2]
      have hn := numS_bd (src := src) (e := e) (most := 999999) h
      cases hr : numS src e 999999 s.1 with
      | error a => rw [hr] at hn; exact hn
      | ok r => rw [hr] at hn; exact hn
theorem facL_bd {fac : PS → PE} (hf : BdE e fac) : ∀ k, BdE e (facL src e fac k) := by
  intro k
  induction k with
  | zero => exact fun s h => h
  | succ k ih =>
    intro s h
    unfold facL
    by_cases q : 0 ≤ mulN (rdS src e s.1)
    · rw [if_pos q]
      have h1 : s.1 < e := rd_lt (fun h1 => by rw [h1] at q; exact absurd q (by decide))
      exact (hf (adv s) h1).bnd fun a ha => ih _ ha
    · rw [if_neg q]; exact h
theorem facsG_bd {fac : PS → PE} (hf : BdE e fac) : BdE e (facsG src e fac) := fun s h => (hf s h).bnd (facL_bd hf 200)
theorem terL_bd {fac : PS → PE} (hf : BdE e fac) : ∀ k, BdE e (terL src e fac k) := by
  intro k
  induction k with
  | zero => exact fun s h => h
  | succ k ih =>
    intro s h
    unfold terL
    by_cases q : 0 ≤ addN (rdS src e s.1)
    · rw [if_pos q]
      have h1 : s.1 < e := rd_lt (fun h1 => by rw [h1] at q; exact absurd q (by decide))
      exact (hf (adv s) h1).bnd fun a ha => ih _ ha
    · rw [if_neg q]; exact h
theorem terG_bd {facs : PS → PE} (hf : BdE e facs) : BdE e (terG src e facs) := fun s h => (hf s h).bnd (terL_bd hf 200)
theorem terF_bd : ∀ L d, BdE e (terF src e L d) := by
  intro L
  induction L with
  | zero => exact fun d s h => br_e (by decide) (by decide) h
  | succ L ih => exact fun d => terG_bd (facsG_bd (facG_bd ih d))
theorem cmpF_bd (d : Nat) : BdE e (cmpF src e d) := fun s h => (terF_bd _ _ s h).bnd fun a ha => by
  show BR e (if _ then _ else _)
  by_cases q : 0 ≤ cmpN (rdS src e a.1)
  · rw [if_pos q]
    have h1 : a.1 < e := rd_lt (fun h1 => by rw [h1] at q; exact absurd q (by decide))
    exact (terF_bd _ _ (adv a) h1).bnd fun b hb => hb
  · rw [if_neg q]; exact br_e (by decide) (by decide) ha
theorem andL_bd {pie : PS → PE} (hf : BdE e pie) : ∀ (k : Nat) (j : Option Nat), BdE e (andL src e pie k j) := by
  intro k
  induction k with
  | zero => exact fun j s h => by show (pat s j).1 ≤ e; rw [pat_1]; exact h
  | succ k ih =>
    intro j s h
    unfold andL
    by_cases q : rdS src e s.1 = 38
    · rw [if_pos q]
      have h1 : s.1 < e := rd_lt (by rw [q]; decide)
      refine (hf _ ?_).bnd fun a ha => ih _ _ ha
      show (pat (adv s) j).1 ≤ e
      rw [pat_1]; exact h1
    · rw [if_neg q]; show (pat s j).1 ≤ e; rw [pat_1]; exact h
theorem orL_bd {pie : PS → PE} (hf : BdE e pie) : ∀ (k : Nat) (j : Option Nat), BdE e (orL src e pie k j) := by
  intro k
  induction k with
  | zero => exact fun j s h => by show (pat s j).1 ≤ e; rw [pat_1]; exact h
  | succ k ih =>
    intro j s h
    unfold orL
    by_cases q : rdS src e s.1 = 124
    · rw [if_pos q]
      have h1 : s.1 < e := rd_lt (by rw [q]; decide)
      refine (hf _ ?_).bnd fun a ha => ih _ _ ha
      show (pat (adv s) j).1 ≤ e
      rw [pat_1]; exact h1
    · rw [if_neg q]; show (pat s j).1 ≤ e; rw [pat_1]; exact h
theorem parG_bd {pie : PS → PE} (hf : BdE e pie) : BdE e (parG src e pie) := fun s h => (hf s h).bnd (andL_bd hf 200 none)
theorem orG_bd {pie : PS → PE} (hf : BdE e pie) : BdE e (orG src e pie) := fun s h => (hf s h).bnd (orL_bd hf 200 none)
theorem pieG_bd {pieL parsL : Nat → PS → PE} (h1 : ∀ d, BdE e (pieL d)) (h2 : ∀ d, BdE e (parsL d)) (d : Nat) : BdE e (pieG src e pieL parsL d) := fun s h => by
  unfold pieG
  by_cases q : rdS src e s.1 = 33
  · rw [if_pos q]
    exact dep_bd (rd_lt (by rw [q]; decide)) fun a ha => (h1 _ a ha).bnd fun b hb => hb
  · rw [if_neg q]
    by_cases q2 : rdS src e s.1 = 40
    · rw [if_pos q2]
      exact dep_bd (rd_lt (by rw [q2]; decide)) fun a ha => (h2 _ a ha).bnd (tak_bd (by decide))
    · rw [if_neg q2]; exact cmpF_bd d s h
theorem pieF_bd : ∀ L d, BdE e (pieF src e L d) := by
  intro L
  induction L with
  | zero => exact fun d s h => br_e (by decide) (by decide) h
  | succ L ih => exact pieG_bd ih (fun d => orG_bd (parG_bd (ih d)))
theorem conF_bd : BdE e (conF src e) := fun s h => by
  unfold conF
  by_cases q : rdS src e s.1 = 40
  · rw [if_pos q]
    have h1 : s.1 < e := rd_lt (by rw [q]; decide)
    exact (orG_bd (parG_bd (pieF_bd 8 1)) (adv s) h1).bnd (tak_bd (by decide))
  · rw [if_neg q]; exact br_e (by decide) (by decide) h
theorem reaF_bd : BdE e (reaF src e) := fun s h => (conF_bd s h).bnd fun a ha => by
  show BR e (if _ then _ else _)
  by_cases q : a.1 < e
  · rw [if_pos q]; exact br_e (by decide) (by decide) ha
  · rw [if_neg q]; exact ha
/-! clauses -/
theorem bnc_bd {r : PE} {f : PS → PCl} (h : BR e r) (hf : ∀ s, s.1 ≤ e → BRC e (f s)) : BRC e (bnc r f) := by
  cases r with
  | ok s => exact hf s h
  | error q => exact h
theorem bnn_bd {most : Int} {s : PS} {f : PS → Int → PCl} (h : s.1 ≤ e) (hf : ∀ s n, s.1 ≤ e → BRC e (f s n)) : BRC e (bnn (numQ src e most s) f) := by
  have hn := numS_bd (src := src) (e := e) (most := most) h
  unfold numQ
  cases hr : numS src e most s.1 with
  | error a => rw [hr] at hn; exact hn
  | ok r => rw [hr] at hn; exact hf (r.1, s.2) r.2 hn
theorem kE_bd {c a b : Int} {s : PS} (h : s.1 ≤ e) : BRC e (kE src e c a b s) := bnn_bd h fun _ _ h => h
theorem claG_bd {c : Int} {s : PS} (h : s.1 ≤ e) : BRC e (claG src e c s) := by
  unfold claG
  split
  · exact bnn_bd h fun _ _ h => bnc_bd (tak_bd (by decide) _ h) fun _ h => bnn_bd h fun _ _ h => bnc_bd (tak_bd (by decide) _ h) fun _ h => kE_bd h
  split
  · exact bnn_bd h fun _ _ h => bnc_bd (tak_bd (by decide) _ h) fun _ h => bnn_bd h fun _ _ h => h
  split
  · refine bnc_bd (conF_bd _ h) fun a h => ?_
    unfold gL
    split
    · exact kE_bd h
    · exact h
  split
  · exact kE_bd h
  · exact h
theorem claS_bd {j : Nat} {s : PS} (h : s.1 ≤ e) : BRC e (claS src e j s) := by
  unfold claS
  by_cases q : isCL (rdS src e s.1) = true
  · rw [if_pos q]
    have h1 : s.1 < e := rd_lt (fun h1 => by rw [h1] at q; exact absurd q (by decide))
    by_cases q2 : 12 ≤ j
    · rw [if_pos q2]; exact br3 (by decide) (by decide) h
    · rw [if_neg q2]; exact claG_bd (s := adv s) h1
  · rw [if_neg q]; exact br3 (by decide) (by decide) h
theorem texL_bd : ∀ (k : Nat) (s : PS) (l : List CLT), s.1 ≤ e → BRL e (texL src e k s l) := by
  intro k
  induction k with
  | zero => exact fun s l h => br3 (by decide) (by decide) h
  | succ k ih =>
    intro s l h
    rw [texL_s]
    have hc := claS_bd (src := src) (j := l.length) h
    cases h1 : claS src e l.length s with
    | error a => rw [h1] at hc; exact hc
    | ok r =>
      rw [h1] at hc
      have hc' : r.1.1 ≤ e := hc
      show BRL e (if e ≤ r.1.1 then _ else _)
      by_cases g : e ≤ r.1.1
      · rw [if_pos g]; exact hc
      · rw [if_neg g]
        have ht := tak_bd (src := src) (e := e) (c := 59) (by decide) r.1 hc'
        cases h3 : tak src e 59 r.1 with
        | error a => rw [h3] at ht; exact ht
        | ok u => rw [h3] at ht; exact ih u _ ht
theorem texF_bd {s : PS} (h : s.1 ≤ e) : BRL e (texF src e s) := texL_bd 13 s [] h
end TE
