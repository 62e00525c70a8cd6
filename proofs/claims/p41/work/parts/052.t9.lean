/-! ### what is read doesn't rest on the codes -/
def psE (s t : PS) : Prop := s.1 = t.1 ∧ s.2.1 = t.2.1
def peE (r q : PE) : Prop := match r, q with
  | .ok s, .ok t => psE s t
  | .error a, .error b => a = b
  | _, _ => False
def Cgr (f : PS → PE) : Prop := ∀ s t, psE s t → peE (f s) (f t)
section T9
variable {src : Nat → Int} {e : Nat}
theorem psE.adv {s t : PS} (h : psE s t) : psE (adv s) (adv t) := ⟨congrArg (· + 1) h.1, h.2⟩
theorem psE.emt {s t : PS} {v w : Int} (h : psE s t) : psE (emt s v) (emt t w) := ⟨h.1, congrArg (· + 1) h.2⟩
theorem psE.pat {s t : PS} {j k : Option Nat} (h : psE s t) : psE (pat s j) (pat t k) := ⟨by rw [pat_1, pat_1]; exact h.1, by rw [pat_n, pat_n]; exact h.2⟩
theorem peE_bnd {r q : PE} {f g : PS → PE} (h : peE r q) (hf : ∀ s t, psE s t → peE (f s) (g t)) : peE (bnd r f) (bnd q g) := by
  cases r with
  | ok s => cases q with
    | ok t => exact hf s t h
    | error b => exact h.elim
  | error a => cases q with
    | ok t => exact h.elim
    | error b => exact h
theorem tak_cg {c : Int} : Cgr (tak src e c) := fun s t h => by
  unfold tak
  rw [h.1]
  by_cases q : rdS src e t.1 = c
  · rw [if_pos q, if_pos q]; exact h.adv
  · rw [if_neg q, if_neg q]; exact rfl
theorem dep_cg {d : Nat} {s t : PS} {f g : PS → PE} (h : psE s t) (hf : ∀ s t, psE s t → peE (f s) (g t)) : peE (dep d s f) (dep d t g) := by
  unfold dep
  by_cases q : 8 ≤ d
  · rw [if_pos q, if_pos q]; show (5, s.1) = ((5, t.1) : Int × Nat); rw [h.1]
  · rw [if_neg q, if_neg q]; exact hf _ _ h.adv
theorem facG_cg {T : Nat → PS → PE} (hT : ∀ d, Cgr (T d)) (d : Nat) : Cgr (facG src e T d) := fun s t h => by
  unfold facG
  rw [h.1]
  by_cases q : rdS src e t.1 = 91
  · rw [if_pos q, if_pos q]
    exact dep_cg h fun a b hab => peE_bnd (hT _ _ _ hab) tak_cg
  · rw [if_neg q, if_neg q]
    by_cases q2 : 0 ≤ letN (rdS src e t.1)
    · rw [if_pos q2, if_pos q2]; exact h.adv.emt
    · rw [if_neg q2, if_neg q2]
      cases numS src e 999999 t.1 with
      | error a => exact rfl
      | ok r => exact psE.emt (s := (r.1, s.2)) (t := (r.1, t.2)) ⟨rfl, h.2⟩
theorem facL_cg {fac : PS → PE} (hf : Cgr fac) : ∀ k, Cgr (facL src e fac k) := by
  intro k
  induction k with
  | zero => exact fun s t h => h
  | succ k ih =>
    intro s t h
    unfold facL
    rw [h.1]
    by_cases q : 0 ≤ mulN (rdS src e t.1)
    · rw [if_pos q, if_pos q]
      exact peE_bnd (hf _ _ h.adv) fun a b hab => ih _ _ hab.emt
    · rw [if_neg q, if_neg q]; exact h
theorem facsG_cg {fac : PS → PE} (hf : Cgr fac) : Cgr (facsG src e fac) := fun s t h => peE_bnd (hf _ _ h) (facL_cg hf 200)
theorem terL_cg {fac : PS → PE} (hf : Cgr fac) : ∀ k, Cgr (terL src e fac k) := by
  intro k
  induction k with
  | zero => exact fun s t h => h
  | succ k ih =>
    intro s t h
    unfold terL
    rw [h.1]
    by_cases q : 0 ≤ addN (rdS src e t.1)
    · rw [if_pos q, if_pos q]
      exact peE_bnd (hf _ _ h.adv) fun a b hab => ih _ _ hab.emt
    · rw [if_neg q, if_neg q]; exact h
theorem terG_cg {facs : PS → PE} (hf : Cgr facs) : Cgr (terG src e facs) := fun s t h => peE_bnd (hf _ _ h) (terL_cg hf 200)
theorem terF_cg : ∀ L d, Cgr (terF src e L d) := by
  intro L
  induction L with
  | zero => intro d s t h; show (5, s.1) = ((5, t.1) : Int × Nat); rw [h.1]
  | succ L ih => intro d; exact terG_cg (facsG_cg (facG_cg ih d))
theorem cmpF_cg (d : Nat) : Cgr (cmpF src e d) := fun s t h => peE_bnd (terF_cg _ _ _ _ h) fun a b hab => by
  show peE (if _ then _ else _) (if _ then _ else _)
  rw [hab.1]
  by_cases q : 0 ≤ cmpN (rdS src e b.1)
  · rw [if_pos q, if_pos q]
    exact peE_bnd (terF_cg _ _ _ _ hab.adv) fun a b hab => hab.emt
  · rw [if_neg q, if_neg q]; exact rfl
theorem andL_cg {pie : PS → PE} (hf : Cgr pie) : ∀ (k : Nat) (j i : Option Nat) (s t : PS), psE s t → peE (andL src e pie k j s) (andL src e pie k i t) := by
  intro k
  induction k with
  | zero => exact fun j i s t h => h.pat
  | succ k ih =>
    intro j i s t h
    unfold andL
    rw [h.1]
    by_cases q : rdS src e t.1 = 38
    · rw [if_pos q, if_pos q]
      exact peE_bnd (hf _ _ h.adv.pat.emt) fun a b hab => ih _ _ _ _ hab
    · rw [if_neg q, if_neg q]; exact h.pat
theorem orL_cg {pie : PS → PE} (hf : Cgr pie) : ∀ (k : Nat) (j i : Option Nat) (s t : PS), psE s t → peE (orL src e pie k j s) (orL src e pie k i t) := by
  intro k
  induction k with
  | zero => exact fun j i s t h => h.pat
  | succ k ih =>
    intro j i s t h
    unfold orL
    rw [h.1]
    by_cases q : rdS src e t.1 = 124
    · rw [if_pos q, if_pos q]
      exact peE_bnd (hf _ _ h.adv.pat.emt) fun a b hab => ih _ _ _ _ hab
    · rw [if_neg q, if_neg q]; exact h.pat
theorem parG_cg {pie : PS → PE} (hf : Cgr pie) : Cgr (parG src e pie) := fun s t h => peE_bnd (hf _ _ h) (andL_cg hf 200 none none)
theorem orG_cg {pie : PS → PE} (hf : Cgr pie) : Cgr (orG src e pie) := fun s t h => peE_bnd (hf _ _ h) (orL_cg hf 200 none none)
theorem pieG_cg {pieL parsL : Nat → PS → PE} (h1 : ∀ d, Cgr (pieL d)) (h2 : ∀ d, Cgr (parsL d)) (d : Nat) : Cgr (pieG src e pieL parsL d) := fun s t h => by
  unfold pieG
  rw [h.1]
  by_cases q : rdS src e t.1 = 33
  · rw [if_pos q, if_pos q]
    exact dep_cg h fun a b hab => peE_bnd (h1 _ _ _ hab) fun a b hab => hab.emt
  · rw [if_neg q, if_neg q]
    by_cases q2 : rdS src e t.1 = 40
    · rw [if_pos q2, if_pos q2]
      exact dep_cg h fun a b hab => peE_bnd (h2 _ _ _ hab) tak_cg
    · rw [if_neg q2, if_neg q2]; exact cmpF_cg d _ _ h
theorem pieF_cg : ∀ L d, Cgr (pieF src e L d) := by
  intro L
  induction L with
  | zero => intro d s t h; show (5, s.1) = ((5, t.1) : Int × Nat); rw [h.1]
  | succ L ih => exact pieG_cg ih (fun d => orG_cg (parG_cg (ih d)))
theorem conF_cg : Cgr (conF src e) := fun s t h => by
  unfold conF
  rw [h.1]
  by_cases q : rdS src e t.1 = 40
  · rw [if_pos q, if_pos q]
    exact peE_bnd (orG_cg (parG_cg (pieF_cg 8 1)) _ _ h.adv) tak_cg
  · rw [if_neg q, if_neg q]; exact rfl
/-! clauses -/
def pcE (r q : PCl) : Prop := match r, q with
  | .ok s, .ok t => psE s.1 t.1 ∧ s.2 = t.2
  | .error a, .error b => a = b
  | _, _ => False
theorem bnc_cg {r q : PE} {f g : PS → PCl} (h : peE r q) (hf : ∀ s t, psE s t → pcE (f s) (g t)) : pcE (bnc r f) (bnc q g) := by
  cases r with
  | ok s => cases q with
    | ok t => exact hf s t h
    | error b => exact h.elim
  | error a => cases q with
    | ok t => exact h.elim
    | error b => exact h
theorem bnn_cg {most : Int} {s t : PS} {f g : PS → Int → PCl} (h : psE s t) (hf : ∀ s t n, psE s t → pcE (f s n) (g t n)) : pcE (bnn (numQ src e most s) f) (bnn (numQ src e most t) g) := by
  unfold numQ
  rw [h.1]
  cases numS src e most t.1 with
  | error a => exact rfl
  | ok r => exact hf (r.1, s.2) (r.1, t.2) r.2 ⟨rfl, h.2⟩
theorem kE_cg {c a b : Int} {s t : PS} (h : psE s t) : pcE (kE src e c a b s) (kE src e c a b t) := bnn_cg h fun _ _ _ h => ⟨h, rfl⟩
theorem claG_cg {c : Int} {s t : PS} (h : psE s t) : pcE (claG src e c s) (claG src e c t) := by
  unfold claG
  split
  · exact bnn_cg h fun _ _ _ h => bnc_cg (tak_cg _ _ h) fun _ _ h => bnn_cg h fun _ _ _ h => bnc_cg (tak_cg _ _ h) fun _ _ h => kE_cg h
  split
  · exact bnn_cg h fun _ _ _ h => bnc_cg (tak_cg _ _ h) fun _ _ h => bnn_cg h fun _ _ _ h => ⟨h, rfl⟩
  split
  · refine bnc_cg (conF_cg _ _ h) fun a b h => ?_
    unfold gL
    split
    · exact kE_cg h
    · exact ⟨h, rfl⟩
  split
  · exact kE_cg h
  · exact ⟨h, rfl⟩
theorem claS_cg {j : Nat} {s t : PS} (h : psE s t) : pcE (claS src e j s) (claS src e j t) := by
  unfold claS
  rw [h.1]
  split
  · split
    · exact rfl
    · exact claG_cg h.adv
  · exact rfl
def plE (r q : PLs) : Prop := match r, q with
  | .ok s, .ok t => psE s.1 t.1 ∧ s.2 = t.2
  | .error a, .error b => a = b
  | _, _ => False
theorem texL_cg : ∀ (k : Nat) (s t : PS) (l : List CLT), psE s t → plE (texL src e k s l) (texL src e k t l) := by
  intro k
  induction k with
  | zero => intro s t l h; show (4, s.1) = ((4, t.1) : Int × Nat); rw [h.1]
  | succ k ih =>
    intro s t l h
    rw [texL_s, texL_s]
    have hc := claS_cg (src := src) (e := e) (j := l.length) h
    cases h1 : claS src e l.length s with
    | error a =>
      rw [h1] at hc
      cases h2 : claS src e l.length t with
      | error b => rw [h2] at hc; exact hc
      | ok r => rw [h2] at hc; exact hc.elim
    | ok r =>
      rw [h1] at hc
      cases h2 : claS src e l.length t with
      | error b => rw [h2] at hc; exact hc.elim
      | ok q =>
        rw [h2] at hc
        obtain ⟨c1, c2⟩ := hc
        show plE (if e ≤ r.1.1 then _ else _) (if e ≤ q.1.1 then _ else _)
        rw [c1.1, c2]
        by_cases g : e ≤ q.1.1
        · rw [if_pos g, if_pos g]; exact ⟨c1, rfl⟩
        · rw [if_neg g, if_neg g]
          have ht := tak_cg (src := src) (e := e) (c := 59) _ _ c1
          cases h3 : tak src e 59 r.1 with
          | error a =>
            rw [h3] at ht
            cases h4 : tak src e 59 q.1 with
            | error b => rw [h4] at ht; exact ht
            | ok u => rw [h4] at ht; exact ht.elim
          | ok u =>
            rw [h3] at ht
            cases h4 : tak src e 59 q.1 with
            | error b => rw [h4] at ht; exact ht.elim
            | ok v => rw [h4] at ht; exact ih u v _ ht
theorem texF_cg {s t : PS} (h : psE s t) : plE (texF src e s) (texF src e t) := texL_cg 13 s t [] h
theorem reaF_cg : Cgr (reaF src e) := fun s t h => peE_bnd (conF_cg _ _ h) fun a b hab => by
  show peE (if _ then _ else _) (if _ then _ else _)
  rw [hab.1]
  by_cases q : b.1 < e
  · rw [if_pos q, if_pos q]; exact rfl
  · rw [if_neg q, if_neg q]; exact hab
end T9
