/-! ### texts and readings, clause by clause -/
abbrev PLs : Type := Except (Int × Nat) (PS × List CLT)
def texL (src : Nat → Int) (e : Nat) : Nat → PS → List CLT → PLs
  | 0, s, _ => .error (4, s.1)
  | k + 1, s, l => match claS src e l.length s with
    | .ok r => if e ≤ r.1.1 then .ok (r.1, l ++ [r.2]) else (match tak src e 59 r.1 with
      | .ok s2 => texL src e k s2 (l ++ [r.2])
      | .error q => .error q)
    | .error q => .error q
def texF (src : Nat → Int) (e : Nat) (s : PS) : PLs := texL src e 13 s []
def reaF (src : Nat → Int) (e : Nat) (s : PS) : PE := bnd (conF src e s) (fun s1 => if s1.1 < e then .error (1, s1.1) else .ok s1)
section T8
variable {K : Kmap} {V V0 V1 V2 V3 V4 V5 V6 : Vmap} {x m d d1 : Nat} {l : List CLT} {row : CLT} {st en j : Int} {f g : (Nat → Int) → Nat → PS → PE}
theorem texL_s {src : Nat → Int} {e k : Nat} {s : PS} {l : List CLT} : texL src e (k + 1) s l = match claS src e l.length s with
    | .ok r => if e ≤ r.1.1 then .ok (r.1, l ++ [r.2]) else (match tak src e 59 r.1 with
      | .ok s2 => texL src e k s2 (l ++ [r.2])
      | .error q => .error q)
    | .error q => .error q := rfl
theorem CLC.len (h : CLC K V x m l) : l.length ≤ 12 := by
  obtain ⟨⟨-, -, a, -⟩, -, b, c, -⟩ := h
  have : vi V (cbT V x) 3 = ((l.length : Nat) : Int) := c
  omega
/-- in writeText() -/
def TXI (K : Kmap) (V0 V : Vmap) (x : Nat) (j : Int) : Prop := ∀ src e s0, AT K V0 x src e s0 → s0.2.1 ≤ s0.1 → CLC K V0 x 12 [] → SFR V0 V x ∧ ((∃ s l, AT K V x src e s ∧ s.2.1 ≤ s.1 ∧ CLC K V x 12 l ∧ (l.length : Int) = j ∧ texF src e s0 = texL src e (13 - l.length) s l) ∨ ∃ q, FELL K V x src e q ∧ texF src e s0 = .error q)
/-- writeText() -/
def TXR (K : Kmap) (V0 V : Vmap) (x : Nat) : Prop := ∀ src e s0, AT K V0 x src e s0 → s0.2.1 ≤ s0.1 → CLC K V0 x 12 [] → SFR V0 V x ∧ match texF src e s0 with
  | .ok r => AT K V x src e r.1 ∧ CLC K V x 12 r.2
  | .error q => FELL K V x src e q
theorem TXI.nil : TXI K V V x 0 := fun src e s0 hs hn hl => ⟨SFR.rf, Or.inl ⟨s0, [], hs, hn, hl, rfl, rfl⟩⟩
theorem FELL.ne {src : Nat → Int} {e : Nat} {q : Int × Nat} (h : FELL K V x src e q) : vi V x 5 ≠ 0 := by
  rw [h.2.1]; exact h.2.2.2
theorem TXI.step (h : TXI K V0 V x j) (h0 : vi V x 5 = 0) (hc : CLS K V V1 x) (hf : vi V1 x 5 = 0) (hp : vi V1 x 3 < vi V1 x 1) (ht : CRg K V1 V2 x 0 1 0 (fun src e => tak src e 59)) (hS : CSame V1 V2 x) : TXI K V0 V2 x (j + 1) := fun src e s0 hs hn hl => by
  obtain ⟨h1, h2⟩ := h src e s0 hs hn hl
  rcases h2 with ⟨s, l, a1, a2, a3, a4, a5⟩ | ⟨q, a1, -⟩
  · obtain ⟨c1, c2⟩ := hc src e l s a1 a2 a3
    refine ⟨(h1.tr c1).tr ht.2, ?_⟩
    have h12 := a3.len
    rw [show 13 - l.length = (12 - l.length) + 1 by omega, texL_s] at a5
    cases hr : claS src e l.length s with
    | ok r =>
      rw [hr] at c2 a5
      obtain ⟨d1, d2, d3⟩ := c2
      have g1 : r.1.1 = (vi V1 x 3).toNat := by rw [← d1.2.2.1]; rfl
      have g2 : vi V1 x 1 = (e : Int) := d1.1.1
      have g3 := d1.2.2.2.1
      have r2 : RES K V2 x src e 1 0 r.1.2.1 r.1.1 (tak src e 59 r.1) := (ht.1 src e).1 r.1 d1 (by omega)
      have a5' : texF src e s0 = if e ≤ r.1.1 then .ok (r.1, l ++ [r.2]) else (match tak src e 59 r.1 with
        | .ok s2 => texL src e (12 - l.length) s2 (l ++ [r.2])
        | .error q => .error q) := a5
      rw [if_neg (by omega)] at a5'
      have hlen : (l ++ [r.2]).length = l.length + 1 := by simp
      cases hk : tak src e 59 r.1 with
      | ok s2 =>
        rw [hk] at r2 a5'
        refine Or.inl ⟨s2, l ++ [r.2], r2.1, by have := r2.2; omega, d3.same hS, by rw [hlen]; omega, ?_⟩
        rw [hlen, show 13 - (l.length + 1) = 12 - l.length by omega]
        exact a5'
      | error q =>
        rw [hk] at r2 a5'
        exact Or.inr ⟨q, r2, a5'⟩
    | error q =>
      rw [hr] at c2
      exact absurd hf (FELL.ne c2)
  · exact absurd h0 a1.ne
theorem TXI.ret (h : TXI K V0 V x j) (h0 : vi V x 5 = 0) (hc : CLS K V V1 x) (hr : vi V1 x 5 ≠ 0 ∨ vi V1 x 1 ≤ vi V1 x 3) : TXR K V0 V1 x := fun src e s0 hs hn hl => by
  obtain ⟨h1, h2⟩ := h src e s0 hs hn hl
  rcases h2 with ⟨s, l, a1, a2, a3, a4, a5⟩ | ⟨q, a1, -⟩
  · obtain ⟨c1, c2⟩ := hc src e l s a1 a2 a3
    refine ⟨h1.tr c1, ?_⟩
    have h12 := a3.len
    rw [show 13 - l.length = (12 - l.length) + 1 by omega, texL_s] at a5
    cases hr1 : claS src e l.length s with
    | ok r =>
      rw [hr1] at c2 a5
      obtain ⟨d1, d2, d3⟩ := c2
      have g1 : r.1.1 = (vi V1 x 3).toNat := by rw [← d1.2.2.1]; rfl
      have g2 : vi V1 x 1 = (e : Int) := d1.1.1
      have g3 := d1.2.2.2.1
      have a5' : texF src e s0 = if e ≤ r.1.1 then .ok (r.1, l ++ [r.2]) else (match tak src e 59 r.1 with
        | .ok s2 => texL src e (12 - l.length) s2 (l ++ [r.2])
        | .error q => .error q) := a5
      rcases hr with hr | hr
      · exact absurd d1.2.1 hr
      · rw [if_pos (by omega)] at a5'
        rw [a5']
        exact ⟨d1, d3⟩
    | error q =>
      rw [hr1] at c2 a5
      have a5' : texF src e s0 = .error q := a5
      rw [a5']
      exact c2
  · exact absurd h0 a1.ne
theorem TXI.end (h : TXI K V0 V x j) (he : 12 < j ∨ vi V x 5 ≠ 0) : TXR K V0 V x := fun src e s0 hs hn hl => by
  obtain ⟨h1, h2⟩ := h src e s0 hs hn hl
  refine ⟨h1, ?_⟩
  rcases h2 with ⟨s, l, a1, a2, a3, a4, a5⟩ | ⟨q, a1, a2⟩
  · have h12 := a3.len
    rcases he with he | he
    · omega
    · exact absurd a1.2.1 he
  · rw [a2]; exact a1
/-- writeReading() -/
def RDR (K : Kmap) (V0 V : Vmap) (x : Nat) : Prop := ∀ src e s0, AT K V0 x src e s0 → s0.2.1 ≤ s0.1 → CLC K V0 x 1 [] → SFR V0 V x ∧ match reaF src e s0 with
  | .ok s => AT K V x src e s
  | .error q => FELL K V x src e q
theorem RDR.mk {a X : Int} {ws : Nat} (hap : APP K V V1 (cbT V x) a 0 0 0 0 X) (ra : ir a) (hx : K x = some (0, 4)) (hW : WT K V) (hF : FR ws K V K V1) (hb : scbits ws = true) (hc : CNT K V1 V2 x) (he : (vi V2 x 1 ≤ vi V2 x 3 ∧ V3 = V2) ∨ (vi V2 x 3 < vi V2 x 1 ∧ WT K V2 ∧ ∃ w, ir w ∧ w = vi V2 x 3 ∧ RFS V2 V3 x 1 w)) : RDR K V V3 x := fun src e s0 hs hn hl => by
  have hl2 := hl
  obtain ⟨hRM, hm1, hm12, hn1, -, -⟩ := hl
  have hn2 : vi V (cbT V x) 3 = 0 := hn1
  have hX : X ≠ -1 := by
    rcases hap 6 1 (by decide) (by decide) hRM hm1 with ⟨q, -, -⟩ | ⟨-, q, -⟩
    · omega
    · omega
  obtain ⟨s1, p1⟩ := APP.clp hap hX hx hW ra hl2
  have hfr := CRg.fr hF hx hW hb s1
  have a1 : AT K V1 x src e s0 := ((hfr.1 src e).1 s0 hs (by omega)).1
  have r : RES K V2 x src e 0 0 s0.2.1 s0.1 (conF src e s0) := (hc.1.1 src e).1 s0 a1 (by omega)
  have sf : SFR V2 V3 x := by
    rcases he with ⟨-, rfl⟩ | ⟨-, hW2, w, -, -, hR⟩
    · exact SFR.rf
    · exact hR.sfr hx hW2 (ir_c rfl)
  refine ⟨(s1.tr hc.1.2).tr sf, ?_⟩
  unfold reaF
  cases hf : conF src e s0 with
  | error q =>
    rw [hf] at r
    show FELL K V3 x src e q
    rcases he with ⟨-, rfl⟩ | ⟨-, hW2, w, -, -, hR⟩
    · exact r
    · rcases hR with ⟨-, rfl⟩ | ⟨q0, -⟩
      · exact r
      · exact absurd q0 (FELL.ne r)
  | ok s =>
    rw [hf] at r
    obtain ⟨d1, -⟩ := r
    have g1 : s.1 = (vi V2 x 3).toNat := by rw [← d1.2.2.1]; rfl
    have g2 : vi V2 x 1 = (e : Int) := d1.1.1
    have g3 := d1.2.2.2.1
    rw [bnd_ok]
    rcases he with ⟨q, rfl⟩ | ⟨q, hW2, w, rw_, hw, hR⟩
    · rw [if_neg (by omega)]; exact d1
    · rw [if_pos (by omega)]
      have hm : s.2.1 ≤ s.1 + s.2.1 := by omega
      rcases hR with ⟨q0, -⟩ | ⟨-, W, e1, e2⟩
      · exact absurd d1.2.1 q0
      · have hW1 : WT K W := hW2.p5 hx (ir_c rfl) e1
        obtain ⟨p1, -⟩ := d1.1.put hx hW2 e1 (by omega)
        obtain ⟨r1, -⟩ := p1.put hx hW1 e2 (by omega)
        refine ⟨r1, ?_, ?_, by show (1 : Int) ≠ 0; decide⟩
        · rw [vi_up e2 (Or.inr (by decide)), upd2_int e1 (ir_c rfl)]
        · rw [upd2_int e2 rw_, hw]
          show _ = ((s.1 : Nat) : Int)
          omega
end T8
