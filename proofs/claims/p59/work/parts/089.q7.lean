/-! ### a day: the class's stations, then its ships -/
section Q7
variable {K K0 K1 K2 : Kmap} {V V0 V1 V2 V3 W W0 W1 W2 : Vmap} {x m o t q f N l : Nat} {i j n e d p a b w z y v X Y Z D : Int} {r u g c : Nat → Int} {k s : Nat}
/-- nests' counts stay -/
def NST' (V W : Vmap) (x : Nat) : Prop := ∀ u : Nat, (u : Int) < vi V x 6 → pkd V x u = 5 → stv W (plO V x u) = stv V (plO V x u)
def DKD (V : Vmap) (x : Nat) (d : Int) : Prop := d ≠ 0 ↔ vi V (vq V x 0) 1 ≤ wrem (tdy V x + 1) 360 ∧ wrem (tdy V x + 1) 360 ≤ vi V (vq V x 0) 2
/-- the land's days of dark stay, and the day has come -/
def DKS (V W : Vmap) (x : Nat) : Prop := tdy W x = tdy V x + 1 ∧ vi W (vq W x 0) 1 = vi V (vq V x 0) 1 ∧ vi W (vq W x 0) 2 = vi V (vq V x 0) 2
def CSI (K : Kmap) (V W : Vmap) (x : Nat) (i : Int) : Prop := PLI V x → RWX K V x → RWX K W x ∧ NST' V W x ∧ ∃ d, DKD V x d ∧ ∀ j : Nat, (j : Int) < vi V x 6 → pkd V x j = 1 → stv W (plO V x j) = if (j : Int) < i ∧ vi V (plO V x j) 5 = 0 then pst d (vi W (plO V x j) 5) (stv V (plO V x j)) else stv V (plO V x j)
theorem plo_s (h : PLS V W x) (k : Nat) (hk : (k : Int) < vi V x 6) : plO W x k = plO V x k := vq_eq2 (h.2.2 k hk).1
theorem pkd_s (h : PLS V W x) (k : Nat) (hk : (k : Int) < vi V x 6) : pkd W x k = pkd V x k := congrArg (fun q : Int × Int × Int × Int => q.1) (h.2.2 k hk).2
theorem CSI.beg (hn : NUN K V W) (hp : PSI V W x 0) : CSI K V W x 0 := fun hI hR => by
  obtain ⟨-, p2, -, -⟩ := hp hI
  obtain ⟨n1, -, n3⟩ := hn.cn hR p2.1 (plo_s p2)
  refine ⟨n1, n3, if vi V (vq V x 0) 1 ≤ wrem (tdy V x + 1) 360 ∧ wrem (tdy V x + 1) 360 ≤ vi V (vq V x 0) 2 then 1 else 0, ?_, fun j hj h1 => ?_⟩
  · unfold DKD
    split
    · rename_i g
      exact ⟨fun _ => g, fun _ => by decide⟩
    · rename_i g
      exact ⟨fun e => absurd rfl e, fun e => absurd e g⟩
  · rw [if_neg (by omega)]
    exact (hn _ hR).2.2 _ (SX.of hj) (Or.inl h1)
theorem CSI.step (h : CSI K V W x i) (hp : PSI V W x i) (hp1 : PSI V W1 x n) (hs : PSN K W W1 x i) (hd : DKS V W x) (i0 : 0 ≤ i) (hi : i < vi W x 6) (hn : n = i + 1) : CSI K V W1 x n := fun hI hR => by
  obtain ⟨h1, h2, d, h3, h4⟩ := h hI hR
  obtain ⟨p1, p2, -, -⟩ := hp hI
  obtain ⟨-, q2, -, -⟩ := hp1 hI
  have hp' : ∀ u : Nat, (u : Int) < vi W x 6 → plO W1 x u = plO W x u := fun u hu => by
    rw [p2.1] at hu
    rw [plo_s q2 u hu, plo_s p2 u hu]
  have h6 : vi W1 x 6 = vi W x 6 := q2.1.trans p2.1.symm
  have hiV : (i.toNat : Int) < vi V x 6 := by
    have := p2.1
    omega
  have eO : ∀ j : Nat, (j : Int) < vi V x 6 → plO W x j = plO V x j := fun j hj => plo_s p2 j hj
  have e5 : ∀ (A : Vmap) (o : Nat), stv A o 5 = vi A o 5 := fun A o => stv_f (by decide) (by decide)
  rcases hs with ⟨s1, s2⟩ | ⟨s1, d', s2, s3⟩
  · obtain ⟨n1, -, n3⟩ := s2.cn h1 h6 hp'
    have nst := s1 p1.1
    refine ⟨n1, fun u hu h5 => ?_, d, h3, fun j hj hk => ?_⟩
    · have := n3 u (by rw [p2.1]; exact hu) (by rw [pkd_s p2 u hu]; exact h5)
      rw [eO u hu] at this
      exact this.trans (h2 u hu h5)
    · have e : stv W1 (plO V x j) = stv W (plO V x j) := by
        have := (s2 _ h1).2.2 (plO W x j) (SX.of (by rw [p2.1]; exact hj)) (Or.inl (by
          have := pkd_s p2 j hj
          unfold pkd at this hk
          rw [this]
          exact hk))
        rw [eO j hj] at this
        exact this
      have ev : vi W1 (plO V x j) 5 = vi W (plO V x j) 5 := by rw [← e5, ← e5, e]
      rw [e, h4 j hj hk, ev]
      by_cases q : (j : Int) = i
      · have nl : vi V (plO V x j) 5 ≠ 0 := fun g => by
          refine nst ⟨⟨i0, hi, ?_⟩, ?_⟩
          · rw [show i.toNat = j by omega, pkd_s p2 j hj]
            exact hk
          · rw [show i.toNat = j by omega, eO j hj, ← e5, h4 j hj hk, if_neg (by omega), e5]
            exact g
        rw [if_neg (fun g => nl g.2), if_neg (fun g => nl g.2)]
      · by_cases g : (j : Int) < i ∧ vi V (plO V x j) 5 = 0
        · rw [if_pos g, if_pos ⟨by omega, g.2⟩]
        · rw [if_neg g, if_neg (fun e => g ⟨by omega, e.2⟩)]
  · obtain ⟨⟨-, -, k1⟩, l1⟩ := s1
    have hiW : (i.toNat : Int) < vi W x 6 := by omega
    obtain ⟨a1, a2, a3, a4⟩ := s3 _ h1 (SX.of hiW) k1
    obtain ⟨n1, -, n3⟩ := s3.cn h1 p1 hiW k1 h6 hp'
    have ed : d' ≠ 0 ↔ d ≠ 0 := by
      unfold DKC at s2
      unfold DKD at h3
      rw [hd.1, hd.2.1, hd.2.2] at s2
      rw [s2, h3]
    refine ⟨n1, fun u hu h5 => ?_, d, h3, fun j hj hk => ?_⟩
    · have := n3 u (by rw [p2.1]; exact hu) (by rw [pkd_s p2 u hu]; exact h5)
      rw [eO u hu] at this
      exact this.trans (h2 u hu h5)
    · by_cases q : j = i.toNat
      · subst q
        have lV : vi V (plO V x i.toNat) 5 = 0 := by
          have g := congrFun (h4 _ hj hk) 5
          rw [if_neg (by omega), e5, e5] at g
          rw [← g, ← eO _ hj]
          exact l1
        have eW : stv W (plO V x i.toNat) = stv V (plO V x i.toNat) := by rw [h4 _ hj hk, if_neg (by omega)]
        rw [eO _ hj] at a3
        rw [a3, if_pos ⟨by omega, lV⟩, eW]
        unfold pst
        rw [pss_cong' ed]
      · have nO : plO W x j ≠ plO W x i.toNat := by
          rcases Nat.lt_or_gt_of_ne q with g | g
          · exact p1.2.1 j i.toNat g hiW
          · exact (p1.2.1 i.toNat j g (by rw [p2.1]; exact hj)).symm
        have kj : vi W (plO W x j) 0 = 1 := by
          have := pkd_s p2 j hj
          unfold pkd at this hk
          rw [this]
          exact hk
        have e := a4 _ (SX.of (by rw [p2.1]; exact hj)) nO (Or.inl kj)
        rw [eO j hj] at e
        have ev : vi W1 (plO V x j) 5 = vi W (plO V x j) 5 := by rw [← e5, ← e5, e]
        rw [e, h4 j hj hk, ev]
        by_cases g : (j : Int) < i ∧ vi V (plO V x j) 5 = 0
        · rw [if_pos g, if_pos ⟨by omega, g.2⟩]
        · rw [if_neg g, if_neg (fun e => g ⟨by omega, e.2⟩)]
/-! ships -/
def cSh (V : Vmap) (x : Nat) : Nat → Nat → Int := fun s => if (s : Int) < vi V x 10 then shv V (shO V x s) else fun _ => 0
/-- ships are there, and no two are one -/
def SHP (V : Vmap) (x : Nat) : Prop := SN V x ∧ (∀ i j : Nat, i < j → (j : Int) < vi V x 10 → shO V x i ≠ shO V x j) ∧ ∀ s : Nat, (s : Int) < vi V x 10 → shv V (shO V x s) 3 ≠ 0 → 0 ≤ shv V (shO V x s) 4 ∧ shv V (shO V x s) 4 ≤ 3
def SOS' (V W : Vmap) (x : Nat) : Prop := vi W x 10 = vi V x 10 ∧ ∀ s : Nat, (s : Int) < vi V x 10 → V (vq V x 9) s = W (vq W x 9) s
theorem sho_s (h : SOS' V W x) (s : Nat) (hs : (s : Int) < vi V x 10) : shO W x s = shO V x s := vq_eq2 (h.2 s hs).symm
def sobit2 (ws : Nat) : Bool := [keyK (0, 10) 9, keyK (0, 10) 10, abase + 8].all fun b => !ws.testBit b
theorem SOS'.fr {ws : Nat} (hF : FR ws K V K1 V1) (hE : ext K K1) (hW : WT K V) (hx : K x = some (0, 10)) (hb : sobit2 ws = true) : SOS' V V1 x := by
  simp only [sobit2, List.all_cons, List.all_nil, Bool.and_true, Bool.and_eq_true, Bool.not_eq_true'] at hb
  obtain ⟨c9, c10, a⟩ := hb
  have hx1 := hE.obj (Or.inl (by decide)) hx
  have hA := sh_row hW hx
  have e9 : vq V1 x 9 = vq V x 9 := vq_eq (hF x _ 9 hx hx1 c9)
  refine ⟨vi_fr hF hx hx1 c10, fun s _ => ?_⟩
  rw [e9]
  exact (hF _ _ s hA (hE.arr hA) a).symm
theorem SOS'.tr (h : SOS' V W x) (g : SOS' W W1 x) : SOS' V W1 x := ⟨g.1.trans h.1, fun s hs => (h.2 s hs).trans (g.2 s (by rw [h.1]; exact hs))⟩
theorem SOS'.rf : SOS' V V x := ⟨rfl, fun _ _ => rfl⟩
theorem SHX.cs (h : SHX K V W) (g : SOS' V W x) (hk : ∀ s : Nat, (s : Int) < vi V x 10 → K (shO V x s) = some (0, 6)) : cSh W x = cSh V x := by
  funext s
  unfold cSh
  rw [g.1]
  by_cases q : (s : Int) < vi V x 10
  · rw [if_pos q, if_pos q, sho_s g s q]
    exact h _ (hk s q)
  · rw [if_neg q, if_neg q]
theorem SHU.cs (h : SHU K V W (shO V x s) r) (g : SOS' V W x) (hs : (s : Int) < vi V x 10) (hd : ∀ i j : Nat, i < j → (j : Int) < vi V x 10 → shO V x i ≠ shO V x j) (hk : ∀ s : Nat, (s : Int) < vi V x 10 → K (shO V x s) = some (0, 6)) : cSh W x = upg (cSh V x) s r := by
  funext u
  unfold upg cSh
  rw [g.1]
  by_cases q : u = s
  · subst q
    rw [if_pos hs, if_pos rfl, sho_s g u hs]
    exact h.1
  · rw [if_neg q]
    by_cases q2 : (u : Int) < vi V x 10
    · rw [if_pos q2, if_pos q2, sho_s g u q2]
      refine h.2 _ (hk u q2) ?_
      rcases Nat.lt_or_gt_of_ne q with l | l
      · exact hd u s l hs
      · exact (hd s u l q2).symm
    · rw [if_neg q2, if_neg q2]
theorem SHC.keep {D cov : Int} {ok : Prop} {t g t' g' : Nat → Int} (h : SHC D cov ok t g t' g') : t' 4 = t 4 ∧ t' 5 = t 5 ∧ (t' 3 ≠ 0 → t 3 ≠ 0) := by
  have T : ∀ (t : Nat → Int) f, f ≠ 3 → f ≠ 8 → tb3 D t f = t f := fun t => (tb3_is (D := D) (t := t)).2.2
  rcases h with ⟨h1, -, -, e, -⟩ | ⟨h1, -, -, e, -⟩ | ⟨h1, -, e, -⟩ | ⟨-, h1, -, e, -⟩ | ⟨-, -, e, -⟩
  · subst e
    unfold mtc at h1
    unfold arr
    refine ⟨?_, ?_, fun _ => by omega⟩
    · rw [T _ 4 (by decide) (by decide), updf_of (by decide), updf_of (by decide)]
    · rw [T _ 5 (by decide) (by decide), updf_of (by decide), updf_of (by decide)]
  · subst e
    unfold mtc at h1
    exact ⟨T _ 4 (by decide) (by decide), T _ 5 (by decide) (by decide), fun _ => by omega⟩
  · subst e
    unfold mtc at h1
    unfold wtg
    split
    · refine ⟨?_, ?_, fun _ => by omega⟩
      · rw [T _ 4 (by decide) (by decide), updf_of (by decide), updf_of (by decide)]
      · rw [T _ 5 (by decide) (by decide), updf_of (by decide), updf_of (by decide)]
    · refine ⟨?_, ?_, fun _ => by omega⟩
      · rw [updf_of (by decide), updf_of (by decide)]
      · rw [updf_of (by decide), updf_of (by decide)]
  · subst e
    unfold hme
    refine ⟨?_, ?_, fun _ => by omega⟩
    · rw [updf_of (by decide), updf_of (by decide), updf_of (by decide)]
    · rw [updf_of (by decide), updf_of (by decide), updf_of (by decide)]
  · subst e
    exact ⟨rfl, rfl, fun h => h⟩
theorem RNC.keep {D : Int} {cov : Int → Int} {ok : Int → Prop} {a : SHS} : ∀ s b, RNC D cov ok a s b → ∀ u, b.1 u 4 = a.1 u 4 ∧ b.1 u 5 = a.1 u 5 ∧ (b.1 u 3 ≠ 0 → a.1 u 3 ≠ 0) := by
  intro s
  induction s with
  | zero =>
    intro b h u
    have h' : b = a := h
    rw [h']
    exact ⟨rfl, rfl, fun h => h⟩
  | succ s ih =>
    intro b h u
    obtain ⟨c, c1, t', g', c2, c3, -⟩ := h
    obtain ⟨i1, i2, i3⟩ := ih c c1 u
    obtain ⟨k1, k2, k3⟩ := c2.keep
    rw [c3]
    by_cases q : u = s
    · subst q
      rw [upg_at, k1, k2]
      exact ⟨i1, i2, fun h => i3 (k3 h)⟩
    · rw [upg_of q]
      exact ⟨i1, i2, i3⟩
/-- one ship's day, seen from the class -/
theorem PSH.sgc (h : PSH K W W1 x (shO W x s)) (hs : (s : Int) < vi W x 10) (hI : PLI W x) (hR : RWX K W x) (hP : SHP W x) (hk : ∀ s : Nat, (s : Int) < vi W x 10 → K (shO W x s) = some (0, 6)) (hg : SOS' W W1 x) (hp : PLS W W1 x) (d0 : 0 ≤ tdy W x) (d9 : tdy W x ≤ 3599) : SGC (tdy W x) (cvr W x) (OKC W x) s (cSh W x, cN W x) (cSh W1 x, cN W1 x) ∧ RWX K W1 x ∧ NST' W W1 x := by
  have hC : CLN W x := fun k hk => (hI.2.2.1 k hk).1
  have ec : cSh W x s = shv W (shO W x s) := by unfold cSh; rw [if_pos hs]
  have nu : ∀ t', SHU K W W1 (shO W x s) t' → NUN K W W1 → SHC (tdy W x) (cvr W x (shv W (shO W x s) 4)) (OKC W x (shv W (shO W x s) 5)) (shv W (shO W x s)) (cN W x (shv W (shO W x s) 5).toNat) t' (cN W x (shv W (shO W x s) 5).toNat) → SGC (tdy W x) (cvr W x) (OKC W x) s (cSh W x, cN W x) (cSh W1 x, cN W1 x) ∧ RWX K W1 x ∧ NST' W W1 x := fun t' a1 a2 a3 => by
    obtain ⟨n1, n2, n3⟩ := a2.cn hR hp.1 (plo_s hp)
    refine ⟨⟨t', cN W x (shv W (shO W x s) 5).toNat, ?_, a1.cs hg hs hP.2.1 hk, ?_⟩, n1, n3⟩
    · show SHC (tdy W x) (cvr W x (cSh W x s 4)) (OKC W x (cSh W x s 5)) (cSh W x s) (cN W x (cSh W x s 5).toNat) _ _
      rw [ec]
      exact a3
    · show cN W1 x = upg (cN W x) (cSh W x s 5).toNat _
      rw [ec, n2, upg_id rfl]
  rcases h hI.1 hC (hP.2.2 s hs) d0 d9 with ⟨a1, a2, a3, a4⟩ | ⟨a1, a2, a3, a4, a5⟩ | ⟨a1, a2, a3, a4⟩ | ⟨a1, a2, a3, a4, a5⟩ | ⟨a1, a2, a3, a4⟩
  · obtain ⟨⟨q1, q2, k1⟩, -⟩ := a3.1
    have hkk : ((shv W (shO W x s) 5).toNat : Int) < vi W x 6 := by omega
    have hN : NUF K W W1 (plO W x (shv W (shO W x s) 5).toNat) (arp (shv W (shO W x s)) (stv W (plO W x (shv W (shO W x s) 5).toNat))).2 := fun S hS ho h1 => (a4.1 S hS ho h1).1
    obtain ⟨n1, n2, n3⟩ := hN.cn hR hI hkk k1 hp.1 (plo_s hp)
    have eS : shv W1 (shO W x s) = arr (tdy W x) (shv W (shO W x s)) (stv W (plO W x (shv W (shO W x s) 5).toNat)) := (a4.1 _ hR (SX.of hkk) k1).2
    have eN : cN W x (shv W (shO W x s) 5).toNat = stv W (plO W x (shv W (shO W x s) 5).toNat) := cN_at hkk k1
    refine ⟨⟨_, (arp (shv W (shO W x s)) (stv W (plO W x (shv W (shO W x s) 5).toNat))).2, ?_, SHU.cs ⟨eS, a4.2⟩ hg hs hP.2.1 hk, ?_⟩, n1, n3⟩
    · show SHC (tdy W x) (cvr W x (cSh W x s 4)) (OKC W x (cSh W x s 5)) (cSh W x s) (cN W x (cSh W x s 5).toNat) _ _
      rw [ec, eN]
      exact Or.inl ⟨a1, a2, a3, rfl, rfl⟩
    · show cN W1 x = upg (cN W x) (cSh W x s 5).toNat _
      rw [ec]
      exact n2
  · exact nu _ a4 a5 (Or.inr (Or.inl ⟨a1, a2, a3, rfl, rfl⟩))
  · exact nu _ a3 a4 (Or.inr (Or.inr (Or.inl ⟨a1, a2, rfl, rfl⟩)))
  · exact nu _ a4 a5 (Or.inr (Or.inr (Or.inr (Or.inl ⟨a1, a2, a3, rfl, rfl⟩))))
  · exact nu _ a3 a4 (Or.inr (Or.inr (Or.inr (Or.inr ⟨a1, a2, rfl, rfl⟩))))
end Q7
