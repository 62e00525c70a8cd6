/-! ### the start, and the calls that neither side's places hear of -/
section PG
variable {K K0 K1 K2 : Kmap} {V V0 V1 V2 V3 V4 : Vmap} {x m o l : Nat} {i n p s c d w h X Y Z : Int}
/-- a new land -/
def LDZ (K : Kmap) (V : Vmap) (x : Nat) : Prop := K (vq V x 5) = some (125 + 1, 144) ∧ K (vq V x 6) = some (126 + 1, 144) ∧ K (vq V x 7) = some (127 + 1, 144) ∧ K (vq V x 8) = some (128 + 1, 144) ∧ vi V x 3 = 8 ∧ vi V x 4 = 8 ∧ (∀ j : Nat, j < 144 → vi V (vq V x 5) j = 0) ∧ (∀ j : Nat, j < 144 → vi V (vq V x 6) j = 0) ∧ (∀ j : Nat, j < 144 → vi V (vq V x 7) j = -1) ∧ ∀ j : Nat, j < 144 → vi V (vq V x 8) j = 0
theorem LDZ.mk {a7 N : Nat} (f3 : V x 3 = ti 8) (f4 : V x 4 = ti 8) (f7 : V x 7 = .ref a7) (k5 : K (vq V x 5) = some (125 + 1, 144)) (k6 : K (vq V x 6) = some (126 + 1, 144)) (k7 : K a7 = some (127 + 1, 144)) (k8 : K (vq V x 8) = some (128 + 1, 144)) (z5 : ZR K0 V x 5 144 0) (z6 : ZR K0 V x 6 144 0) (z8 : ZR K0 V x 8 144 0) (f : FLL V0 V a7 N (-1)) (hN : 144 ≤ N) : LDZ K V x := by
  have e7 : vq V x 7 = a7 := vq_of f7
  refine ⟨k5, k6, by rw [e7]; exact k7, k8, vi_at f3 (ir_c rfl), vi_at f4 (ir_c rfl), z5.2, z6.2, fun j hj => ?_, z8.2⟩
  rw [e7]
  exact f.1 j (by omega)
/-- the land at the start -/
def LDI (V : Vmap) (x : Nat) : Prop := (vi V (vq V x 0) 3) = 8 ∧ (vi V (vq V x 0) 4) = 8 ∧ (∀ j : Nat, j < 144 → vi V (vq V (vq V x 0) 5) j = 0) ∧ (∀ j : Nat, j < 144 → vi V (vq V (vq V x 0) 6) j = 0) ∧ (∀ j : Nat, j < 144 → vi V (vq V (vq V x 0) 7) j = -1) ∧ ∀ j : Nat, j < 144 → vi V (vq V (vq V x 0) 8) j = 0
theorem LDI.at (e : V x 0 = .ref o) (hl : ∀ j, V o j = V0 o j) (h5 : ∀ j, V (vq V0 o 5) j = V0 (vq V0 o 5) j) (h6 : ∀ j, V (vq V0 o 6) j = V0 (vq V0 o 6) j) (h7 : ∀ j, V (vq V0 o 7) j = V0 (vq V0 o 7) j) (h8 : ∀ j, V (vq V0 o 8) j = V0 (vq V0 o 8) j) (z : LDZ K V0 o) : LDI V x := by
  obtain ⟨-, -, -, -, z3, z4, z5, z6, z7, z8⟩ := z
  have e0 : vq V x 0 = o := vq_of e
  unfold LDI
  rw [e0, vi_eq (hl 3), vi_eq (hl 4), vq_eq (hl 5), vq_eq (hl 6), vq_eq (hl 7), vq_eq (hl 8)]
  exact ⟨z3, z4, fun j hj => by rw [vi_eq (h5 j)]; exact z5 j hj, fun j hj => by rw [vi_eq (h6 j)]; exact z6 j hj, fun j hj => by rw [vi_eq (h7 j)]; exact z7 j hj, fun j hj => by rw [vi_eq (h8 j)]; exact z8 j hj⟩
theorem rgv_all {a : Nat} {v : Int} (h : ∀ j : Nat, j < 144 → vi V a j = v) (z : Int) : rgv V a 144 z = if 0 ≤ z ∧ z < 144 then v else 0 := by
  unfold rgv
  by_cases q : 0 ≤ z ∧ z < 144
  · rw [if_pos q, if_pos (by omega)]
    exact h z.toNat (by omega)
  · rw [if_neg q, if_neg (by omega)]
theorem all_rgv {a b : Nat} {v : Int} (e : rgv V1 a 144 = rgv V b 144) (h : ∀ j : Nat, j < 144 → vi V b j = v) (j : Nat) (hj : j < 144) : vi V1 a j = v := by
  have h1 := congrFun e (j : Int)
  unfold rgv at h1
  rw [if_pos (by omega), if_pos (by omega), Int.toNat_natCast] at h1
  rw [h1]
  exact h j hj
theorem LDI.same (h : LDI V x) (g : LDS V V1 x) : LDI V1 x := by
  obtain ⟨h1, h2, h5, h6, h7, h8⟩ := h
  obtain ⟨g1, g2, g3⟩ := g
  exact ⟨g1.trans h1, g2.trans h2, all_rgv (g3 5 (by decide) (by decide)) h5, all_rgv (g3 6 (by decide) (by decide)) h6, all_rgv (g3 7 (by decide) (by decide)) h7, all_rgv (g3 8 (by decide) (by decide)) h8⟩
/-! the reference's start -/
def BGR (V : Vmap) (a5 a6 a7 a8 : Nat) (i : Int) : Prop := ∀ j : Nat, (j : Int) < i → vi V a5 j = 0 ∧ vi V a6 j = 0 ∧ vi V a7 j = -1 ∧ vi V a8 j = 0
theorem BGR.beg {a5 a6 a7 a8 : Nat} : BGR V a5 a6 a7 a8 0 := fun j hj => by omega
theorem BGR.step {a5 a6 a7 a8 : Nat} (h : BGR V a5 a6 a7 a8 i) (n56 : a5 ≠ a6) (n57 : a5 ≠ a7) (n58 : a5 ≠ a8) (n67 : a6 ≠ a7) (n68 : a6 ≠ a8) (n78 : a7 ≠ a8) (e5 : V1 = upd2 V a5 i.toNat (ti 0)) (e6 : V2 = upd2 V1 a6 i.toNat (ti 0)) (e7 : V3 = upd2 V2 a7 i.toNat (ti (-1))) (e8 : V4 = upd2 V3 a8 i.toNat (ti 0)) (h0 : 0 ≤ i) (hn : n = i + 1) : BGR V4 a5 a6 a7 a8 n := fun j hj => by
  by_cases q : j = i.toNat
  · subst q
    refine ⟨?_, ?_, ?_, upd2_int e8 (ir_c rfl)⟩
    · rw [vi_up e8 (Or.inl n58), vi_up e7 (Or.inl n57), vi_up e6 (Or.inl n56)]
      exact upd2_int e5 (ir_c rfl)
    · rw [vi_up e8 (Or.inl n68), vi_up e7 (Or.inl n67)]
      exact upd2_int e6 (ir_c rfl)
    · rw [vi_up e8 (Or.inl n78)]
      exact upd2_int e7 (ir_c rfl)
  · obtain ⟨b5, b6, b7, b8⟩ := h j (by omega)
    refine ⟨?_, ?_, ?_, ?_⟩
    · rw [vi_up e8 (Or.inr q), vi_up e7 (Or.inr q), vi_up e6 (Or.inr q), vi_up e5 (Or.inr q)]
      exact b5
    · rw [vi_up e8 (Or.inr q), vi_up e7 (Or.inr q), vi_up e6 (Or.inr q), vi_up e5 (Or.inr q)]
      exact b6
    · rw [vi_up e8 (Or.inr q), vi_up e7 (Or.inr q), vi_up e6 (Or.inr q), vi_up e5 (Or.inr q)]
      exact b7
    · rw [vi_up e8 (Or.inr q), vi_up e7 (Or.inr q), vi_up e6 (Or.inr q), vi_up e5 (Or.inr q)]
      exact b8
theorem MBG.raw {a5 a6 a7 a8 : Nat} (f0 : V x 0 = ti 8) (f1 : V x 1 = ti 8) (v5 : V x 5 = .ref a5) (v6 : V x 6 = .ref a6) (v7 : V x 7 = .ref a7) (v8 : V x 8 = .ref a8) (hb : BGR V a5 a6 a7 a8 144) : MBG V x 8 8 := by
  unfold MBG ar
  rw [vq_of v5, vq_of v6, vq_of v7, vq_of v8]
  exact ⟨vi_at f0 (ir_c rfl), vi_at f1 (ir_c rfl), fun j hj => (hb j (by omega)).1, fun j hj => (hb j (by omega)).2.1, fun j hj => (hb j (by omega)).2.2.1, fun j hj => (hb j (by omega)).2.2.2⟩
theorem MBG.put {a t N j : Nat} {v : Value} (h : MBG V m p s) (hW : WT K V) (hm : K m = some (0, 11)) (e : V1 = upd2 V a j v) (ha : K a = some (t + 1, N)) (ht : t ≠ 9 ∧ t ≠ 10 ∧ t ≠ 11 ∧ t ≠ 12) : MBG V1 m p s := by
  obtain ⟨k5, k6, k7, k8⟩ := mrI_at hW hm
  have nm : m ≠ a := K_ne hm ha (fun e => absurd (congrArg Prod.fst e) (by show ¬ (0 = t + 1); omega))
  have n5 : vq V m 5 ≠ a := K_ne k5 ha (fun e => absurd (congrArg Prod.fst e) (by show ¬ (9 + 1 = t + 1); omega))
  have n6 : vq V m 6 ≠ a := K_ne k6 ha (fun e => absurd (congrArg Prod.fst e) (by show ¬ (10 + 1 = t + 1); omega))
  have n7 : vq V m 7 ≠ a := K_ne k7 ha (fun e => absurd (congrArg Prod.fst e) (by show ¬ (11 + 1 = t + 1); omega))
  have n8 : vq V m 8 ≠ a := K_ne k8 ha (fun e => absurd (congrArg Prod.fst e) (by show ¬ (12 + 1 = t + 1); omega))
  obtain ⟨h0, h1, h5, h6, h7, h8⟩ := h
  unfold MBG ar
  rw [vi_up e (Or.inl nm), vi_up e (Or.inl nm), vq_up e (Or.inl nm), vq_up e (Or.inl nm), vq_up e (Or.inl nm), vq_up e (Or.inl nm)]
  exact ⟨h0, h1, fun j hj => (vi_up e (Or.inl n5)).trans (h5 j hj), fun j hj => (vi_up e (Or.inl n6)).trans (h6 j hj), fun j hj => (vi_up e (Or.inl n7)).trans (h7 j hj), fun j hj => (vi_up e (Or.inl n8)).trans (h8 j hj)⟩
theorem PLE.start (h6 : vi V x 6 = 0) (h10 : vi V m 10 = 0) (hz : ZB V m 28 60) (hl : LDI V x) (hb : MBG V m 8 8) : PLE V x m := by
  obtain ⟨l1, l2, l5, l6, l7, l8⟩ := hl
  obtain ⟨b1, b2, b5, b6, b7, b8⟩ := hb
  refine PLE.nil h6 h10 (fun k hk => hz k hk) (l1.trans b1.symm) (l2.trans b2.symm) (fun s h5 h8 => ?_) (fun z => ?_)
  · have hs : s = 5 ∨ s = 6 ∨ s = 7 ∨ s = 8 := by omega
    rcases hs with rfl | rfl | rfl | rfl
    · exact funext fun z => (rgv_all l5 z).trans (rgv_all (a := vq V m 5) b5 z).symm
    · exact funext fun z => (rgv_all l6 z).trans (rgv_all (a := vq V m 6) b6 z).symm
    · exact funext fun z => (rgv_all l7 z).trans (rgv_all (a := vq V m 7) b7 z).symm
    · exact funext fun z => (rgv_all l8 z).trans (rgv_all (a := vq V m 8) b8 z).symm
  · rw [rgv_all l7 z]
    split <;> exact ⟨by decide, by decide⟩
/-! work() -/
def WKD (np w h n d kd p c u v a b : Int) : Prop := 0 ≤ kd ∧ kd ≤ 9 ∧ 0 ≤ p ∧ p < np ∧ (0 ≤ c ∧ c < w * h) ∧ n < 100 ∧ d ≤ u ∧ 0 ≤ u ∧ u ≤ v ∧ v ≤ 3599 ∧ 0 ≤ a ∧ a ≤ 500 ∧ 0 ≤ b ∧ b ≤ 99
theorem WKD.both {np n d kd q u v a b np' n' d' : Int} {ws : Nat} (h : PLE V x m) (hm : K m = some (0, 11)) (hW : WT K V) (hE : ext K K1) (hF : FR ws K V K1 V1) (hp : np = np') (hn : n = n') (hd : d = d') (f : X ≠ -1 ↔ WKD np ((vi V (vq V x 0) 3)) ((vi V (vq V x 0) 4)) n d kd q c u v a b) (f1 : Y ≠ -1 ↔ WKD np' (vi V1 m 0) (vi V1 m 1) n' d' kd q c u v a b) (b3 : mlbits ws = true) : X ≠ -1 ↔ Y ≠ -1 := by
  obtain ⟨-, -, r1, r2, -⟩ := h
  have g := MLD.fr hF hE hW hm b3
  rw [f, f1, g.1, g.2.1, ← r1, ← r2, hp, hn, hd]
end PG
