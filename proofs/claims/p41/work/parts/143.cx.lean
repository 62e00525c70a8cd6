/-! ### what was weighed last stays right behind a reading -/
section CX
variable {K K1 : Kmap} {V V1 : Vmap} {x : Nat} {p i j n X : Int}
theorem CWI.read {ws : Nat} (h : CWI K V x) (f : CRX K K1 V V1 x p i j n X) (hN1 : PN V1 x) (hF : FR ws K V K1 V1) (hE : ext K K1) (hW : WT K V) (hx : K x = some (0, 10)) (b2 : ycbits ws = true) (b3 : cxbits ws = true) (b7 : cwbits ws = true) : CWI K1 V1 x := by
  obtain ⟨hN, L, h1, h2, h3⟩ := h
  have hlo := (lw_own hx hW).1
  have hlo1 := hE.obj (Or.inl (by decide)) hlo
  simp only [cxbits, List.all_cons, List.all_nil, Bool.and_true, Bool.and_eq_true, Bool.not_eq_true'] at b3
  obtain ⟨c1, c2, c4, c0⟩ := b3
  simp only [cwbits, List.all_cons, List.all_nil, Bool.and_true, Bool.and_eq_true, Bool.not_eq_true'] at b7
  have c7 := b7.2.2.1
  have s1 : lwO V1 x = lwO V x := vq_eq (hF x _ 1 hx (hE.obj (Or.inl (by decide)) hx) c0)
  obtain ⟨N, hA⟩ := (hW.ref hlo (j := 4) (Nat.le_of_ble_eq_true rfl) rfl).2
  have hY := YCS.fr hF hE hW hx hN b2
  have hL : CTS K1 V1 x L := by
    rcases f hN L h1 with ⟨-, -, q, -⟩ | ⟨-, -, q, -⟩
    · exact q
    · exact q
  refine ⟨hN1, L, hL, h2, fun h7 => ?_⟩
  rw [s1] at h7
  have e7 : vi V1 (lwO V x) 7 = vi V (lwO V x) 7 := vi_fr hF hlo hlo1 c7
  rw [e7] at h7
  refine (h3 h7).same s1 (vi_fr hF hlo hlo1 c2) e7 (by rw [hY.1]; exact Int.le_refl _) (fun u => ?_) (fun p hp i => (hY.2 p hp).2.2 i)
  unfold cnR
  rw [vq_eq (hF _ _ 4 hlo hlo1 c1)]
  exact vi_frA hF hA (hE.arr hA) c4
end CX
