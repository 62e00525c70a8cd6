/-! ### bounds of the days of yes -/
section YB
theorem ybd {K : Kmap} {V : Vmap} {p : Nat} {i Y : Int} (hW : WT K V) (hp : K p = some (0, 2)) (hY : Y = rgv V (vq V p 3) 20 i) (h0 : 0 ≤ i) (h20 : i < 20) : -1 ≤ Y ∧ Y ≤ 3599 := by
  obtain ⟨N, hA⟩ := (hW.ref hp (j := 3) (Nat.le_of_ble_eq_true rfl) rfl).2
  have hN : N = 20 := by
    rcases (hW.len hA).2.2 with h | h
    · exact absurd h (by decide)
    · exact h
  subst hN
  rw [← rgv_in (n := 20) h0 (by omega)] at hY
  rw [hY]
  exact (hW.int hA (j := i.toNat) (show i.toNat < 20 by omega) rfl).2
end YB
