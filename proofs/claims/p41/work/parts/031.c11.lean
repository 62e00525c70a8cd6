/-! ### bits of ints -/
def tb (z : Int) (k : Nat) : Bool := (Int32.ofInt z).toBitVec.getLsbD k
theorem i32_0 {a : Int32} : a.toInt = 0 ↔ ∀ k, k < 32 → a.toBitVec.getLsbD k = false := by
  constructor
  · intro h k _
    have e : a = 0 := Int32.toInt_inj.mp (h.trans Int32.toInt_zero.symm)
    rw [e]; simp
  · intro h
    have e : a = 0 := Int32.toBitVec_inj.mp (BitVec.eq_of_getLsbD_eq fun i hi => by rw [h i hi]; simp)
    rw [e]; rfl
theorem tb_wand {a b : Int} {k : Nat} : tb (wand a b) k = (tb a k && tb b k) := by
  unfold tb wand
  rw [of_toInt, Int32.toBitVec_and, BitVec.getLsbD_and]
theorem tb_wor {a b : Int} {k : Nat} : tb (wor a b) k = (tb a k || tb b k) := by
  unfold tb wor
  rw [of_toInt, Int32.toBitVec_or, BitVec.getLsbD_or]
theorem tb_wxor {a b : Int} {k : Nat} : tb (wxor a b) k = (tb a k ^^ tb b k) := by
  unfold tb wxor
  rw [of_toInt, Int32.toBitVec_xor, BitVec.getLsbD_xor]
theorem wand_0 {a b : Int} : wand a b = 0 ↔ ∀ k, k < 32 → (tb a k && tb b k) = false := by
  unfold wand
  rw [i32_0]
  constructor
  · intro h k hk
    have h1 := h k hk
    rw [Int32.toBitVec_and, BitVec.getLsbD_and] at h1
    exact h1
  · intro h k hk
    rw [Int32.toBitVec_and, BitVec.getLsbD_and]
    exact h k hk
theorem wand_n0 {a b : Int} : wand a b ≠ 0 ↔ ∃ k, k < 32 ∧ tb a k = true ∧ tb b k = true := by
  constructor
  · intro h
    refine Classical.byContradiction fun hn => h (wand_0.mpr fun k hk => ?_)
    cases h1 : tb a k
    · rfl
    · cases h2 : tb b k
      · rfl
      · exact absurd ⟨k, hk, h1, h2⟩ hn
  · rintro ⟨k, hk, h1, h2⟩ h
    have h3 := wand_0.mp h k hk
    rw [h1, h2] at h3
    exact absurd h3 (by decide)
theorem tb_zero {k : Nat} : tb 0 k = false := by
  unfold tb
  rw [show Int32.ofInt 0 = 0 from rfl]; simp
theorem tb_m1 {k : Nat} (h : k < 32) : tb (-1) k = true := (by decide +kernel : ∀ k, k < 32 → tb (-1) k = true) k h
theorem tb_shl {w k : Nat} (hw : w < 32) (hk : k < 32) : tb (wshl 1 (w : Int)) k = decide (k = w) := (by decide +kernel : ∀ w : Nat, w < 32 → ∀ k : Nat, k < 32 → tb (wshl 1 (w : Int)) k = decide (k = w)) w hw k hk
theorem shr_amt {w : Nat} (hw : w < 32) : ((Int32.ofInt (w : Int) &&& 31).toBitVec.smod 32).toNat = w := (by decide +kernel : ∀ w : Nat, w < 32 → ((Int32.ofInt (w : Int) &&& 31).toBitVec.smod 32).toNat = w) w hw
theorem tb_shr {z : Int} {w k : Nat} (hw : w < 32) (hk : w + k < 32) : tb (wshr z (w : Int)) k = tb z (w + k) := by
  unfold tb wshr
  rw [of_toInt, Int32.toBitVec_shiftRight, BitVec.getLsbD_sshiftRight', shr_amt hw, if_pos hk]
  have h1 : decide (32 ≤ k) = false := by simp; omega
  rw [h1]; rfl
theorem tb_one {k : Nat} (h : k < 32) : tb 1 k = decide (k = 0) := (by decide +kernel : ∀ k, k < 32 → tb 1 k = decide (k = 0)) k h
theorem shr1 {z : Int} {w : Nat} (hw : w < 32) : wand (wshr z (w : Int)) 1 = if tb z w = true then 1 else 0 := by
  have h0 : tb (wshr z (w : Int)) 0 = tb z w := tb_shr hw (by omega)
  have key : Int32.ofInt (wshr z (w : Int)) &&& Int32.ofInt 1 = if tb z w = true then 1 else 0 := by
    apply Int32.toBitVec_inj.mp
    apply BitVec.eq_of_getLsbD_eq
    intro i hi
    rw [Int32.toBitVec_and, BitVec.getLsbD_and]
    have e1 : (Int32.ofInt 1).toBitVec.getLsbD i = decide (i = 0) := tb_one hi
    rw [e1]
    by_cases hi0 : i = 0
    · subst hi0
      have e2 : (Int32.ofInt (wshr z (w : Int))).toBitVec.getLsbD 0 = tb z w := h0
      rw [e2]
      cases tb z w <;> rfl
    · rw [decide_eq_false hi0, Bool.and_false]
      cases tb z w
      · simp
      · have e3 : (1 : Int32).toBitVec.getLsbD i = decide (i = 0) := tb_one hi
        rw [if_pos rfl, e3, decide_eq_false hi0]
  unfold wand
  rw [key]
  cases tb z w <;> rfl
theorem shr1_n0 {z : Int} {w : Nat} (hw : w < 32) : wand (wshr z (w : Int)) 1 ≠ 0 ↔ tb z w = true := by
  rw [shr1 hw]
  cases tb z w <;> simp
theorem shr1_1 {z : Int} {w : Nat} (hw : w < 32) : wand (wshr z (w : Int)) 1 = 1 ↔ tb z w = true := by
  rw [shr1 hw]
  cases tb z w <;> simp
theorem shr1_0 {z : Int} {w : Nat} (hw : w < 32) : wand (wshr z (w : Int)) 1 = 0 ↔ tb z w = false := by
  rw [shr1 hw]
  cases tb z w <;> simp
theorem tb_small {s : Int} {n k : Nat} (h0 : 0 ≤ s) (h1 : s < ((2 ^ n : Nat) : Int)) (hn : n ≤ k) (hk : k < 32) : tb s k = false := by
  obtain ⟨m, rfl⟩ := Int.eq_ofNat_of_zero_le h0
  have hm : m < 2 ^ n := by exact_mod_cast h1
  unfold tb
  rw [Int32.toBitVec_ofInt]
  have e : BitVec.ofInt 32 (m : Int) = BitVec.ofNat 32 m := by simp
  rw [e, BitVec.getLsbD_ofNat, Nat.testBit_lt_two_pow (Nat.lt_of_lt_of_le hm (Nat.pow_le_pow_right (by decide) hn)), Bool.and_false]
theorem wshl_val {n : Nat} (h : n < 8) : wshl 1 (n : Int) = ((2 ^ n : Nat) : Int) := (by decide +kernel : ∀ n : Nat, n < 8 → wshl 1 (n : Int) = ((2 ^ n : Nat) : Int)) n h
/-- the bit that was asked for: it was not there -/
theorem new_bit {z : Int} {w : Nat} (hw : w < 32) : wand z (wshl 1 (w : Int)) = 0 ↔ tb z w = false := by
  rw [wand_0]
  constructor
  · intro h
    have h1 := h w hw
    rw [tb_shl hw hw, decide_eq_true rfl, Bool.and_true] at h1
    exact h1
  · intro h k hk
    rw [tb_shl hw hk]
    by_cases e : k = w
    · subst e; rw [h]; rfl
    · rw [decide_eq_false e, Bool.and_false]
theorem set_bit {z : Int} {w k : Nat} (hw : w < 32) (hk : k < 32) : tb (wor z (wshl 1 (w : Int))) k = (tb z k || decide (k = w)) := by rw [tb_wor, tb_shl hw hk]
