/-! ### what rests on kinds alone: declare, birds, say -/
section PH
variable {K K1 : Kmap} {V V1 V2 Va Vn Vi : Vmap} {x m o : Nat} {k c p w n a b X Y : Int}
theorem PLE.pk {ws : Nat} (h : PLE V x m) (hF : FR ws K V K1 V1) (hE : ext K K1) (hW : WT K V) (hm : K m = some (0, 11)) (hb : mpbits ws = true) : PK V x k c ↔ MPK V1 m k c := by
  obtain ⟨-, -, hr⟩ := h
  have g := MPS.fr hF hE hW hm hb
  have r4 := hr.2.2.2.1
  unfold PK MPK
  rw [g.2.2.1, g.1, ← r4]
  constructor
  · rintro ⟨q0, q1, q2⟩
    rw [hr.kd (by omega)] at q2
    exact ⟨q0, q1, q2⟩
  · rintro ⟨q0, q1, q2⟩
    rw [← hr.kd (by omega)] at q2
    exact ⟨q0, q1, q2⟩
/-- a truth that rests on a place's kind and on arguments alone -/
def KND (V : Vmap) (x : Nat) (k c : Int) (P : Prop) (X : Int) : Prop := NN 6 5 V x → (X ≠ 0 ↔ PK V x k c ∧ P)
def MKN (V : Vmap) (m : Nat) (k c : Int) (P : Prop) (X : Int) : Prop := X ≠ 0 ↔ MPK V m k c ∧ P
variable {P : Prop}
theorem KND.nk (h : NN 6 5 V x → ¬ PK V x k c) (hX : X = 0) : KND V x k c P X := fun hn => ⟨fun q => absurd hX q, fun q => absurd q.1 (h hn)⟩
theorem KND.np (h : ¬ P) (hX : X = 0) : KND V x k c P X := fun _ => ⟨fun q => absurd hX q, fun q => absurd q.2 h⟩
theorem KND.ok (h : o = plO V x k.toNat ∧ PK V x k c) (hp : P) (hX : X ≠ 0) : KND V x k c P X := fun _ => ⟨fun _ => ⟨h.2, hp⟩, fun _ => hX⟩
theorem MKN.nk (h : Y ≠ 0 ↔ MPK V m k c) (hY : Y = 0) (hX : X = 0) : MKN V m k c P X := ⟨fun q => absurd hX q, fun q => absurd hY (h.mpr q.1)⟩
theorem MKN.np (h : ¬ P) (hX : X = 0) : MKN V m k c P X := ⟨fun q => absurd hX q, fun q => absurd q.2 h⟩
theorem MKN.ok (h : Y ≠ 0 ↔ MPK V m k c) (hY : Y ≠ 0) (hp : P) (hX : X ≠ 0) : MKN V m k c P X := ⟨fun _ => ⟨h.mp hY, hp⟩, fun _ => hX⟩
theorem KND.both {ws : Nat} (h : PLE V x m) (hF : FR ws K V K1 V1) (hE : ext K K1) (hW : WT K V) (hm : K m = some (0, 11)) (f : KND V x k c P X) (f1 : MKN V1 m k c P Y) (hb : mpbits ws = true) : X ≠ 0 ↔ Y ≠ 0 := by
  have f2 : Y ≠ 0 ↔ MPK V1 m k c ∧ P := f1
  have f3 : X ≠ 0 ↔ PK V x k c ∧ P := f h.1.1
  rw [f3, f2, h.pk hF hE hW hm hb]
end PH
