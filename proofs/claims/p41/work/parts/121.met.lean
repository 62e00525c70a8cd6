def mX12_isAsking : MRec := (RX12, cX12_isAsking, 1, (some .boolean), yX12_isAsking, 0, 0, 0, 0, 0)
def mX12_isLetter : MRec := (RX12, cX12_isLetter, 1, (some .boolean), yX12_isLetter, 1, 20, 0, 0, 0)
set_option maxHeartbeats 1000000 in
theorem t_X12_isAsking {K : Kmap} {V : Vmap} {p0 : Int} (r_p0 : ir p0) : MC mX12_isAsking K V [ti p0] (IP K V (fun X => (X = 0 ∨ X = 1) ∧ (X ≠ 0 → p0 ≥ 99 ∧ (p0 = 102 ∨ p0 = 108 ∨ p0 = 110 ∨ p0 = 115 ∨ p0 = 99)) ∧ (X = 0 → p0 ≠ 102 ∧ p0 ≠ 108 ∧ p0 ≠ 110 ∧ p0 ≠ 115 ∧ p0 ≠ 99) ∧ (X ≠ 0 ↔ ASK p0))) := by
  refine MC.start 0 (by decide +kernel) rfl rfl rfl (ls0 := [some (ti p0)]) rfl ?_
  refine GO.iload_n dX12_isAsking_0 rfl rfl ?_
  refine GO.bipush dX12_isAsking_1 rfl ?_
  refine GO.icmp_eq (tgt := 30) dX12_isAsking_3 (by decide) r_p0 (ir_c rfl) (fun c1 => ?_) (fun c1 => ?_)
  ·
    refine GO.iconst dX12_isAsking_30 ?_
    refine GO.goto (tgt := 35) dX12_isAsking_31 (by decide) ?_
    exact GO.retz rfl rfl dX12_isAsking_35 (Or.inr rfl) ⟨rfl, rfl, _, rfl, (ir_c rfl), ⟨Or.inr rfl, fun h => by omega, fun h => absurd h (by decide), by unfold ASK; omega⟩⟩
  ·
    refine GO.iload_n dX12_isAsking_6 rfl rfl ?_
    refine GO.bipush dX12_isAsking_7 rfl ?_
    refine GO.icmp_eq (tgt := 30) dX12_isAsking_9 (by decide) r_p0 (ir_c rfl) (fun c2 => ?_) (fun c2 => ?_)
    ·
      refine GO.iconst dX12_isAsking_30 ?_
      refine GO.goto (tgt := 35) dX12_isAsking_31 (by decide) ?_
      exact GO.retz rfl rfl dX12_isAsking_35 (Or.inr rfl) ⟨rfl, rfl, _, rfl, (ir_c rfl), ⟨Or.inr rfl, fun h => by omega, fun h => absurd h (by decide), by unfold ASK; omega⟩⟩
    ·
      refine GO.iload_n dX12_isAsking_12 rfl rfl ?_
      refine GO.bipush dX12_isAsking_13 rfl ?_
      refine GO.icmp_eq (tgt := 30) dX12_isAsking_15 (by decide) r_p0 (ir_c rfl) (fun c3 => ?_) (fun c3 => ?_)
      ·
        refine GO.iconst dX12_isAsking_30 ?_
        refine GO.goto (tgt := 35) dX12_isAsking_31 (by decide) ?_
        exact GO.retz rfl rfl dX12_isAsking_35 (Or.inr rfl) ⟨rfl, rfl, _, rfl, (ir_c rfl), ⟨Or.inr rfl, fun h => by omega, fun h => absurd h (by decide), by unfold ASK; omega⟩⟩
      ·
        refine GO.iload_n dX12_isAsking_18 rfl rfl ?_
        refine GO.bipush dX12_isAsking_19 rfl ?_
        refine GO.icmp_eq (tgt := 30) dX12_isAsking_21 (by decide) r_p0 (ir_c rfl) (fun c4 => ?_) (fun c4 => ?_)
        ·
          refine GO.iconst dX12_isAsking_30 ?_
          refine GO.goto (tgt := 35) dX12_isAsking_31 (by decide) ?_
          exact GO.retz rfl rfl dX12_isAsking_35 (Or.inr rfl) ⟨rfl, rfl, _, rfl, (ir_c rfl), ⟨Or.inr rfl, fun h => by omega, fun h => absurd h (by decide), by unfold ASK; omega⟩⟩
        ·
          refine GO.iload_n dX12_isAsking_24 rfl rfl ?_
          refine GO.bipush dX12_isAsking_25 rfl ?_
          refine GO.icmp_ne (tgt := 34) dX12_isAsking_27 (by decide) r_p0 (ir_c rfl) (fun c5 => ?_) (fun c5 => ?_)
          ·
            refine GO.iconst dX12_isAsking_34 ?_
            exact GO.retz rfl rfl dX12_isAsking_35 (Or.inl rfl) ⟨rfl, rfl, _, rfl, (ir_c rfl), ⟨Or.inl rfl, fun h => absurd rfl h, fun h => by omega, by unfold ASK; omega⟩⟩
          ·
            refine GO.iconst dX12_isAsking_30 ?_
            refine GO.goto (tgt := 35) dX12_isAsking_31 (by decide) ?_
            exact GO.retz rfl rfl dX12_isAsking_35 (Or.inr rfl) ⟨rfl, rfl, _, rfl, (ir_c rfl), ⟨Or.inr rfl, fun h => by omega, fun h => absurd h (by decide), by unfold ASK; omega⟩⟩

set_option maxHeartbeats 1000000 in
theorem t_X12_isLetter {K : Kmap} {V : Vmap} {p0 : Int} (r_p0 : ir p0) : MC mX12_isLetter K V [ti p0] (IP K V (fun X => (X = 0 ∨ X = 1) ∧ (X ≠ 0 → p0 ≥ 97 ∧ (p0 = 102 ∨ p0 = 108 ∨ p0 = 110 ∨ p0 = 115 ∨ p0 = 99 ∨ p0 = 122 ∨ p0 = 97 ∨ p0 = 113 ∨ p0 = 107 ∨ p0 = 103 ∨ p0 = 120)) ∧ (X = 0 → p0 ≠ 102 ∧ p0 ≠ 108 ∧ p0 ≠ 110 ∧ p0 ≠ 115 ∧ p0 ≠ 99 ∧ p0 ≠ 122 ∧ p0 ≠ 97 ∧ p0 ≠ 113 ∧ p0 ≠ 107 ∧ p0 ≠ 103 ∧ p0 ≠ 120))) := by
  refine MC.start 0 (by decide +kernel) rfl rfl rfl (ls0 := [some (ti p0)]) rfl ?_
  refine GO.iload_n dX12_isLetter_0 rfl rfl ?_
  refine GO.callS (N := mX12_isAsking) dX12_isLetter_1 gS_RX12_520 (t_X12_isAsking r_p0) rfl [] rfl rfl (Nat.le_of_ble_eq_true rfl) rfl (k_ip fun X1 r2 h3 => ?_)
  have raw_isAsking := h3.2.2.2
  have rw1 := h3.2.2.2
  refine GO.if_ne (tgt := 43) dX12_isLetter_4 (by decide) r2 (fun c4 => ?_) (fun c4 => ?_)
  ·
    have q5 := h3.2.1 (by omega)
    refine GO.iconst dX12_isLetter_43 ?_
    refine GO.goto (tgt := 48) dX12_isLetter_44 (by decide) ?_
    exact GO.retz rfl rfl dX12_isLetter_48 (Or.inr rfl) ⟨rfl, rfl, _, rfl, (ir_c rfl), ⟨Or.inr rfl, fun h => by omega, fun h => absurd h (by decide)⟩⟩
  ·
    have q6 := h3.2.2.1 (by omega)
    refine GO.iload_n dX12_isLetter_7 rfl rfl ?_
    refine GO.bipush dX12_isLetter_8 rfl ?_
    refine GO.icmp_eq (tgt := 43) dX12_isLetter_10 (by decide) r_p0 (ir_c rfl) (fun c7 => ?_) (fun c7 => ?_)
    ·
      refine GO.iconst dX12_isLetter_43 ?_
      refine GO.goto (tgt := 48) dX12_isLetter_44 (by decide) ?_
      exact GO.retz rfl rfl dX12_isLetter_48 (Or.inr rfl) ⟨rfl, rfl, _, rfl, (ir_c rfl), ⟨Or.inr rfl, fun h => by omega, fun h => absurd h (by decide)⟩⟩
    ·
      refine GO.iload_n dX12_isLetter_13 rfl rfl ?_
      refine GO.bipush dX12_isLetter_14 rfl ?_
      refine GO.icmp_eq (tgt := 43) dX12_isLetter_16 (by decide) r_p0 (ir_c rfl) (fun c8 => ?_) (fun c8 => ?_)
      ·
        refine GO.iconst dX12_isLetter_43 ?_
        refine GO.goto (tgt := 48) dX12_isLetter_44 (by decide) ?_
        exact GO.retz rfl rfl dX12_isLetter_48 (Or.inr rfl) ⟨rfl, rfl, _, rfl, (ir_c rfl), ⟨Or.inr rfl, fun h => by omega, fun h => absurd h (by decide)⟩⟩
      ·
        refine GO.iload_n dX12_isLetter_19 rfl rfl ?_
        refine GO.bipush dX12_isLetter_20 rfl ?_
        refine GO.icmp_eq (tgt := 43) dX12_isLetter_22 (by decide) r_p0 (ir_c rfl) (fun c9 => ?_) (fun c9 => ?_)
        ·
          refine GO.iconst dX12_isLetter_43 ?_
          refine GO.goto (tgt := 48) dX12_isLetter_44 (by decide) ?_
          exact GO.retz rfl rfl dX12_isLetter_48 (Or.inr rfl) ⟨rfl, rfl, _, rfl, (ir_c rfl), ⟨Or.inr rfl, fun h => by omega, fun h => absurd h (by decide)⟩⟩
        ·
          refine GO.iload_n dX12_isLetter_25 rfl rfl ?_
          refine GO.bipush dX12_isLetter_26 rfl ?_
          refine GO.icmp_eq (tgt := 43) dX12_isLetter_28 (by decide) r_p0 (ir_c rfl) (fun c10 => ?_) (fun c10 => ?_)
          ·
            refine GO.iconst dX12_isLetter_43 ?_
            refine GO.goto (tgt := 48) dX12_isLetter_44 (by decide) ?_
            exact GO.retz rfl rfl dX12_isLetter_48 (Or.inr rfl) ⟨rfl, rfl, _, rfl, (ir_c rfl), ⟨Or.inr rfl, fun h => by omega, fun h => absurd h (by decide)⟩⟩
          ·
            refine GO.iload_n dX12_isLetter_31 rfl rfl ?_
            refine GO.bipush dX12_isLetter_32 rfl ?_
            refine GO.icmp_eq (tgt := 43) dX12_isLetter_34 (by decide) r_p0 (ir_c rfl) (fun c11 => ?_) (fun c11 => ?_)
            ·
              refine GO.iconst dX12_isLetter_43 ?_
              refine GO.goto (tgt := 48) dX12_isLetter_44 (by decide) ?_
              exact GO.retz rfl rfl dX12_isLetter_48 (Or.inr rfl) ⟨rfl, rfl, _, rfl, (ir_c rfl), ⟨Or.inr rfl, fun h => by omega, fun h => absurd h (by decide)⟩⟩
            ·
              refine GO.iload_n dX12_isLetter_37 rfl rfl ?_
              refine GO.bipush dX12_isLetter_38 rfl ?_
              refine GO.icmp_ne (tgt := 47) dX12_isLetter_40 (by decide) r_p0 (ir_c rfl) (fun c12 => ?_) (fun c12 => ?_)
              ·
                refine GO.iconst dX12_isLetter_47 ?_
                exact GO.retz rfl rfl dX12_isLetter_48 (Or.inl rfl) ⟨rfl, rfl, _, rfl, (ir_c rfl), ⟨Or.inl rfl, fun h => absurd rfl h, fun h => by omega⟩⟩
              ·
                refine GO.iconst dX12_isLetter_43 ?_
                refine GO.goto (tgt := 48) dX12_isLetter_44 (by decide) ?_
                exact GO.retz rfl rfl dX12_isLetter_48 (Or.inr rfl) ⟨rfl, rfl, _, rfl, (ir_c rfl), ⟨Or.inr rfl, fun h => by omega, fun h => absurd h (by decide)⟩⟩
