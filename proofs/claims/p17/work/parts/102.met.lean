def mX12_isCell : MRec := (RX12, cX12_isCell, 2, (some .boolean), yX12_isCell, 0, 0, 0, 0, 0)
def mX12_isDay : MRec := (RX12, cX12_isDay, 1, (some .boolean), yX12_isDay, 0, 0, 0, 0, 0)
def mX12_ice : MRec := (RX12, cX12_ice, 3, (some .boolean), yX12_ice, 1, 23, 0, 0, 29140033383385936063791928602352783599636102585784086660770863519892919988668547989504)
def mX12_cell : MRec := (RX12, cX12_cell, 6, (some .boolean), yX12_cell, 1, 22, 0, 0, 29140033383385936063791928602352783599636102585782092818777186146083564278078127472640)
def mX12_dark : MRec := (RX12, cX12_dark, 3, (some .boolean), yX12_dark, 1, 22, 0, 0, 15950735949418990474845684723364134912)
def mX12_isDark : MRec := (RX12, cX12_isDark, 2, (some .boolean), yX12_isDark, 1, 22, 0, 0, 0)
def mX12_far : MRec := (RX12, cX12_far, 5, (some .int), yX12_far, 1, 20, 0, 0, 0)
def mX12_columnStep : MRec := (RX12, cX12_columnStep, 1, (some .int), yX12_columnStep, 1, 22, 0, 0, 0)
def mX12_rowStep : MRec := (RX12, cX12_rowStep, 1, (some .int), yX12_rowStep, 1, 22, 0, 0, 0)
def mX12_moved : MRec := (RX12, cX12_moved, 6, (some .int), yX12_moved, 1, 22, 0, 0, 0)
def mX12_isLand : MRec := (RX12, cX12_isLand, 2, (some .boolean), yX12_isLand, 0, 0, 0, 0, 0)
def mX12_isNearSea : MRec := (RX12, cX12_isNearSea, 3, (some .boolean), yX12_isNearSea, 2, 44, 0, 0, 0)
def mX12_party : MRec := (RX12, cX12_party, 2, (some .int), yX12_party, 0, 0, 0, 0, 31082702275611665134711390509176302506278509425174514706949937019285843170715104182272)
def mX12_isParty : MRec := (RX12, cX12_isParty, 2, (some .boolean), yX12_isParty, 0, 0, 0, 0, 0)
def mX12_isPlace : MRec := (RX12, cX12_isPlace, 3, (some .boolean), yX12_isPlace, 0, 0, 0, 0, 0)
def mX12_isStation : MRec := (RX12, cX12_isStation, 2, (some .boolean), yX12_isStation, 1, 22, 0, 0, 0)
def mX12_stands : MRec := (RX12, cX12_stands, 2, (some .boolean), yX12_stands, 2, 43, 0, 0, 0)
def mX12_decidesOn : MRec := (RX12, cX12_decidesOn, 3, (some .boolean), yX12_decidesOn, 0, 0, 0, 0, 0)
def mX12_decides : MRec := (RX12, cX12_decides, 3, (some .int), yX12_decides, 1, 22, 0, 0, 0)
def mX12_place : MRec := (RX12, cX12_place, 6, (some .int), yX12_place, 0, 0, 0, 0, 7832840973454139613947270408312428231582184375058907114421149512994188827162264201068544)
set_option maxHeartbeats 1000000 in
theorem t_X12_isCell {K : Kmap} {V : Vmap} {x : Nat} {p0 : Int} (h_x : K x = some (0, 11)) (r_p0 : ir p0) : MC mX12_isCell K V [.ref x, ti p0] (IP K V (fun X => (X = 0 ∨ X = 1) ∧ (X ≠ 0 → p0 ≥ 0 ∧ p0 ≤ 143) ∧ (X = 0 → True))) := by
  refine MC.start 0 (by decide +kernel) rfl rfl rfl (ls0 := [some (.ref x), some (ti p0)]) rfl ?_
  refine GO.iload_n dX12_isCell_0 rfl rfl ?_
  refine GO.if_lt (tgt := 21) dX12_isCell_1 (by decide) r_p0 (fun c1 => ?_) (fun c1 => ?_)
  ·
    refine GO.iconst dX12_isCell_21 ?_
    exact GO.retz rfl rfl dX12_isCell_22 (Or.inl rfl) ⟨rfl, rfl, _, rfl, (ir_c rfl), ⟨Or.inl rfl, fun h => absurd rfl h, fun _ => trivial⟩⟩
  ·
    refine GO.iload_n dX12_isCell_4 rfl rfl ?_
    refine GO.aload_n dX12_isCell_5 rfl rfl ?_
    refine GO.getI h_x fl_RX12_365 rfl rfl dX12_isCell_6 (fun l2 u3 => ?_)
    refine GO.aload_n dX12_isCell_9 rfl rfl ?_
    refine GO.getI h_x fl_RX12_368 rfl rfl dX12_isCell_10 (fun l4 u5 => ?_)
    refine GO.imul dX12_isCell_13 ?_
    have m6 := mul_rng (a := vi V x 0) (b := vi V x 1) (A := 12) (B := 12) (by omega) (by omega) (by omega) (by omega)
    have m7 := mul_low (a := vi V x 0) (b := vi V x 1) (m := 4) (n := 4) (by omega) (by omega) (by omega) (by omega)
    refine GO.icmp_ge (tgt := 21) dX12_isCell_14 (by decide) r_p0 ⟨by omega, by omega⟩ (fun c8 => ?_) (fun c8 => ?_)
    ·
      refine GO.iconst dX12_isCell_21 ?_
      exact GO.retz rfl rfl dX12_isCell_22 (Or.inl rfl) ⟨rfl, rfl, _, rfl, (ir_c rfl), ⟨Or.inl rfl, fun h => absurd rfl h, fun _ => trivial⟩⟩
    ·
      refine GO.iconst dX12_isCell_17 ?_
      refine GO.goto (tgt := 22) dX12_isCell_18 (by decide) ?_
      exact GO.retz rfl rfl dX12_isCell_22 (Or.inr rfl) ⟨rfl, rfl, _, rfl, (ir_c rfl), ⟨Or.inr rfl, fun h => by omega, fun _ => trivial⟩⟩

set_option maxHeartbeats 1000000 in
theorem t_X12_isDay {K : Kmap} {V : Vmap} {p0 : Int} (r_p0 : ir p0) : MC mX12_isDay K V [ti p0] (IP K V (fun X => (X = 0 ∨ X = 1) ∧ (X ≠ 0 → p0 ≥ 0 ∧ p0 ≤ 3599) ∧ (X = 0 → (p0 < 0 ∨ p0 > 3599)))) := by
  refine MC.start 0 (by decide +kernel) rfl rfl rfl (ls0 := [some (ti p0)]) rfl ?_
  refine GO.iload_n dX12_isDay_0 rfl rfl ?_
  refine GO.if_lt (tgt := 15) dX12_isDay_1 (by decide) r_p0 (fun c1 => ?_) (fun c1 => ?_)
  ·
    refine GO.iconst dX12_isDay_15 ?_
    exact GO.retz rfl rfl dX12_isDay_16 (Or.inl rfl) ⟨rfl, rfl, _, rfl, (ir_c rfl), ⟨Or.inl rfl, fun h => absurd rfl h, fun h => by omega⟩⟩
  ·
    refine GO.iload_n dX12_isDay_4 rfl rfl ?_
    refine GO.sipush dX12_isDay_5 rfl ?_
    refine GO.icmp_gt (tgt := 15) dX12_isDay_8 (by decide) r_p0 (ir_c rfl) (fun c2 => ?_) (fun c2 => ?_)
    ·
      refine GO.iconst dX12_isDay_15 ?_
      exact GO.retz rfl rfl dX12_isDay_16 (Or.inl rfl) ⟨rfl, rfl, _, rfl, (ir_c rfl), ⟨Or.inl rfl, fun h => absurd rfl h, fun h => by omega⟩⟩
    ·
      refine GO.iconst dX12_isDay_11 ?_
      refine GO.goto (tgt := 16) dX12_isDay_12 (by decide) ?_
      exact GO.retz rfl rfl dX12_isDay_16 (Or.inr rfl) ⟨rfl, rfl, _, rfl, (ir_c rfl), ⟨Or.inr rfl, fun h => by omega, fun h => absurd h (by decide)⟩⟩

set_option maxHeartbeats 1000000 in
theorem t_X12_ice {K : Kmap} {V : Vmap} {x : Nat} {p0 : Int} {p1 : Int} (h_x : K x = some (0, 11)) (r_p0 : ir p0) (r_p1 : ir p1) : MC mX12_ice K V [.ref x, ti p0, ti p1] (IS K (fun X V1 => (X = 0 ∨ X = 1) ∧ (X ≠ 0 → True) ∧ (X = 0 → True))) := by
  refine MC.start 0 (by decide +kernel) rfl rfl rfl (ls0 := [some (.ref x), some (ti p0), some (ti p1)]) rfl ?_
  refine GO.iload_n dX12_ice_0 rfl rfl ?_
  refine GO.iconst dX12_ice_1 ?_
  refine GO.bipush dX12_ice_2 rfl ?_
  refine GO.callS (N := mX12_in) dX12_ice_4 gS_RX12_371 (t_X12_in r_p0 (ir_c rfl) (ir_c rfl)) rfl [] rfl rfl (Nat.le_of_ble_eq_true rfl) rfl (k_ip fun X1 r2 h3 => ?_)
  have raw_in := h3.2.2.2
  have rw4 := h3.2.2.2
  refine GO.if_eq (tgt := 34) dX12_ice_7 (by decide) r2 (fun c4 => ?_) (fun c4 => ?_)
  ·
    have q5 := h3.2.2.1 (by omega)
    refine GO.iconst dX12_ice_34 ?_
    exact GO.retz rfl rfl dX12_ice_35 (Or.inl rfl) ⟨rfl, _, rfl, (ir_c rfl), ⟨Or.inl rfl, fun _ => trivial, fun _ => trivial⟩⟩
  ·
    have q6 := h3.2.1 (by omega)
    refine GO.iload_n dX12_ice_10 rfl rfl ?_
    refine GO.iconst dX12_ice_11 ?_
    refine GO.bipush dX12_ice_12 rfl ?_
    refine GO.callS (N := mX12_in) dX12_ice_14 gS_RX12_371 (t_X12_in r_p1 (ir_c rfl) (ir_c rfl)) rfl [] rfl rfl (Nat.le_of_ble_eq_true rfl) rfl (k_ip fun X7 r8 h9 => ?_)
    have raw_in := h9.2.2.2
    have rw14 := h9.2.2.2
    refine GO.if_eq (tgt := 34) dX12_ice_17 (by decide) r8 (fun c10 => ?_) (fun c10 => ?_)
    ·
      have q11 := h9.2.2.1 (by omega)
      refine GO.iconst dX12_ice_34 ?_
      exact GO.retz rfl rfl dX12_ice_35 (Or.inl rfl) ⟨rfl, _, rfl, (ir_c rfl), ⟨Or.inl rfl, fun _ => trivial, fun _ => trivial⟩⟩
    ·
      have q12 := h9.2.1 (by omega)
      refine GO.aload_n dX12_ice_20 rfl rfl ?_
      refine GO.getI h_x fl_RX12_375 rfl rfl dX12_ice_21 (fun l13 u14 => ?_)
      refine GO.if_gt (tgt := 34) dX12_ice_24 (by decide) vi_ir (fun c15 => ?_) (fun c15 => ?_)
      ·
        refine GO.iconst dX12_ice_34 ?_
        exact GO.retz rfl rfl dX12_ice_35 (Or.inl rfl) ⟨rfl, _, rfl, (ir_c rfl), ⟨Or.inl rfl, fun _ => trivial, fun _ => trivial⟩⟩
      ·
        refine GO.aload_n dX12_ice_27 rfl rfl ?_
        refine GO.getI h_x fl_RX12_378 rfl rfl dX12_ice_28 (fun l16 u17 => ?_)
        refine GO.if_le (tgt := 36) dX12_ice_31 (by decide) vi_ir (fun c18 => ?_) (fun c18 => ?_)
        ·
          refine GO.aload_n dX12_ice_36 rfl rfl ?_
          refine GO.iload_n dX12_ice_37 rfl rfl ?_
          refine GO.iload_n dX12_ice_38 rfl rfl ?_
          have q19 : -2147483648 ≤ p0 ∧ p0 ≤ 2147483647 := r_p0
          have q20 : -2147483648 ≤ p1 ∧ p1 ≤ 2147483647 := r_p1
          refine GO.callV (ci := 11) (N := mX12_begins) dX12_ice_39 (RX12, TX12, 151) rfl gV_RX12_361 h_x (t_X12_begins h_x r_p0 r_p1 (by omega) (by omega) (by omega) (by omega)) rfl [] rfl rfl (Nat.le_of_ble_eq_true rfl) rfl (k_vs fun V23 h22 hF21 => ?_)
          refine GO.iconst dX12_ice_42 ?_
          exact GO.retz rfl rfl dX12_ice_43 (Or.inr rfl) ⟨rfl, _, rfl, (ir_c rfl), ⟨Or.inr rfl, fun _ => trivial, fun _ => trivial⟩⟩
        ·
          refine GO.iconst dX12_ice_34 ?_
          exact GO.retz rfl rfl dX12_ice_35 (Or.inl rfl) ⟨rfl, _, rfl, (ir_c rfl), ⟨Or.inl rfl, fun _ => trivial, fun _ => trivial⟩⟩

set_option maxHeartbeats 1000000 in
theorem t_X12_cell {K : Kmap} {V : Vmap} {x : Nat} {p0 : Int} {p1 : Int} {p2 : Int} {p3 : Int} {p4 : Int} (h_x : K x = some (0, 11)) (r_p0 : ir p0) (r_p1 : ir p1) (r_p2 : ir p2) (r_p3 : ir p3) (r_p4 : ir p4) : MC mX12_cell K V [.ref x, ti p0, ti p1, ti p2, ti p3, ti p4] (IS K (fun X V1 => (X = 0 ∨ X = 1) ∧ (X ≠ 0 → True) ∧ (X = 0 → True))) := by
  refine MC.start 0 (by decide +kernel) rfl rfl rfl (ls0 := [some (.ref x), some (ti p0), some (ti p1), some (ti p2), some (ti p3), some (ti p4)]) rfl ?_
  refine GO.aload_n dX12_cell_0 rfl rfl ?_
  refine GO.iload_n dX12_cell_1 rfl rfl ?_
  refine GO.callV (ci := 11) (N := mX12_isCell) dX12_cell_2 (RX12, TX12, 151) rfl gV_RX12_381 h_x (t_X12_isCell h_x r_p0) rfl [] rfl rfl (Nat.le_of_ble_eq_true rfl) rfl (k_ip fun X1 r2 h3 => ?_)
  refine GO.if_eq (tgt := 38) dX12_cell_5 (by decide) r2 (fun c4 => ?_) (fun c4 => ?_)
  ·
    refine GO.iconst dX12_cell_38 ?_
    exact GO.retz rfl rfl dX12_cell_39 (Or.inl rfl) ⟨rfl, _, rfl, (ir_c rfl), ⟨Or.inl rfl, fun _ => trivial, fun _ => trivial⟩⟩
  ·
    have q5 := h3.2.1 (by omega)
    refine GO.iload_n dX12_cell_8 rfl rfl ?_
    refine GO.iconst dX12_cell_9 ?_
    refine GO.bipush dX12_cell_10 rfl ?_
    refine GO.callS (N := mX12_in) dX12_cell_12 gS_RX12_371 (t_X12_in r_p1 (ir_c rfl) (ir_c rfl)) rfl [] rfl rfl (Nat.le_of_ble_eq_true rfl) rfl (k_ip fun X6 r7 h8 => ?_)
    have raw_in := h8.2.2.2
    have rw12 := h8.2.2.2
    refine GO.if_eq (tgt := 38) dX12_cell_15 (by decide) r7 (fun c9 => ?_) (fun c9 => ?_)
    ·
      have q10 := h8.2.2.1 (by omega)
      refine GO.iconst dX12_cell_38 ?_
      exact GO.retz rfl rfl dX12_cell_39 (Or.inl rfl) ⟨rfl, _, rfl, (ir_c rfl), ⟨Or.inl rfl, fun _ => trivial, fun _ => trivial⟩⟩
    ·
      have q11 := h8.2.1 (by omega)
      refine GO.iload_n dX12_cell_18 rfl rfl ?_
      refine GO.iconst dX12_cell_19 ?_
      refine GO.iconst dX12_cell_20 ?_
      refine GO.callS (N := mX12_in) dX12_cell_21 gS_RX12_371 (t_X12_in r_p2 (ir_c rfl) (ir_c rfl)) rfl [] rfl rfl (Nat.le_of_ble_eq_true rfl) rfl (k_ip fun X12 r13 h14 => ?_)
      have raw_in := h14.2.2.2
      have rw21 := h14.2.2.2
      refine GO.if_eq (tgt := 38) dX12_cell_24 (by decide) r13 (fun c15 => ?_) (fun c15 => ?_)
      ·
        have q16 := h14.2.2.1 (by omega)
        refine GO.iconst dX12_cell_38 ?_
        exact GO.retz rfl rfl dX12_cell_39 (Or.inl rfl) ⟨rfl, _, rfl, (ir_c rfl), ⟨Or.inl rfl, fun _ => trivial, fun _ => trivial⟩⟩
      ·
        have q17 := h14.2.1 (by omega)
        refine GO.iload dX12_cell_27 rfl ?_
        refine GO.iconst dX12_cell_29 ?_
        refine GO.bipush dX12_cell_30 rfl ?_
        refine GO.callS (N := mX12_in) dX12_cell_32 gS_RX12_371 (t_X12_in r_p3 (ir_c rfl) (ir_c rfl)) rfl [] rfl rfl (Nat.le_of_ble_eq_true rfl) rfl (k_ip fun X18 r19 h20 => ?_)
        have raw_in := h20.2.2.2
        have rw32 := h20.2.2.2
        refine GO.if_ne (tgt := 40) dX12_cell_35 (by decide) r19 (fun c21 => ?_) (fun c21 => ?_)
        ·
          have q22 := h20.2.1 (by omega)
          refine GO.iload dX12_cell_40 rfl ?_
          refine GO.iconst dX12_cell_42 ?_
          have hj31 : ∀ (l32 : 0 ≤ p4), ∀ (u33 : p4 ≤ 3600), GO mX12_cell K V (IS K (fun X V1 => (X = 0 ∨ X = 1) ∧ (X ≠ 0 → True) ∧ (X = 0 → True))) K V 0 0 69 [some (.ref x), some (ti p0), some (ti p1), some (ti p2), some (ti p3), some (ti p4)] [] := by
            intro l32 u33
            refine GO.aload_n dX12_cell_69 rfl rfl ?_
            refine GO.getA (n := 144) h_x fl_RX12_16 rfl rfl rfl rfl dX12_cell_70 (fun hv35 h34 => ?_)
            refine GO.iload_n dX12_cell_73 rfl rfl ?_
            refine GO.iload_n dX12_cell_74 rfl rfl ?_
            have q36 : -2147483648 ≤ p0 ∧ p0 ≤ 2147483647 := r_p0
            have q38 : -2147483648 ≤ p1 ∧ p1 ≤ 2147483647 := r_p1
            refine GO.iast (t := 9) rfl rfl (by decide +kernel) h34 r_p0 (by omega) (by omega) r_p1 (by omega) (by omega) dX12_cell_75 (fun V39 e37 => ?_)
            refine GO.aload_n dX12_cell_76 rfl rfl ?_
            refine GO.getA (n := 144) h_x fl_RX12_20 rfl rfl rfl rfl dX12_cell_77 (fun hv41 h40 => ?_)
            refine GO.iload_n dX12_cell_80 rfl rfl ?_
            refine GO.iload_n dX12_cell_81 rfl rfl ?_
            have q43 : -2147483648 ≤ p2 ∧ p2 ≤ 2147483647 := r_p2
            refine GO.iast (t := 10) rfl rfl (by decide +kernel) h40 r_p0 (by omega) (by omega) r_p2 (by omega) (by omega) dX12_cell_82 (fun V44 e42 => ?_)
            refine GO.aload_n dX12_cell_83 rfl rfl ?_
            refine GO.getA (n := 144) h_x fl_RX12_23 rfl rfl rfl rfl dX12_cell_84 (fun hv46 h45 => ?_)
            refine GO.iload_n dX12_cell_87 rfl rfl ?_
            refine GO.iload dX12_cell_88 rfl ?_
            have q48 : -2147483648 ≤ p3 ∧ p3 ≤ 2147483647 := r_p3
            refine GO.iast (t := 11) rfl rfl (by decide +kernel) h45 r_p0 (by omega) (by omega) r_p3 (by omega) (by omega) dX12_cell_90 (fun V49 e47 => ?_)
            refine GO.aload_n dX12_cell_91 rfl rfl ?_
            refine GO.getA (n := 144) h_x fl_RX12_26 rfl rfl rfl rfl dX12_cell_92 (fun hv51 h50 => ?_)
            refine GO.iload_n dX12_cell_95 rfl rfl ?_
            refine GO.iload dX12_cell_96 rfl ?_
            have q53 : -2147483648 ≤ p4 ∧ p4 ≤ 2147483647 := r_p4
            refine GO.iast (t := 12) rfl rfl (by decide +kernel) h50 r_p0 (by omega) (by omega) r_p4 (by omega) (by omega) dX12_cell_98 (fun V54 e52 => ?_)
            refine GO.iconst dX12_cell_99 ?_
            exact GO.retz rfl rfl dX12_cell_100 (Or.inr rfl) ⟨rfl, _, rfl, (ir_c rfl), ⟨Or.inr rfl, fun _ => trivial, fun _ => trivial⟩⟩
          refine GO.icmp_ne (tgt := 54) dX12_cell_43 (by decide) r_p3 (ir_c rfl) (fun c55 => ?_) (fun c55 => ?_)
          ·
            refine GO.iload dX12_cell_54 rfl ?_
            refine GO.bipush dX12_cell_56 rfl ?_
            refine GO.sipush dX12_cell_58 rfl ?_
            refine GO.callS (N := mX12_in) dX12_cell_61 gS_RX12_371 (t_X12_in r_p4 (ir_c rfl) (ir_c rfl)) rfl [] rfl rfl (Nat.le_of_ble_eq_true rfl) rfl (k_ip fun X56 r57 h58 => ?_)
            have raw_in := h58.2.2.2
            have rw61 := h58.2.2.2
            refine GO.if_ne (tgt := 69) dX12_cell_64 (by decide) r57 (fun c59 => ?_) (fun c59 => ?_)
            ·
              have q60 := h58.2.1 (by omega)
              have q61 : -2147483648 ≤ p4 ∧ p4 ≤ 2147483647 := r_p4
              exact hj31  (by omega) (by omega)
            ·
              have q62 := h58.2.2.1 (by omega)
              refine GO.iconst dX12_cell_67 ?_
              exact GO.retz rfl rfl dX12_cell_68 (Or.inl rfl) ⟨rfl, _, rfl, (ir_c rfl), ⟨Or.inl rfl, fun _ => trivial, fun _ => trivial⟩⟩
          ·
            refine GO.iload dX12_cell_46 rfl ?_
            refine GO.if_eq (tgt := 69) dX12_cell_48 (by decide) r_p4 (fun c63 => ?_) (fun c63 => ?_)
            ·
              have q64 : -2147483648 ≤ p4 ∧ p4 ≤ 2147483647 := r_p4
              exact hj31  (by omega) (by omega)
            ·
              refine GO.goto (tgt := 67) dX12_cell_51 (by decide) ?_
              refine GO.iconst dX12_cell_67 ?_
              exact GO.retz rfl rfl dX12_cell_68 (Or.inl rfl) ⟨rfl, _, rfl, (ir_c rfl), ⟨Or.inl rfl, fun _ => trivial, fun _ => trivial⟩⟩
        ·
          have q65 := h20.2.2.1 (by omega)
          refine GO.iconst dX12_cell_38 ?_
          exact GO.retz rfl rfl dX12_cell_39 (Or.inl rfl) ⟨rfl, _, rfl, (ir_c rfl), ⟨Or.inl rfl, fun _ => trivial, fun _ => trivial⟩⟩

set_option maxHeartbeats 1000000 in
theorem t_X12_dark {K : Kmap} {V : Vmap} {x : Nat} {p0 : Int} {p1 : Int} (h_x : K x = some (0, 11)) (r_p0 : ir p0) (r_p1 : ir p1) : MC mX12_dark K V [.ref x, ti p0, ti p1] (IS K (fun X V1 => (X = 0 ∨ X = 1) ∧ (X ≠ 0 → p0 ≥ 0 ∧ p0 ≤ 359 ∧ p1 ≥ p0 ∧ p1 ≤ 359) ∧ (X = 0 → (p0 < 0 ∨ p0 > 359 ∨ p1 < p0 ∨ p1 > 359)))) := by
  refine MC.start 0 (by decide +kernel) rfl rfl rfl (ls0 := [some (.ref x), some (ti p0), some (ti p1)]) rfl ?_
  refine GO.iload_n dX12_dark_0 rfl rfl ?_
  refine GO.iconst dX12_dark_1 ?_
  refine GO.sipush dX12_dark_2 rfl ?_
  refine GO.callS (N := mX12_in) dX12_dark_5 gS_RX12_371 (t_X12_in r_p0 (ir_c rfl) (ir_c rfl)) rfl [] rfl rfl (Nat.le_of_ble_eq_true rfl) rfl (k_ip fun X1 r2 h3 => ?_)
  have raw_in := h3.2.2.2
  have rw5 := h3.2.2.2
  refine GO.if_eq (tgt := 22) dX12_dark_8 (by decide) r2 (fun c4 => ?_) (fun c4 => ?_)
  ·
    have q5 := h3.2.2.1 (by omega)
    refine GO.iconst dX12_dark_22 ?_
    exact GO.retz rfl rfl dX12_dark_23 (Or.inl rfl) ⟨rfl, _, rfl, (ir_c rfl), ⟨Or.inl rfl, fun h => absurd rfl h, fun h => by omega⟩⟩
  ·
    have q6 := h3.2.1 (by omega)
    refine GO.iload_n dX12_dark_11 rfl rfl ?_
    refine GO.iload_n dX12_dark_12 rfl rfl ?_
    refine GO.sipush dX12_dark_13 rfl ?_
    refine GO.callS (N := mX12_in) dX12_dark_16 gS_RX12_371 (t_X12_in r_p1 r_p0 (ir_c rfl)) rfl [] rfl rfl (Nat.le_of_ble_eq_true rfl) rfl (k_ip fun X7 r8 h9 => ?_)
    have raw_in := h9.2.2.2
    have rw16 := h9.2.2.2
    refine GO.if_ne (tgt := 24) dX12_dark_19 (by decide) r8 (fun c10 => ?_) (fun c10 => ?_)
    ·
      have q11 := h9.2.1 (by omega)
      refine GO.aload_n dX12_dark_24 rfl rfl ?_
      refine GO.iload_n dX12_dark_25 rfl rfl ?_
      refine GO.putI h_x fp_RX12_7 rfl (by decide +kernel) r_p0 (r_p0).1 (r_p0).2 dX12_dark_26 (fun V13 e12 => ?_)
      refine GO.aload_n dX12_dark_29 rfl rfl ?_
      refine GO.iload_n dX12_dark_30 rfl rfl ?_
      refine GO.putI h_x fp_RX12_13 rfl (by decide +kernel) r_p1 (r_p1).1 (r_p1).2 dX12_dark_31 (fun V15 e14 => ?_)
      refine GO.iconst dX12_dark_34 ?_
      exact GO.retz rfl rfl dX12_dark_35 (Or.inr rfl) ⟨rfl, _, rfl, (ir_c rfl), ⟨Or.inr rfl, fun h => by omega, fun h => absurd h (by decide)⟩⟩
    ·
      have q16 := h9.2.2.1 (by omega)
      refine GO.iconst dX12_dark_22 ?_
      exact GO.retz rfl rfl dX12_dark_23 (Or.inl rfl) ⟨rfl, _, rfl, (ir_c rfl), ⟨Or.inl rfl, fun h => absurd rfl h, fun h => by omega⟩⟩

set_option maxHeartbeats 1000000 in
theorem t_X12_isDark {K : Kmap} {V : Vmap} {x : Nat} {p0 : Int} (h_x : K x = some (0, 11)) (r_p0 : ir p0) : MC mX12_isDark K V [.ref x, ti p0] (IP K V (fun X => (X = 0 ∨ X = 1) ∧ (X ≠ 0 → True) ∧ (X = 0 → True))) := by
  refine MC.start 0 (by decide +kernel) rfl rfl rfl (ls0 := [some (.ref x), some (ti p0)]) rfl ?_
  refine GO.iload_n dX12_isDark_0 rfl rfl ?_
  refine GO.sipush dX12_isDark_1 rfl ?_
  refine GO.irem dX12_isDark_4 (ir_c rfl) (by omega) ?_
  refine GO.aload_n dX12_isDark_5 rfl rfl ?_
  refine GO.getI h_x fl_RX12_7 rfl rfl dX12_isDark_6 (fun _ _ => ?_)
  refine GO.aload_n dX12_isDark_9 rfl rfl ?_
  refine GO.getI h_x fl_RX12_13 rfl rfl dX12_isDark_10 (fun _ _ => ?_)
  refine GO.callS (N := mX12_in) dX12_isDark_13 gS_RX12_371 (t_X12_in wrem_ir vi_ir vi_ir) rfl [] rfl rfl (Nat.le_of_ble_eq_true rfl) rfl (k_ip fun X1 r2 h3 => ?_)
  have raw_in := h3.2.2.2
  have rw13 := h3.2.2.2
  exact GO.retz rfl rfl dX12_isDark_16 (by omega) ⟨rfl, rfl, _, rfl, r2, ⟨by omega, fun _ => trivial, fun _ => trivial⟩⟩

set_option maxHeartbeats 1000000 in
theorem t_X12_far {K : Kmap} {V : Vmap} {x : Nat} {p0 : Int} {p1 : Int} (h_x : K x = some (0, 11)) (r_p0 : ir p0) (r_p1 : ir p1) (q_0 : p0 ≥ 0) (q_1 : p0 ≤ 143) (q_2 : p1 ≥ 0) (q_3 : p1 ≤ 143) : MC mX12_far K V [.ref x, ti p0, ti p1] (IP K V (fun X => 0 ≤ X ∧ X ≤ 3600)) := by
  refine MC.start 2 (by decide +kernel) rfl rfl rfl (ls0 := [some (.ref x), some (ti p0), some (ti p1), none, none]) rfl ?_
  refine GO.iload_n dX12_far_0 rfl rfl ?_
  refine GO.aload_n dX12_far_1 rfl rfl ?_
  refine GO.getI h_x fl_RX12_365 rfl rfl dX12_far_2 (fun l1 u2 => ?_)
  have q3 : -2147483648 ≤ p0 ∧ p0 ≤ 2147483647 := r_p0
  refine GO.idivP dX12_far_5 r_p0 vi_ir (by omega) (by omega) ?_
  have m4 := div_rng (a := p0) (b := vi V x 0) (by omega) (by omega)
  refine GO.iload_n dX12_far_6 rfl rfl ?_
  refine GO.aload_n dX12_far_7 rfl rfl ?_
  refine GO.getI h_x fl_RX12_365 rfl rfl dX12_far_8 (fun l5 u6 => ?_)
  have q7 : -2147483648 ≤ p1 ∧ p1 ≤ 2147483647 := r_p1
  refine GO.idivP dX12_far_11 r_p1 vi_ir (by omega) (by omega) ?_
  have m8 := div_rng (a := p1) (b := vi V x 0) (by omega) (by omega)
  refine GO.isub dX12_far_12 ?_
  refine GO.callS (N := mX12_size) dX12_far_13 gS_RX12_385 (t_X12_size ⟨by omega, by omega⟩ (by omega) (by omega)) rfl [] rfl rfl (Nat.le_of_ble_eq_true rfl) rfl (k_ip fun X9 r10 h11 => ?_)
  refine GO.istore_n (ls1 := [some (.ref x), some (ti p0), some (ti p1), some (ti X9), none]) dX12_far_16 rfl rfl rfl ?_
  refine GO.iload_n dX12_far_17 rfl rfl ?_
  refine GO.aload_n dX12_far_18 rfl rfl ?_
  refine GO.getI h_x fl_RX12_365 rfl rfl dX12_far_19 (fun l12 u13 => ?_)
  refine GO.iremP dX12_far_22 r_p0 vi_ir (by omega) (by omega) ?_
  have m14 := rem_rng (a := p0) (b := vi V x 0) (by omega)
  refine GO.iload_n dX12_far_23 rfl rfl ?_
  refine GO.aload_n dX12_far_24 rfl rfl ?_
  refine GO.getI h_x fl_RX12_365 rfl rfl dX12_far_25 (fun l15 u16 => ?_)
  refine GO.iremP dX12_far_28 r_p1 vi_ir (by omega) (by omega) ?_
  have m17 := rem_rng (a := p1) (b := vi V x 0) (by omega)
  refine GO.isub dX12_far_29 ?_
  refine GO.callS (N := mX12_size) dX12_far_30 gS_RX12_385 (t_X12_size ⟨by omega, by omega⟩ (by omega) (by omega)) rfl [] rfl rfl (Nat.le_of_ble_eq_true rfl) rfl (k_ip fun X18 r19 h20 => ?_)
  refine GO.istore (ls1 := [some (.ref x), some (ti p0), some (ti p1), some (ti X9), some (ti X18)]) dX12_far_33 rfl rfl ?_
  refine GO.iload_n dX12_far_35 rfl rfl ?_
  refine GO.iload dX12_far_36 rfl ?_
  refine GO.icmp_le (tgt := 45) dX12_far_38 (by decide) r10 r19 (fun c21 => ?_) (fun c21 => ?_)
  ·
    refine GO.iload dX12_far_45 rfl ?_
    exact GO.reti rfl rfl dX12_far_47 ⟨rfl, rfl, _, rfl, r19, ⟨by omega, by omega⟩⟩
  ·
    refine GO.iload_n dX12_far_41 rfl rfl ?_
    refine GO.goto (tgt := 47) dX12_far_42 (by decide) ?_
    exact GO.reti rfl rfl dX12_far_47 ⟨rfl, rfl, _, rfl, r10, ⟨by omega, by omega⟩⟩

set_option maxHeartbeats 1000000 in
theorem t_X12_columnStep {K : Kmap} {V : Vmap} {p0 : Int} (r_p0 : ir p0) : MC mX12_columnStep K V [ti p0] (IP K V (fun X => (-1) ≤ X ∧ X ≤ 1)) := by
  refine MC.start 0 (by decide +kernel) rfl rfl rfl (ls0 := [some (ti p0)]) rfl ?_
  refine GO.iload_n dX12_columnStep_0 rfl rfl ?_
  refine GO.iconst dX12_columnStep_1 ?_
  refine GO.iconst dX12_columnStep_2 ?_
  refine GO.callS (N := mX12_in) dX12_columnStep_3 gS_RX12_371 (t_X12_in r_p0 (ir_c rfl) (ir_c rfl)) rfl [] rfl rfl (Nat.le_of_ble_eq_true rfl) rfl (k_ip fun X1 r2 h3 => ?_)
  have raw_in := h3.2.2.2
  have rw3 := h3.2.2.2
  refine GO.if_eq (tgt := 13) dX12_columnStep_6 (by decide) r2 (fun c4 => ?_) (fun c4 => ?_)
  ·
    have q5 := h3.2.2.1 (by omega)
    refine GO.iload_n dX12_columnStep_13 rfl rfl ?_
    refine GO.iconst dX12_columnStep_14 ?_
    refine GO.icmp_lt (tgt := 22) dX12_columnStep_15 (by decide) r_p0 (ir_c rfl) (fun c6 => ?_) (fun c6 => ?_)
    ·
      refine GO.iconst dX12_columnStep_22 ?_
      exact GO.reti rfl rfl dX12_columnStep_23 ⟨rfl, rfl, _, rfl, (ir_c rfl), ⟨by omega, by omega⟩⟩
    ·
      refine GO.iconst dX12_columnStep_18 ?_
      refine GO.goto (tgt := 23) dX12_columnStep_19 (by decide) ?_
      exact GO.reti rfl rfl dX12_columnStep_23 ⟨rfl, rfl, _, rfl, (ir_c rfl), ⟨by omega, by omega⟩⟩
  ·
    have q7 := h3.2.1 (by omega)
    refine GO.iconst dX12_columnStep_9 ?_
    refine GO.goto (tgt := 23) dX12_columnStep_10 (by decide) ?_
    exact GO.reti rfl rfl dX12_columnStep_23 ⟨rfl, rfl, _, rfl, (ir_c rfl), ⟨by omega, by omega⟩⟩

set_option maxHeartbeats 1000000 in
theorem t_X12_rowStep {K : Kmap} {V : Vmap} {p0 : Int} (r_p0 : ir p0) : MC mX12_rowStep K V [ti p0] (IP K V (fun X => (-1) ≤ X ∧ X ≤ 1)) := by
  refine MC.start 0 (by decide +kernel) rfl rfl rfl (ls0 := [some (ti p0)]) rfl ?_
  refine GO.iload_n dX12_rowStep_0 rfl rfl ?_
  refine GO.if_eq (tgt := 15) dX12_rowStep_1 (by decide) r_p0 (fun c1 => ?_) (fun c1 => ?_)
  ·
    refine GO.iconst dX12_rowStep_15 ?_
    refine GO.goto (tgt := 33) dX12_rowStep_16 (by decide) ?_
    exact GO.reti rfl rfl dX12_rowStep_33 ⟨rfl, rfl, _, rfl, (ir_c rfl), ⟨by omega, by omega⟩⟩
  ·
    refine GO.iload_n dX12_rowStep_4 rfl rfl ?_
    refine GO.iconst dX12_rowStep_5 ?_
    refine GO.icmp_eq (tgt := 15) dX12_rowStep_6 (by decide) r_p0 (ir_c rfl) (fun c2 => ?_) (fun c2 => ?_)
    ·
      refine GO.iconst dX12_rowStep_15 ?_
      refine GO.goto (tgt := 33) dX12_rowStep_16 (by decide) ?_
      exact GO.reti rfl rfl dX12_rowStep_33 ⟨rfl, rfl, _, rfl, (ir_c rfl), ⟨by omega, by omega⟩⟩
    ·
      refine GO.iload_n dX12_rowStep_9 rfl rfl ?_
      refine GO.bipush dX12_rowStep_10 rfl ?_
      refine GO.icmp_ne (tgt := 19) dX12_rowStep_12 (by decide) r_p0 (ir_c rfl) (fun c3 => ?_) (fun c3 => ?_)
      ·
        refine GO.iload_n dX12_rowStep_19 rfl rfl ?_
        refine GO.iconst dX12_rowStep_20 ?_
        refine GO.iconst dX12_rowStep_21 ?_
        refine GO.callS (N := mX12_in) dX12_rowStep_22 gS_RX12_371 (t_X12_in r_p0 (ir_c rfl) (ir_c rfl)) rfl [] rfl rfl (Nat.le_of_ble_eq_true rfl) rfl (k_ip fun X4 r5 h6 => ?_)
        have raw_in := h6.2.2.2
        have rw22 := h6.2.2.2
        refine GO.if_eq (tgt := 32) dX12_rowStep_25 (by decide) r5 (fun c7 => ?_) (fun c7 => ?_)
        ·
          have q8 := h6.2.2.1 (by omega)
          refine GO.iconst dX12_rowStep_32 ?_
          exact GO.reti rfl rfl dX12_rowStep_33 ⟨rfl, rfl, _, rfl, (ir_c rfl), ⟨by omega, by omega⟩⟩
        ·
          have q9 := h6.2.1 (by omega)
          refine GO.iconst dX12_rowStep_28 ?_
          refine GO.goto (tgt := 33) dX12_rowStep_29 (by decide) ?_
          exact GO.reti rfl rfl dX12_rowStep_33 ⟨rfl, rfl, _, rfl, (ir_c rfl), ⟨by omega, by omega⟩⟩
      ·
        refine GO.iconst dX12_rowStep_15 ?_
        refine GO.goto (tgt := 33) dX12_rowStep_16 (by decide) ?_
        exact GO.reti rfl rfl dX12_rowStep_33 ⟨rfl, rfl, _, rfl, (ir_c rfl), ⟨by omega, by omega⟩⟩

set_option maxHeartbeats 1000000 in
theorem t_X12_moved {K : Kmap} {V : Vmap} {x : Nat} {p0 : Int} {p1 : Int} {p2 : Int} (h_x : K x = some (0, 11)) (r_p0 : ir p0) (r_p1 : ir p1) (r_p2 : ir p2) (q_0 : p0 ≥ 0) (q_1 : p0 ≤ 143) (q_2 : p1 ≥ (-1)) (q_3 : p1 ≤ 1) (q_4 : p2 ≥ (-1)) (q_5 : p2 ≤ 1) : MC mX12_moved K V [.ref x, ti p0, ti p1, ti p2] (IP K V (fun X => (-1) ≤ X ∧ X ≤ 143)) := by
  refine MC.start 2 (by decide +kernel) rfl rfl rfl (ls0 := [some (.ref x), some (ti p0), some (ti p1), some (ti p2), none, none]) rfl ?_
  refine GO.iload_n dX12_moved_0 rfl rfl ?_
  refine GO.aload_n dX12_moved_1 rfl rfl ?_
  refine GO.getI h_x fl_RX12_365 rfl rfl dX12_moved_2 (fun l1 u2 => ?_)
  have q3 : -2147483648 ≤ p0 ∧ p0 ≤ 2147483647 := r_p0
  refine GO.iremP dX12_moved_5 r_p0 vi_ir (by omega) (by omega) ?_
  have m4 := rem_rng (a := p0) (b := vi V x 0) (by omega)
  refine GO.iload_n dX12_moved_6 rfl rfl ?_
  refine GO.iadd dX12_moved_7 ?_
  refine GO.name (fun z5 hz6 => ?_)
  refine GO.istore (ls1 := [some (.ref x), some (ti p0), some (ti p1), some (ti p2), some (ti z5), none]) dX12_moved_8 rfl rfl ?_
  refine GO.iload_n dX12_moved_10 rfl rfl ?_
  refine GO.aload_n dX12_moved_11 rfl rfl ?_
  refine GO.getI h_x fl_RX12_365 rfl rfl dX12_moved_12 (fun l7 u8 => ?_)
  have q9 : -2147483648 ≤ p1 ∧ p1 ≤ 2147483647 := r_p1
  refine GO.idivP dX12_moved_15 r_p0 vi_ir (by omega) (by omega) ?_
  have m10 := div_rng (a := p0) (b := vi V x 0) (by omega) (by omega)
  refine GO.iload_n dX12_moved_16 rfl rfl ?_
  refine GO.iadd dX12_moved_17 ?_
  refine GO.name (fun z11 hz12 => ?_)
  refine GO.istore (ls1 := [some (.ref x), some (ti p0), some (ti p1), some (ti p2), some (ti z5), some (ti z11)]) dX12_moved_18 rfl rfl ?_
  refine GO.iload dX12_moved_20 rfl ?_
  refine GO.iconst dX12_moved_22 ?_
  refine GO.aload_n dX12_moved_23 rfl rfl ?_
  refine GO.getI h_x fl_RX12_365 rfl rfl dX12_moved_24 (fun l13 u14 => ?_)
  refine GO.iconst dX12_moved_27 ?_
  refine GO.isub dX12_moved_28 ?_
  refine GO.callS (N := mX12_in) dX12_moved_29 gS_RX12_371 (t_X12_in ⟨by omega, by omega⟩ (ir_c rfl) ⟨by omega, by omega⟩) rfl [] rfl rfl (Nat.le_of_ble_eq_true rfl) rfl (k_ip fun X15 r16 h17 => ?_)
  have raw_in := h17.2.2.2
  have rw29 := h17.2.2.2
  refine GO.if_eq (tgt := 63) dX12_moved_32 (by decide) r16 (fun c18 => ?_) (fun c18 => ?_)
  ·
    have q19 := h17.2.2.1 (by omega)
    refine GO.iconst dX12_moved_63 ?_
    exact GO.reti rfl rfl dX12_moved_64 ⟨rfl, rfl, _, rfl, (ir_c rfl), ⟨by omega, by omega⟩⟩
  ·
    have q20 := h17.2.1 (by omega)
    refine GO.iload dX12_moved_35 rfl ?_
    refine GO.iconst dX12_moved_37 ?_
    refine GO.aload_n dX12_moved_38 rfl rfl ?_
    refine GO.getI h_x fl_RX12_368 rfl rfl dX12_moved_39 (fun l21 u22 => ?_)
    refine GO.iconst dX12_moved_42 ?_
    refine GO.isub dX12_moved_43 ?_
    have q23 : -2147483648 ≤ p2 ∧ p2 ≤ 2147483647 := r_p2
    refine GO.callS (N := mX12_in) dX12_moved_44 gS_RX12_371 (t_X12_in ⟨by omega, by omega⟩ (ir_c rfl) ⟨by omega, by omega⟩) rfl [] rfl rfl (Nat.le_of_ble_eq_true rfl) rfl (k_ip fun X24 r25 h26 => ?_)
    have raw_in := h26.2.2.2
    have rw44 := h26.2.2.2
    refine GO.if_eq (tgt := 63) dX12_moved_47 (by decide) r25 (fun c27 => ?_) (fun c27 => ?_)
    ·
      have q28 := h26.2.2.1 (by omega)
      refine GO.iconst dX12_moved_63 ?_
      exact GO.reti rfl rfl dX12_moved_64 ⟨rfl, rfl, _, rfl, (ir_c rfl), ⟨by omega, by omega⟩⟩
    ·
      have q29 := h26.2.1 (by omega)
      refine GO.aload_n dX12_moved_50 rfl rfl ?_
      refine GO.getI h_x fl_RX12_365 rfl rfl dX12_moved_51 (fun l30 u31 => ?_)
      refine GO.iload dX12_moved_54 rfl ?_
      refine GO.imul dX12_moved_56 ?_
      have m32 := mul_rng (a := vi V x 0) (b := z11) (A := 12) (B := 11) (by omega) (by omega) (by omega) (by omega)
      refine GO.iload dX12_moved_57 rfl ?_
      refine GO.iadd dX12_moved_59 ?_
      refine GO.goto (tgt := 64) dX12_moved_60 (by decide) ?_
      exact GO.reti rfl rfl dX12_moved_64 ⟨rfl, rfl, _, rfl, ⟨by omega, by omega⟩, ⟨by omega, by omega⟩⟩

set_option maxHeartbeats 1000000 in
theorem t_X12_isLand {K : Kmap} {V : Vmap} {x : Nat} {p0 : Int} (h_x : K x = some (0, 11)) (r_p0 : ir p0) (q_0 : p0 ≥ 0) (q_1 : p0 ≤ 143) : MC mX12_isLand K V [.ref x, ti p0] (IP K V (fun X => (X = 0 ∨ X = 1) ∧ (X ≠ 0 → True) ∧ (X = 0 → True))) := by
  refine MC.start 0 (by decide +kernel) rfl rfl rfl (ls0 := [some (.ref x), some (ti p0)]) rfl ?_
  refine GO.aload_n dX12_isLand_0 rfl rfl ?_
  refine GO.getA (n := 144) h_x fl_RX12_20 rfl rfl rfl rfl dX12_isLand_1 (fun hv2 h1 => ?_)
  refine GO.iload_n dX12_isLand_4 rfl rfl ?_
  have q3 : -2147483648 ≤ p0 ∧ p0 ≤ 2147483647 := r_p0
  refine GO.iald (t := 10) rfl rfl h1 r_p0 (by omega) (by omega) dX12_isLand_5 (fun l4 u5 => ?_)
  refine GO.iconst dX12_isLand_6 ?_
  refine GO.icmp_ge (tgt := 14) dX12_isLand_7 (by decide) vi_ir (ir_c rfl) (fun c6 => ?_) (fun c6 => ?_)
  ·
    refine GO.iconst dX12_isLand_14 ?_
    exact GO.retz rfl rfl dX12_isLand_15 (Or.inl rfl) ⟨rfl, rfl, _, rfl, (ir_c rfl), ⟨Or.inl rfl, fun _ => trivial, fun _ => trivial⟩⟩
  ·
    refine GO.iconst dX12_isLand_10 ?_
    refine GO.goto (tgt := 15) dX12_isLand_11 (by decide) ?_
    exact GO.retz rfl rfl dX12_isLand_15 (Or.inr rfl) ⟨rfl, rfl, _, rfl, (ir_c rfl), ⟨Or.inr rfl, fun _ => trivial, fun _ => trivial⟩⟩

set_option maxHeartbeats 1000000 in
theorem t_X12_isNearSea {K : Kmap} {V : Vmap} {x : Nat} {p0 : Int} (h_x : K x = some (0, 11)) (r_p0 : ir p0) (q_0 : p0 ≥ 0) (q_1 : p0 ≤ 143) : MC mX12_isNearSea K V [.ref x, ti p0] (IP K V (fun X => (X = 0 ∨ X = 1) ∧ (X ≠ 0 → True) ∧ (X = 0 → True))) := by
  refine MC.start 1 (by decide +kernel) rfl rfl rfl (ls0 := [some (.ref x), some (ti p0), none]) rfl ?_
  refine GO.iconst dX12_isNearSea_0 ?_
  refine GO.istore_n (ls1 := [some (.ref x), some (ti p0), some (ti 0)]) dX12_isNearSea_1 rfl rfl rfl ?_
  refine GO.loop1 (fun i1 W => 0 ≤ i1 ∧ i1 ≤ 144 ∧ V = W) (fun i1 => [some (.ref x), some (ti p0), some (ti i1)]) (fun i1 W => (2147483647 - i1).toNat) 0 ⟨by omega, by omega, rfl⟩ rfl (fun i1 V155 hp157 ih156 => ?_)
  obtain ⟨l_i1, u_i1, rfl⟩ := hp157
  have r_i1 : ir i1 := ⟨by omega, by omega⟩
  show GO mX12_isNearSea K V (IP K V (fun X => (X = 0 ∨ X = 1) ∧ (X ≠ 0 → True) ∧ (X = 0 → True))) K V 0 0 2 [some (.ref x), some (ti p0), some (ti i1)] []
  refine GO.iload_n dX12_isNearSea_2 rfl rfl ?_
  refine GO.aload_n dX12_isNearSea_3 rfl rfl ?_
  refine GO.getI h_x fl_RX12_365 rfl rfl dX12_isNearSea_4 (fun l158 u159 => ?_)
  refine GO.aload_n dX12_isNearSea_7 rfl rfl ?_
  refine GO.getI h_x fl_RX12_368 rfl rfl dX12_isNearSea_8 (fun l160 u161 => ?_)
  refine GO.imul dX12_isNearSea_11 ?_
  have m162 := mul_rng (a := vi V x 0) (b := vi V x 1) (A := 12) (B := 12) (by omega) (by omega) (by omega) (by omega)
  have m163 := mul_low (a := vi V x 0) (b := vi V x 1) (m := 4) (n := 4) (by omega) (by omega) (by omega) (by omega)
  refine GO.icmp_ge (tgt := 43) dX12_isNearSea_12 (by decide) r_i1 ⟨by omega, by omega⟩ (fun c164 => ?_) (fun c164 => ?_)
  ·
    refine GO.iconst dX12_isNearSea_43 ?_
    exact GO.retz rfl rfl dX12_isNearSea_44 (Or.inl rfl) ⟨rfl, rfl, _, rfl, (ir_c rfl), ⟨Or.inl rfl, fun _ => trivial, fun _ => trivial⟩⟩
  ·
    refine GO.aload_n dX12_isNearSea_15 rfl rfl ?_
    refine GO.getA (n := 144) h_x fl_RX12_20 rfl rfl rfl rfl dX12_isNearSea_16 (fun hv166 h165 => ?_)
    refine GO.iload_n dX12_isNearSea_19 rfl rfl ?_
    refine GO.iald (t := 10) rfl rfl h165 r_i1 (by omega) (by omega) dX12_isNearSea_20 (fun l167 u168 => ?_)
    refine GO.iconst dX12_isNearSea_21 ?_
    refine GO.icmp_ne (tgt := 37) dX12_isNearSea_22 (by decide) vi_ir (ir_c rfl) (fun c169 => ?_) (fun c169 => ?_)
    ·
      refine GO.iinc (X := i1) (n := 1) (Y := i1 + 1) (ls1 := [some (.ref x), some (ti p0), some (ti (i1 + 1))]) dX12_isNearSea_37 rfl rfl rfl rfl ?_
      refine GO.goto (tgt := 2) dX12_isNearSea_40 (by decide) ?_
      exact ih156 (i1 + 1) V ⟨by omega, by omega, rfl⟩ (by show (2147483647 - (i1 + 1)).toNat < (2147483647 - i1).toNat; omega)
    ·
      refine GO.aload_n dX12_isNearSea_25 rfl rfl ?_
      refine GO.iload_n dX12_isNearSea_26 rfl rfl ?_
      refine GO.iload_n dX12_isNearSea_27 rfl rfl ?_
      have q170 : -2147483648 ≤ p0 ∧ p0 ≤ 2147483647 := r_p0
      refine GO.callV (ci := 11) (N := mX12_far) dX12_isNearSea_28 (RX12, TX12, 151) rfl gV_RX12_389 h_x (t_X12_far h_x r_i1 r_p0 (by omega) (by omega) (by omega) (by omega)) rfl [] rfl rfl (Nat.le_of_ble_eq_true rfl) rfl (k_ip fun X171 r172 h173 => ?_)
      refine GO.iconst dX12_isNearSea_31 ?_
      refine GO.icmp_gt (tgt := 37) dX12_isNearSea_32 (by decide) r172 (ir_c rfl) (fun c174 => ?_) (fun c174 => ?_)
      ·
        refine GO.iinc (X := i1) (n := 1) (Y := i1 + 1) (ls1 := [some (.ref x), some (ti p0), some (ti (i1 + 1))]) dX12_isNearSea_37 rfl rfl rfl rfl ?_
        refine GO.goto (tgt := 2) dX12_isNearSea_40 (by decide) ?_
        exact ih156 (i1 + 1) V ⟨by omega, by omega, rfl⟩ (by show (2147483647 - (i1 + 1)).toNat < (2147483647 - i1).toNat; omega)
      ·
        refine GO.iconst dX12_isNearSea_35 ?_
        exact GO.retz rfl rfl dX12_isNearSea_36 (Or.inr rfl) ⟨rfl, rfl, _, rfl, (ir_c rfl), ⟨Or.inr rfl, fun _ => trivial, fun _ => trivial⟩⟩

set_option maxHeartbeats 1000000 in
theorem t_X12_party {K : Kmap} {V : Vmap} {x : Nat} {p0 : Int} (h_x : K x = some (0, 11)) (r_p0 : ir p0) (z_p0 : p0 = 0 ∨ p0 = 1) : MC mX12_party K V [.ref x, ti p0] (IS K (fun X V1 => ((X = (-1) ∧ vi V1 x 9 = vi V x 9 ∧ vi V x 9 ≥ 9) ∨ (X = vi V x 9 ∧ vi V1 x 9 = (vi V x 9 + 1) ∧ vi V x 9 < 9)))) := by
  refine MC.start 0 (by decide +kernel) rfl rfl rfl (ls0 := [some (.ref x), some (ti p0)]) rfl ?_
  refine GO.aload_n dX12_party_0 rfl rfl ?_
  refine GO.getI h_x fl_RX12_393 rfl rfl dX12_party_1 (fun l1 u2 => ?_)
  refine GO.bipush dX12_party_4 rfl ?_
  refine GO.icmp_ne (tgt := 11) dX12_party_6 (by decide) vi_ir (ir_c rfl) (fun c3 => ?_) (fun c3 => ?_)
  ·
    refine GO.aload_n dX12_party_11 rfl rfl ?_
    refine GO.getA (n := 9) h_x fl_RX12_29 rfl rfl rfl rfl dX12_party_12 (fun hv5 h4 => ?_)
    refine GO.aload_n dX12_party_15 rfl rfl ?_
    refine GO.getI h_x fl_RX12_393 rfl rfl dX12_party_16 (fun l6 u7 => ?_)
    refine GO.iload_n dX12_party_19 rfl rfl ?_
    refine GO.if_eq (tgt := 30) dX12_party_20 (by decide) r_p0 (fun c8 => ?_) (fun c8 => ?_)
    ·
      refine GO.iconst dX12_party_30 ?_
      refine GO.iast (t := 13) rfl rfl (by decide +kernel) h4 vi_ir (by omega) (by omega) (ir_c rfl) (by decide) (by decide) dX12_party_31 (fun V10 e9 => ?_)
      refine GO.aload_n dX12_party_32 rfl rfl ?_
      refine GO.aload_n dX12_party_33 rfl rfl ?_
      refine GO.getI h_x fl_RX12_393 rfl rfl dX12_party_34 (fun l11 u12 => ?_)
      have e13 : vi V10 x 9 = vi V x 9 := vi_up e9 (Or.inl (K_ne h_x h4 (by decide)))
      refine GO.iconst dX12_party_37 ?_
      refine GO.iadd dX12_party_38 ?_
      refine GO.putI h_x fp_RX12_393 rfl (by decide +kernel) ⟨by omega, by omega⟩ (by omega) (by omega) dX12_party_39 (fun V15 e14 => ?_)
      refine GO.aload_n dX12_party_42 rfl rfl ?_
      refine GO.getI h_x fl_RX12_393 rfl rfl dX12_party_43 (fun l16 u17 => ?_)
      have e18 : vi V15 x 9 = (vi V10 x 9) + 1 := upd2_int e14 ⟨by omega, by omega⟩
      refine GO.iconst dX12_party_46 ?_
      refine GO.isub dX12_party_47 ?_
      exact GO.reti rfl rfl dX12_party_48 ⟨rfl, _, rfl, ⟨by omega, by omega⟩, by omega⟩
    ·
      refine GO.aload_n dX12_party_23 rfl rfl ?_
      refine GO.getI h_x fl_RX12_396 rfl rfl dX12_party_24 (fun l19 u20 => ?_)
      refine GO.goto (tgt := 31) dX12_party_27 (by decide) ?_
      refine GO.iast (t := 13) rfl rfl (by decide +kernel) h4 vi_ir (by omega) (by omega) vi_ir (vi_ir).1 (vi_ir).2 dX12_party_31 (fun V22 e21 => ?_)
      refine GO.aload_n dX12_party_32 rfl rfl ?_
      refine GO.aload_n dX12_party_33 rfl rfl ?_
      refine GO.getI h_x fl_RX12_393 rfl rfl dX12_party_34 (fun l23 u24 => ?_)
      have e25 : vi V22 x 9 = vi V x 9 := vi_up e21 (Or.inl (K_ne h_x h4 (by decide)))
      refine GO.iconst dX12_party_37 ?_
      refine GO.iadd dX12_party_38 ?_
      refine GO.putI h_x fp_RX12_393 rfl (by decide +kernel) ⟨by omega, by omega⟩ (by omega) (by omega) dX12_party_39 (fun V27 e26 => ?_)
      refine GO.aload_n dX12_party_42 rfl rfl ?_
      refine GO.getI h_x fl_RX12_393 rfl rfl dX12_party_43 (fun l28 u29 => ?_)
      have e30 : vi V27 x 9 = (vi V22 x 9) + 1 := upd2_int e26 ⟨by omega, by omega⟩
      refine GO.iconst dX12_party_46 ?_
      refine GO.isub dX12_party_47 ?_
      exact GO.reti rfl rfl dX12_party_48 ⟨rfl, _, rfl, ⟨by omega, by omega⟩, by omega⟩
  ·
    refine GO.iconst dX12_party_9 ?_
    exact GO.reti rfl rfl dX12_party_10 ⟨rfl, _, rfl, (ir_c rfl), by omega⟩

set_option maxHeartbeats 1000000 in
theorem t_X12_isParty {K : Kmap} {V : Vmap} {x : Nat} {p0 : Int} (h_x : K x = some (0, 11)) (r_p0 : ir p0) : MC mX12_isParty K V [.ref x, ti p0] (IP K V (fun X => (X = 0 ∨ X = 1) ∧ (X ≠ 0 → p0 ≥ 0 ∧ p0 ≤ 8 ∧ p0 < vi V x 9) ∧ (X = 0 → (p0 < 0 ∨ p0 ≥ vi V x 9)))) := by
  refine MC.start 0 (by decide +kernel) rfl rfl rfl (ls0 := [some (.ref x), some (ti p0)]) rfl ?_
  refine GO.iload_n dX12_isParty_0 rfl rfl ?_
  refine GO.if_lt (tgt := 16) dX12_isParty_1 (by decide) r_p0 (fun c1 => ?_) (fun c1 => ?_)
  ·
    refine GO.iconst dX12_isParty_16 ?_
    have q2 : -2147483648 ≤ vi V x 9 ∧ vi V x 9 ≤ 2147483647 := vi_ir
    exact GO.retz rfl rfl dX12_isParty_17 (Or.inl rfl) ⟨rfl, rfl, _, rfl, (ir_c rfl), ⟨Or.inl rfl, fun h => absurd rfl h, fun h => by omega⟩⟩
  ·
    refine GO.iload_n dX12_isParty_4 rfl rfl ?_
    refine GO.aload_n dX12_isParty_5 rfl rfl ?_
    refine GO.getI h_x fl_RX12_393 rfl rfl dX12_isParty_6 (fun l3 u4 => ?_)
    refine GO.icmp_ge (tgt := 16) dX12_isParty_9 (by decide) r_p0 vi_ir (fun c5 => ?_) (fun c5 => ?_)
    ·
      refine GO.iconst dX12_isParty_16 ?_
      have q6 : -2147483648 ≤ p0 ∧ p0 ≤ 2147483647 := r_p0
      exact GO.retz rfl rfl dX12_isParty_17 (Or.inl rfl) ⟨rfl, rfl, _, rfl, (ir_c rfl), ⟨Or.inl rfl, fun h => absurd rfl h, fun h => by omega⟩⟩
    ·
      refine GO.iconst dX12_isParty_12 ?_
      refine GO.goto (tgt := 17) dX12_isParty_13 (by decide) ?_
      have q7 : -2147483648 ≤ p0 ∧ p0 ≤ 2147483647 := r_p0
      exact GO.retz rfl rfl dX12_isParty_17 (Or.inr rfl) ⟨rfl, rfl, _, rfl, (ir_c rfl), ⟨Or.inr rfl, fun h => by omega, fun h => absurd h (by decide)⟩⟩

set_option maxHeartbeats 1000000 in
theorem t_X12_isPlace {K : Kmap} {V : Vmap} {x : Nat} {p0 : Int} {p1 : Int} (h_x : K x = some (0, 11)) (r_p0 : ir p0) (r_p1 : ir p1) : MC mX12_isPlace K V [.ref x, ti p0, ti p1] (IP K V (fun X => (X = 0 ∨ X = 1) ∧ (X ≠ 0 → p0 ≥ 0 ∧ p0 ≤ 59) ∧ (X = 0 → True) ∧ (X ≠ 0 → p0 < vi V x 10 ∧ ar 13 V x (p0).toNat = p1))) := by
  refine MC.start 0 (by decide +kernel) rfl rfl rfl (ls0 := [some (.ref x), some (ti p0), some (ti p1)]) rfl ?_
  refine GO.iload_n dX12_isPlace_0 rfl rfl ?_
  refine GO.if_lt (tgt := 26) dX12_isPlace_1 (by decide) r_p0 (fun c1 => ?_) (fun c1 => ?_)
  ·
    refine GO.iconst dX12_isPlace_26 ?_
    exact GO.retz rfl rfl dX12_isPlace_27 (Or.inl rfl) ⟨rfl, rfl, _, rfl, (ir_c rfl), ⟨Or.inl rfl, fun h => absurd rfl h, fun _ => trivial, (by first | exact fun h => absurd rfl h | exact fun _ => ⟨by omega, by assumption⟩ | exact fun _ => ⟨by omega, by show vi _ _ _ = _; omega⟩)⟩⟩
  ·
    refine GO.iload_n dX12_isPlace_4 rfl rfl ?_
    refine GO.aload_n dX12_isPlace_5 rfl rfl ?_
    refine GO.getI h_x fl_RX12_375 rfl rfl dX12_isPlace_6 (fun l2 u3 => ?_)
    refine GO.icmp_ge (tgt := 26) dX12_isPlace_9 (by decide) r_p0 vi_ir (fun c4 => ?_) (fun c4 => ?_)
    ·
      refine GO.iconst dX12_isPlace_26 ?_
      exact GO.retz rfl rfl dX12_isPlace_27 (Or.inl rfl) ⟨rfl, rfl, _, rfl, (ir_c rfl), ⟨Or.inl rfl, fun h => absurd rfl h, fun _ => trivial, (by first | exact fun h => absurd rfl h | exact fun _ => ⟨by omega, by assumption⟩ | exact fun _ => ⟨by omega, by show vi _ _ _ = _; omega⟩)⟩⟩
    ·
      refine GO.aload_n dX12_isPlace_12 rfl rfl ?_
      refine GO.getA (n := 60) h_x fl_RX12_35 rfl rfl rfl rfl dX12_isPlace_13 (fun hv6 h5 => ?_)
      refine GO.iload_n dX12_isPlace_16 rfl rfl ?_
      have q7 : -2147483648 ≤ p0 ∧ p0 ≤ 2147483647 := r_p0
      refine GO.iald (t := 15) rfl rfl h5 r_p0 (by omega) (by omega) dX12_isPlace_17 (fun l8 u9 => ?_)
      refine GO.iload_n dX12_isPlace_18 rfl rfl ?_
      refine GO.icmp_ne (tgt := 26) dX12_isPlace_19 (by decide) vi_ir r_p1 (fun c10 => ?_) (fun c10 => ?_)
      ·
        refine GO.iconst dX12_isPlace_26 ?_
        exact GO.retz rfl rfl dX12_isPlace_27 (Or.inl rfl) ⟨rfl, rfl, _, rfl, (ir_c rfl), ⟨Or.inl rfl, fun h => absurd rfl h, fun _ => trivial, (by first | exact fun h => absurd rfl h | exact fun _ => ⟨by omega, by assumption⟩ | exact fun _ => ⟨by omega, by show vi _ _ _ = _; omega⟩)⟩⟩
      ·
        refine GO.iconst dX12_isPlace_22 ?_
        refine GO.goto (tgt := 27) dX12_isPlace_23 (by decide) ?_
        exact GO.retz rfl rfl dX12_isPlace_27 (Or.inr rfl) ⟨rfl, rfl, _, rfl, (ir_c rfl), ⟨Or.inr rfl, fun h => by omega, fun _ => trivial, (by first | exact fun h => absurd h (by decide) | exact fun _ => ⟨by omega, by assumption⟩ | exact fun _ => ⟨by omega, by show vi _ _ _ = _; omega⟩)⟩⟩

set_option maxHeartbeats 1000000 in
theorem t_X12_isStation {K : Kmap} {V : Vmap} {x : Nat} {p0 : Int} (h_x : K x = some (0, 11)) (r_p0 : ir p0) : MC mX12_isStation K V [.ref x, ti p0] (IP K V (fun X => (X = 0 ∨ X = 1) ∧ (X ≠ 0 → p0 ≥ 0 ∧ p0 ≤ 59) ∧ (X = 0 → True))) := by
  refine MC.start 0 (by decide +kernel) rfl rfl rfl (ls0 := [some (.ref x), some (ti p0)]) rfl ?_
  refine GO.aload_n dX12_isStation_0 rfl rfl ?_
  refine GO.iload_n dX12_isStation_1 rfl rfl ?_
  refine GO.iconst dX12_isStation_2 ?_
  refine GO.callV (ci := 11) (N := mX12_isPlace) dX12_isStation_3 (RX12, TX12, 151) rfl gV_RX12_399 h_x (t_X12_isPlace h_x r_p0 (ir_c rfl)) rfl [] rfl rfl (Nat.le_of_ble_eq_true rfl) rfl (k_ip fun X1 r2 h3 => ?_)
  have raw_isPlace := h3.2.2.2
  have rw3 := h3.2.2.2
  exact GO.retz rfl rfl dX12_isStation_6 (by omega) ⟨rfl, rfl, _, rfl, r2, ⟨by omega, fun h => by omega, fun _ => trivial⟩⟩

set_option maxHeartbeats 1000000 in
theorem t_X12_stands {K : Kmap} {V : Vmap} {x : Nat} {p0 : Int} (h_x : K x = some (0, 11)) (r_p0 : ir p0) : MC mX12_stands K V [.ref x, ti p0] (IP K V (fun X => (X = 0 ∨ X = 1) ∧ (X ≠ 0 → p0 ≥ 0 ∧ p0 ≤ 59) ∧ (X = 0 → True))) := by
  refine MC.start 0 (by decide +kernel) rfl rfl rfl (ls0 := [some (.ref x), some (ti p0)]) rfl ?_
  refine GO.aload_n dX12_stands_0 rfl rfl ?_
  refine GO.iload_n dX12_stands_1 rfl rfl ?_
  refine GO.callV (ci := 11) (N := mX12_isStation) dX12_stands_2 (RX12, TX12, 151) rfl gV_RX12_403 h_x (t_X12_isStation h_x r_p0) rfl [] rfl rfl (Nat.le_of_ble_eq_true rfl) rfl (k_ip fun X1 r2 h3 => ?_)
  refine GO.if_eq (tgt := 21) dX12_stands_5 (by decide) r2 (fun c4 => ?_) (fun c4 => ?_)
  ·
    refine GO.iconst dX12_stands_21 ?_
    exact GO.retz rfl rfl dX12_stands_22 (Or.inl rfl) ⟨rfl, rfl, _, rfl, (ir_c rfl), ⟨Or.inl rfl, fun h => absurd rfl h, fun _ => trivial⟩⟩
  ·
    have q5 := h3.2.1 (by omega)
    refine GO.aload_n dX12_stands_8 rfl rfl ?_
    refine GO.getA (n := 60) h_x fl_RX12_80 rfl rfl rfl rfl dX12_stands_9 (fun hv7 h6 => ?_)
    refine GO.iload_n dX12_stands_12 rfl rfl ?_
    have q8 : -2147483648 ≤ p0 ∧ p0 ≤ 2147483647 := r_p0
    refine GO.zald (t := 30) rfl rfl h6 r_p0 (by omega) (by omega) dX12_stands_13 (fun l9 u10 => ?_)
    refine GO.if_ne (tgt := 21) dX12_stands_14 (by decide) vi_ir (fun c11 => ?_) (fun c11 => ?_)
    ·
      refine GO.iconst dX12_stands_21 ?_
      exact GO.retz rfl rfl dX12_stands_22 (Or.inl rfl) ⟨rfl, rfl, _, rfl, (ir_c rfl), ⟨Or.inl rfl, fun h => absurd rfl h, fun _ => trivial⟩⟩
    ·
      refine GO.iconst dX12_stands_17 ?_
      refine GO.goto (tgt := 22) dX12_stands_18 (by decide) ?_
      exact GO.retz rfl rfl dX12_stands_22 (Or.inr rfl) ⟨rfl, rfl, _, rfl, (ir_c rfl), ⟨Or.inr rfl, fun h => by omega, fun _ => trivial⟩⟩

set_option maxHeartbeats 1000000 in
theorem t_X12_decidesOn {K : Kmap} {V : Vmap} {x : Nat} {p0 : Int} {p1 : Int} (h_x : K x = some (0, 11)) (r_p0 : ir p0) (r_p1 : ir p1) (q_0 : p0 ≥ 0) (q_1 : p0 ≤ 8) : MC mX12_decidesOn K V [.ref x, ti p0, ti p1] (IP K V (fun X => (X = 0 ∨ X = 1) ∧ (X ≠ 0 → True) ∧ (X = 0 → True))) := by
  refine MC.start 0 (by decide +kernel) rfl rfl rfl (ls0 := [some (.ref x), some (ti p0), some (ti p1)]) rfl ?_
  refine GO.aload_n dX12_decidesOn_0 rfl rfl ?_
  refine GO.getA (n := 9) h_x fl_RX12_29 rfl rfl rfl rfl dX12_decidesOn_1 (fun hv2 h1 => ?_)
  refine GO.iload_n dX12_decidesOn_4 rfl rfl ?_
  have q3 : -2147483648 ≤ p0 ∧ p0 ≤ 2147483647 := r_p0
  refine GO.iald (t := 13) rfl rfl h1 r_p0 (by omega) (by omega) dX12_decidesOn_5 (fun _ _ => ?_)
  refine GO.iconst dX12_decidesOn_6 ?_
  refine GO.icmp_eq (tgt := 24) dX12_decidesOn_7 (by decide) vi_ir (ir_c rfl) (fun c4 => ?_) (fun c4 => ?_)
  ·
    refine GO.iconst dX12_decidesOn_24 ?_
    exact GO.retz rfl rfl dX12_decidesOn_25 (Or.inl rfl) ⟨rfl, rfl, _, rfl, (ir_c rfl), ⟨Or.inl rfl, fun _ => trivial, fun _ => trivial⟩⟩
  ·
    refine GO.aload_n dX12_decidesOn_10 rfl rfl ?_
    refine GO.getRaw h_x fl_RX12_29 hv2 dX12_decidesOn_11 ?_
    refine GO.iload_n dX12_decidesOn_14 rfl rfl ?_
    refine GO.iald (t := 13) rfl rfl h1 r_p0 (by omega) (by omega) dX12_decidesOn_15 (fun _ _ => ?_)
    refine GO.iload_n dX12_decidesOn_16 rfl rfl ?_
    refine GO.icmp_gt (tgt := 24) dX12_decidesOn_17 (by decide) vi_ir r_p1 (fun c7 => ?_) (fun c7 => ?_)
    ·
      refine GO.iconst dX12_decidesOn_24 ?_
      exact GO.retz rfl rfl dX12_decidesOn_25 (Or.inl rfl) ⟨rfl, rfl, _, rfl, (ir_c rfl), ⟨Or.inl rfl, fun _ => trivial, fun _ => trivial⟩⟩
    ·
      refine GO.iconst dX12_decidesOn_20 ?_
      refine GO.goto (tgt := 25) dX12_decidesOn_21 (by decide) ?_
      exact GO.retz rfl rfl dX12_decidesOn_25 (Or.inr rfl) ⟨rfl, rfl, _, rfl, (ir_c rfl), ⟨Or.inr rfl, fun _ => trivial, fun _ => trivial⟩⟩

set_option maxHeartbeats 1000000 in
theorem t_X12_decides {K : Kmap} {V : Vmap} {x : Nat} {p0 : Int} {p1 : Int} (h_x : K x = some (0, 11)) (r_p0 : ir p0) (r_p1 : ir p1) : MC mX12_decides K V [.ref x, ti p0, ti p1] (IP K V (fun X => True)) := by
  refine MC.start 0 (by decide +kernel) rfl rfl rfl (ls0 := [some (.ref x), some (ti p0), some (ti p1)]) rfl ?_
  refine GO.aload_n dX12_decides_0 rfl rfl ?_
  refine GO.iload_n dX12_decides_1 rfl rfl ?_
  refine GO.callV (ci := 11) (N := mX12_isParty) dX12_decides_2 (RX12, TX12, 151) rfl gV_RX12_406 h_x (t_X12_isParty h_x r_p0) rfl [] rfl rfl (Nat.le_of_ble_eq_true rfl) rfl (k_ip fun X1 r2 h3 => ?_)
  refine GO.if_eq (tgt := 15) dX12_decides_5 (by decide) r2 (fun c4 => ?_) (fun c4 => ?_)
  ·
    have q5 := h3.2.2 (by omega)
    refine GO.iconst dX12_decides_15 ?_
    exact GO.reti rfl rfl dX12_decides_16 ⟨rfl, rfl, _, rfl, (ir_c rfl), trivial⟩
  ·
    have q6 := h3.2.1 (by omega)
    refine GO.iload_n dX12_decides_8 rfl rfl ?_
    refine GO.callS (N := mX12_isDay) dX12_decides_9 gS_RX12_409 (t_X12_isDay r_p1) rfl [] rfl rfl (Nat.le_of_ble_eq_true rfl) rfl (k_ip fun X7 r8 h9 => ?_)
    refine GO.if_ne (tgt := 17) dX12_decides_12 (by decide) r8 (fun c10 => ?_) (fun c10 => ?_)
    ·
      have q11 := h9.2.1 (by omega)
      refine GO.aload_n dX12_decides_17 rfl rfl ?_
      refine GO.iload_n dX12_decides_18 rfl rfl ?_
      refine GO.iload_n dX12_decides_19 rfl rfl ?_
      have q12 : -2147483648 ≤ p0 ∧ p0 ≤ 2147483647 := r_p0
      have q13 : -2147483648 ≤ vi V x 9 ∧ vi V x 9 ≤ 2147483647 := vi_ir
      refine GO.callV (ci := 11) (N := mX12_decidesOn) dX12_decides_20 (RX12, TX12, 151) rfl gV_RX12_412 h_x (t_X12_decidesOn h_x r_p0 r_p1 (by omega) (by omega)) rfl [] rfl rfl (Nat.le_of_ble_eq_true rfl) rfl (k_ip fun X14 r15 h16 => ?_)
      refine GO.if_eq (tgt := 30) dX12_decides_23 (by decide) r15 (fun c17 => ?_) (fun c17 => ?_)
      ·
        refine GO.iconst dX12_decides_30 ?_
        exact GO.reti rfl rfl dX12_decides_31 ⟨rfl, rfl, _, rfl, (ir_c rfl), trivial⟩
      ·
        refine GO.iconst dX12_decides_26 ?_
        refine GO.goto (tgt := 31) dX12_decides_27 (by decide) ?_
        exact GO.reti rfl rfl dX12_decides_31 ⟨rfl, rfl, _, rfl, (ir_c rfl), trivial⟩
    ·
      have q18 := h9.2.2 (by omega)
      refine GO.iconst dX12_decides_15 ?_
      exact GO.reti rfl rfl dX12_decides_16 ⟨rfl, rfl, _, rfl, (ir_c rfl), trivial⟩

set_option maxHeartbeats 1000000 in
theorem t_X12_place {K : Kmap} {V : Vmap} {x : Nat} {p0 : Int} {p1 : Int} {p2 : Int} {p3 : Int} {p4 : Int} (h_x : K x = some (0, 11)) (r_p0 : ir p0) (r_p1 : ir p1) (r_p2 : ir p2) (r_p3 : ir p3) (r_p4 : ir p4) (q_0 : p0 ≥ 0) (q_1 : p0 ≤ 5) (q_2 : p1 ≥ (-1)) (q_3 : p1 ≤ 8) (q_4 : p2 ≥ 0) (q_5 : p2 ≤ 143) (q_6 : p3 ≥ (-1)) (q_7 : p3 ≤ 143) (q_8 : (p0 = 0 → p1 ≥ 0)) (w_0 : PX0 V x) (v_10 : 0 ≤ vi V x 10 ∧ vi V x 10 ≤ 59) : MC mX12_place K V [.ref x, ti p0, ti p1, ti p2, ti p3, ti p4] (IS K (fun X V1 => (X ≥ (-2147483648) ∧ X ≤ 2147483647) ∧ (PX0 V1 x))) := by
  refine MC.start 0 (by decide +kernel) rfl rfl rfl (ls0 := [some (.ref x), some (ti p0), some (ti p1), some (ti p2), some (ti p3), some (ti p4)]) rfl ?_
  refine GO.useWT (fun hW1 => ?_)
  have ak2 := hW1.arr h_x 13 15 (by decide) rfl (by decide)
  have ak3 := hW1.arr h_x 14 16 (by decide) rfl (by decide)
  refine GO.aload_n dX12_place_0 rfl rfl ?_
  refine GO.getA (n := 60) h_x fl_RX12_35 rfl rfl rfl rfl dX12_place_1 (fun hv5 h4 => ?_)
  refine GO.aload_n dX12_place_4 rfl rfl ?_
  refine GO.getI h_x fl_RX12_375 rfl rfl dX12_place_5 (fun l6 u7 => ?_)
  refine GO.iload_n dX12_place_8 rfl rfl ?_
  have q9 : -2147483648 ≤ p0 ∧ p0 ≤ 2147483647 := r_p0
  refine GO.iast (t := 15) rfl rfl (by decide +kernel) h4 vi_ir (by omega) (by omega) r_p0 (by omega) (by omega) dX12_place_9 (fun V10 e8 => ?_)
  have ak11 := tk_put e8 ak2 h_x (vq_of hv5) r_p0 (rfl : ar 13 V x = ar 13 V x)
  have ak12 := tk_oth e8 ak3 h_x h4 (by decide) (by decide) (rfl : ar 14 V x = ar 14 V x)
  refine GO.aload_n dX12_place_10 rfl rfl ?_
  refine GO.getA (n := 60) h_x fl_RX12_38 rfl rfl rfl rfl dX12_place_11 (fun hv14 h13 => ?_)
  refine GO.aload_n dX12_place_14 rfl rfl ?_
  refine GO.getI h_x fl_RX12_375 rfl rfl dX12_place_15 (fun l15 u16 => ?_)
  have e17 : vi V10 x 10 = vi V x 10 := vi_up e8 (Or.inl (K_ne h_x h4 (by decide)))
  refine GO.iload_n dX12_place_18 rfl rfl ?_
  have q19 : -2147483648 ≤ p1 ∧ p1 ≤ 2147483647 := r_p1
  refine GO.iast (t := 16) rfl rfl (by decide +kernel) h13 vi_ir (by omega) (by omega) r_p1 (by omega) (by omega) dX12_place_19 (fun V20 e18 => ?_)
  have ak21 := tk_oth e18 ak11.1 h_x h13 (by decide) (by decide) ak11.2
  have ak22 := tk_put e18 ak12.1 h_x (vq_of hv14) r_p1 ak12.2
  refine GO.aload_n dX12_place_20 rfl rfl ?_
  refine GO.getA (n := 60) h_x fl_RX12_41 rfl rfl rfl rfl dX12_place_21 (fun hv24 h23 => ?_)
  refine GO.aload_n dX12_place_24 rfl rfl ?_
  refine GO.getI h_x fl_RX12_375 rfl rfl dX12_place_25 (fun l25 u26 => ?_)
  have e27 : vi V20 x 10 = vi V10 x 10 := vi_up e18 (Or.inl (K_ne h_x h13 (by decide)))
  refine GO.iload_n dX12_place_28 rfl rfl ?_
  have q29 : -2147483648 ≤ p2 ∧ p2 ≤ 2147483647 := r_p2
  refine GO.iast (t := 17) rfl rfl (by decide +kernel) h23 vi_ir (by omega) (by omega) r_p2 (by omega) (by omega) dX12_place_29 (fun V30 e28 => ?_)
  have ak31 := tk_oth e28 ak21.1 h_x h23 (by decide) (by decide) ak21.2
  have ak32 := tk_oth e28 ak22.1 h_x h23 (by decide) (by decide) ak22.2
  refine GO.aload_n dX12_place_30 rfl rfl ?_
  refine GO.getA (n := 60) h_x fl_RX12_44 rfl rfl rfl rfl dX12_place_31 (fun hv34 h33 => ?_)
  refine GO.aload_n dX12_place_34 rfl rfl ?_
  refine GO.getI h_x fl_RX12_375 rfl rfl dX12_place_35 (fun l35 u36 => ?_)
  have e37 : vi V30 x 10 = vi V20 x 10 := vi_up e28 (Or.inl (K_ne h_x h23 (by decide)))
  refine GO.iload dX12_place_38 rfl ?_
  have q39 : -2147483648 ≤ p3 ∧ p3 ≤ 2147483647 := r_p3
  refine GO.iast (t := 18) rfl rfl (by decide +kernel) h33 vi_ir (by omega) (by omega) r_p3 (by omega) (by omega) dX12_place_40 (fun V40 e38 => ?_)
  have ak41 := tk_oth e38 ak31.1 h_x h33 (by decide) (by decide) ak31.2
  have ak42 := tk_oth e38 ak32.1 h_x h33 (by decide) (by decide) ak32.2
  refine GO.aload_n dX12_place_41 rfl rfl ?_
  refine GO.getA (n := 60) h_x fl_RX12_47 rfl rfl rfl rfl dX12_place_42 (fun hv44 h43 => ?_)
  refine GO.aload_n dX12_place_45 rfl rfl ?_
  refine GO.getI h_x fl_RX12_375 rfl rfl dX12_place_46 (fun l45 u46 => ?_)
  have e47 : vi V40 x 10 = vi V30 x 10 := vi_up e38 (Or.inl (K_ne h_x h33 (by decide)))
  refine GO.iload dX12_place_49 rfl ?_
  refine GO.iast (t := 19) rfl rfl (by decide +kernel) h43 vi_ir (by omega) (by omega) r_p4 (r_p4).1 (r_p4).2 dX12_place_51 (fun V49 e48 => ?_)
  have ak50 := tk_oth e48 ak41.1 h_x h43 (by decide) (by decide) ak41.2
  have ak51 := tk_oth e48 ak42.1 h_x h43 (by decide) (by decide) ak42.2
  refine GO.aload_n dX12_place_52 rfl rfl ?_
  refine GO.getA (n := 60) h_x fl_RX12_50 rfl rfl rfl rfl dX12_place_53 (fun hv53 h52 => ?_)
  refine GO.aload_n dX12_place_56 rfl rfl ?_
  refine GO.getI h_x fl_RX12_375 rfl rfl dX12_place_57 (fun l54 u55 => ?_)
  have e56 : vi V49 x 10 = vi V40 x 10 := vi_up e48 (Or.inl (K_ne h_x h43 (by decide)))
  refine GO.aload_n dX12_place_60 rfl rfl ?_
  refine GO.getI h_x fl_RX12_396 rfl rfl dX12_place_61 (fun l57 u58 => ?_)
  refine GO.iast (t := 20) rfl rfl (by decide +kernel) h52 vi_ir (by omega) (by omega) vi_ir (vi_ir).1 (vi_ir).2 dX12_place_64 (fun V65 e64 => ?_)
  have ak66 := tk_oth e64 ak50.1 h_x h52 (by decide) (by decide) ak50.2
  have ak67 := tk_oth e64 ak51.1 h_x h52 (by decide) (by decide) ak51.2
  refine GO.aload_n dX12_place_65 rfl rfl ?_
  refine GO.aload_n dX12_place_66 rfl rfl ?_
  refine GO.getI h_x fl_RX12_375 rfl rfl dX12_place_67 (fun l68 u69 => ?_)
  have e70 : vi V65 x 10 = vi V49 x 10 := vi_up e64 (Or.inl (K_ne h_x h52 (by decide)))
  refine GO.iconst dX12_place_70 ?_
  refine GO.iadd dX12_place_71 ?_
  refine GO.putI h_x fp_RX12_375 rfl (by decide +kernel) ⟨by omega, by omega⟩ (by omega) (by omega) dX12_place_72 (fun V72 e71 => ?_)
  have ak73 := tk_fld e71 ak66.1 h_x (by decide) ak66.2
  have ak74 := tk_fld e71 ak67.1 h_x (by decide) ak67.2
  refine GO.aload_n dX12_place_75 rfl rfl ?_
  refine GO.getI h_x fl_RX12_375 rfl rfl dX12_place_76 (fun l75 u76 => ?_)
  have e77 : vi V72 x 10 = (vi V65 x 10) + 1 := upd2_int e71 ⟨by omega, by omega⟩
  refine GO.iconst dX12_place_79 ?_
  refine GO.isub dX12_place_80 ?_
  exact GO.reti rfl rfl dX12_place_81 ⟨rfl, _, rfl, ⟨by omega, by omega⟩, ⟨(by first | exact trivial | omega), (by first | exact PX0.step w_0 (by omega) ak73.2 ak74.2 (by omega) (by omega) (by omega))⟩⟩
