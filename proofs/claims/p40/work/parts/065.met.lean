def mX12_isText : MRec := (RX12, cX12_isText, 2, (some .boolean), yX12_isText, 0, 0, 0, 0, 0)
def mX12_isClause : MRec := (RX12, cX12_isClause, 3, (some .boolean), yX12_isClause, 1, 21, 0, 0, 0)
def mX12_yes : MRec := (RX12, cX12_yes, 3, (some .boolean), yX12_yes, 1, 21, 0, 0, 4271974071841820164790043412339104229205409044713305539894083215644439451561281100045924173873152)
def mX12_reading : MRec := (RX12, cX12_reading, 7, (some .int), yX12_reading, 7, 146, 0, 0, 128159271044118036971367372812869648701238136576827868362951687320118874642038416358604521783427072)
set_option maxHeartbeats 1000000 in
theorem t_X12_isText {K : Kmap} {V : Vmap} {x : Nat} {p0 : Int} (h_x : K x = some (0, 11)) (r_p0 : ir p0) : MC mX12_isText K V [.ref x, ti p0] (IP K V (fun X => (X = 0 ∨ X = 1) ∧ (X ≠ 0 → p0 ≥ 0 ∧ p0 ≤ 19) ∧ (X = 0 → True))) := by
  refine MC.start 0 (by decide +kernel) rfl rfl rfl (ls0 := [some (.ref x), some (ti p0)]) rfl ?_
  refine GO.iload_n dX12_isText_0 rfl rfl ?_
  refine GO.if_lt (tgt := 16) dX12_isText_1 (by decide) r_p0 (fun c1 => ?_) (fun c1 => ?_)
  ·
    refine GO.iconst dX12_isText_16 ?_
    exact GO.retz rfl rfl dX12_isText_17 (Or.inl rfl) ⟨rfl, rfl, _, rfl, (ir_c rfl), ⟨Or.inl rfl, fun h => absurd rfl h, fun _ => trivial⟩⟩
  ·
    refine GO.iload_n dX12_isText_4 rfl rfl ?_
    refine GO.aload_n dX12_isText_5 rfl rfl ?_
    refine GO.getI h_x fl_RX12_535 rfl rfl dX12_isText_6 (fun l2 u3 => ?_)
    refine GO.icmp_ge (tgt := 16) dX12_isText_9 (by decide) r_p0 vi_ir (fun c4 => ?_) (fun c4 => ?_)
    ·
      refine GO.iconst dX12_isText_16 ?_
      exact GO.retz rfl rfl dX12_isText_17 (Or.inl rfl) ⟨rfl, rfl, _, rfl, (ir_c rfl), ⟨Or.inl rfl, fun h => absurd rfl h, fun _ => trivial⟩⟩
    ·
      refine GO.iconst dX12_isText_12 ?_
      refine GO.goto (tgt := 17) dX12_isText_13 (by decide) ?_
      exact GO.retz rfl rfl dX12_isText_17 (Or.inr rfl) ⟨rfl, rfl, _, rfl, (ir_c rfl), ⟨Or.inr rfl, fun h => by omega, fun _ => trivial⟩⟩

set_option maxHeartbeats 1000000 in
theorem t_X12_isClause {K : Kmap} {V : Vmap} {x : Nat} {p0 : Int} {p1 : Int} (h_x : K x = some (0, 11)) (r_p0 : ir p0) (r_p1 : ir p1) : MC mX12_isClause K V [.ref x, ti p0, ti p1] (IP K V (fun X => (X = 0 ∨ X = 1) ∧ (X ≠ 0 → p0 ≥ 0 ∧ p0 ≤ 19 ∧ p1 ≥ 0 ∧ p1 ≤ 11) ∧ (X = 0 → True))) := by
  refine MC.start 0 (by decide +kernel) rfl rfl rfl (ls0 := [some (.ref x), some (ti p0), some (ti p1)]) rfl ?_
  refine GO.aload_n dX12_isClause_0 rfl rfl ?_
  refine GO.iload_n dX12_isClause_1 rfl rfl ?_
  refine GO.callV (ci := 11) (N := mX12_isText) dX12_isClause_2 (RX12, TX12, 151) rfl gV_RX12_541 h_x (t_X12_isText h_x r_p0) rfl [] rfl rfl (Nat.le_of_ble_eq_true rfl) rfl (k_ip fun X1 r2 h3 => ?_)
  refine GO.if_eq (tgt := 26) dX12_isClause_5 (by decide) r2 (fun c4 => ?_) (fun c4 => ?_)
  ·
    refine GO.iconst dX12_isClause_26 ?_
    exact GO.retz rfl rfl dX12_isClause_27 (Or.inl rfl) ⟨rfl, rfl, _, rfl, (ir_c rfl), ⟨Or.inl rfl, fun h => absurd rfl h, fun _ => trivial⟩⟩
  ·
    have q5 := h3.2.1 (by omega)
    refine GO.iload_n dX12_isClause_8 rfl rfl ?_
    refine GO.if_lt (tgt := 26) dX12_isClause_9 (by decide) r_p1 (fun c6 => ?_) (fun c6 => ?_)
    ·
      refine GO.iconst dX12_isClause_26 ?_
      exact GO.retz rfl rfl dX12_isClause_27 (Or.inl rfl) ⟨rfl, rfl, _, rfl, (ir_c rfl), ⟨Or.inl rfl, fun h => absurd rfl h, fun _ => trivial⟩⟩
    ·
      refine GO.iload_n dX12_isClause_12 rfl rfl ?_
      refine GO.aload_n dX12_isClause_13 rfl rfl ?_
      refine GO.getA (n := 20) h_x fl_RX12_115 rfl rfl rfl rfl dX12_isClause_14 (fun hv8 h7 => ?_)
      refine GO.iload_n dX12_isClause_17 rfl rfl ?_
      have q9 : -2147483648 ≤ p0 ∧ p0 ≤ 2147483647 := r_p0
      refine GO.iald (t := 41) rfl rfl h7 r_p0 (by omega) (by omega) dX12_isClause_18 (fun l10 u11 => ?_)
      refine GO.icmp_ge (tgt := 26) dX12_isClause_19 (by decide) r_p1 vi_ir (fun c12 => ?_) (fun c12 => ?_)
      ·
        refine GO.iconst dX12_isClause_26 ?_
        exact GO.retz rfl rfl dX12_isClause_27 (Or.inl rfl) ⟨rfl, rfl, _, rfl, (ir_c rfl), ⟨Or.inl rfl, fun h => absurd rfl h, fun _ => trivial⟩⟩
      ·
        refine GO.iconst dX12_isClause_22 ?_
        refine GO.goto (tgt := 27) dX12_isClause_23 (by decide) ?_
        exact GO.retz rfl rfl dX12_isClause_27 (Or.inr rfl) ⟨rfl, rfl, _, rfl, (ir_c rfl), ⟨Or.inr rfl, fun h => by omega, fun _ => trivial⟩⟩

set_option maxHeartbeats 1000000 in
theorem t_X12_yes {K : Kmap} {V : Vmap} {x : Nat} {p0 : Int} {p1 : Int} (h_x : K x = some (0, 11)) (r_p0 : ir p0) (r_p1 : ir p1) : MC mX12_yes K V [.ref x, ti p0, ti p1] (IS K (fun X V1 => (X = 0 ∨ X = 1) ∧ (X ≠ 0 → True) ∧ (X = 0 → True))) := by
  refine MC.start 0 (by decide +kernel) rfl rfl rfl (ls0 := [some (.ref x), some (ti p0), some (ti p1)]) rfl ?_
  refine GO.aload_n dX12_yes_0 rfl rfl ?_
  refine GO.iload_n dX12_yes_1 rfl rfl ?_
  refine GO.callV (ci := 11) (N := mX12_isParty) dX12_yes_2 (RX12, TX12, 151) rfl gV_RX12_406 h_x (t_X12_isParty h_x r_p0) rfl [] rfl rfl (Nat.le_of_ble_eq_true rfl) rfl (k_ip fun X1 r2 h3 => ?_)
  refine GO.if_eq (tgt := 35) dX12_yes_5 (by decide) r2 (fun c4 => ?_) (fun c4 => ?_)
  ·
    refine GO.iconst dX12_yes_35 ?_
    exact GO.retz rfl rfl dX12_yes_36 (Or.inl rfl) ⟨rfl, _, rfl, (ir_c rfl), ⟨Or.inl rfl, fun _ => trivial, fun _ => trivial⟩⟩
  ·
    have q5 := h3.2.1 (by omega)
    refine GO.aload_n dX12_yes_8 rfl rfl ?_
    refine GO.iload_n dX12_yes_9 rfl rfl ?_
    refine GO.callV (ci := 11) (N := mX12_isText) dX12_yes_10 (RX12, TX12, 151) rfl gV_RX12_541 h_x (t_X12_isText h_x r_p1) rfl [] rfl rfl (Nat.le_of_ble_eq_true rfl) rfl (k_ip fun X6 r7 h8 => ?_)
    refine GO.if_eq (tgt := 35) dX12_yes_13 (by decide) r7 (fun c9 => ?_) (fun c9 => ?_)
    ·
      refine GO.iconst dX12_yes_35 ?_
      exact GO.retz rfl rfl dX12_yes_36 (Or.inl rfl) ⟨rfl, _, rfl, (ir_c rfl), ⟨Or.inl rfl, fun _ => trivial, fun _ => trivial⟩⟩
    ·
      have q10 := h8.2.1 (by omega)
      refine GO.iload_n dX12_yes_16 rfl rfl ?_
      refine GO.if_eq (tgt := 35) dX12_yes_17 (by decide) r_p1 (fun c11 => ?_) (fun c11 => ?_)
      ·
        refine GO.iconst dX12_yes_35 ?_
        exact GO.retz rfl rfl dX12_yes_36 (Or.inl rfl) ⟨rfl, _, rfl, (ir_c rfl), ⟨Or.inl rfl, fun _ => trivial, fun _ => trivial⟩⟩
      ·
        refine GO.aload_n dX12_yes_20 rfl rfl ?_
        refine GO.getA (n := 180) h_x fl_RX12_142 rfl rfl rfl rfl dX12_yes_21 (fun hv13 h12 => ?_)
        refine GO.bipush dX12_yes_24 rfl ?_
        refine GO.iload_n dX12_yes_26 rfl rfl ?_
        refine GO.imul dX12_yes_27 ?_
        refine GO.iload_n dX12_yes_28 rfl rfl ?_
        refine GO.iadd dX12_yes_29 ?_
        have q14 : -2147483648 ≤ p1 ∧ p1 ≤ 2147483647 := r_p1
        have q15 : -2147483648 ≤ p0 ∧ p0 ≤ 2147483647 := r_p0
        refine GO.iald (t := 50) rfl rfl h12 ⟨by omega, by omega⟩ (by omega) (by omega) dX12_yes_30 (fun _ _ => ?_)
        refine GO.iconst dX12_yes_31 ?_
        refine GO.icmp_eq (tgt := 37) dX12_yes_32 (by decide) vi_ir (ir_c rfl) (fun c16 => ?_) (fun c16 => ?_)
        ·
          refine GO.aload_n dX12_yes_37 rfl rfl ?_
          refine GO.getRaw h_x fl_RX12_142 hv13 dX12_yes_38 ?_
          refine GO.bipush dX12_yes_41 rfl ?_
          refine GO.iload_n dX12_yes_43 rfl rfl ?_
          refine GO.imul dX12_yes_44 ?_
          refine GO.iload_n dX12_yes_45 rfl rfl ?_
          refine GO.iadd dX12_yes_46 ?_
          refine GO.aload_n dX12_yes_47 rfl rfl ?_
          refine GO.getI h_x fl_RX12_396 rfl rfl dX12_yes_48 (fun l19 u20 => ?_)
          refine GO.iast (t := 50) rfl rfl (by decide +kernel) h12 ⟨by omega, by omega⟩ (by omega) (by omega) vi_ir (vi_ir).1 (vi_ir).2 dX12_yes_51 (fun V22 e21 => ?_)
          refine GO.iconst dX12_yes_52 ?_
          exact GO.retz rfl rfl dX12_yes_53 (Or.inr rfl) ⟨rfl, _, rfl, (ir_c rfl), ⟨Or.inr rfl, fun _ => trivial, fun _ => trivial⟩⟩
        ·
          refine GO.iconst dX12_yes_35 ?_
          exact GO.retz rfl rfl dX12_yes_36 (Or.inl rfl) ⟨rfl, _, rfl, (ir_c rfl), ⟨Or.inl rfl, fun _ => trivial, fun _ => trivial⟩⟩

set_option maxHeartbeats 1000000 in
theorem t_X12_reading {K : Kmap} {V : Vmap} {x : Nat} {p0 : Int} {p1 : Int} {p2 : Int} {p3 : Int} (h_x : K x = some (0, 11)) (r_p0 : ir p0) (r_p1 : ir p1) (r_p2 : ir p2) (r_p3 : ir p3) (w_0 : GX V x) : MC mX12_reading K V [.ref x, ti p0, ti p1, ti p2, ti p3] (IS K (fun X V1 => (X ≥ (-2147483648) ∧ X ≤ 2147483647) ∧ (GX V1 x))) := by
  refine MC.start 2 (by decide +kernel) rfl rfl rfl (ls0 := [some (.ref x), some (ti p0), some (ti p1), some (ti p2), some (ti p3), none, none]) rfl ?_
  refine GO.useWT (fun hW_0 => ?_)
  refine GO.useWT (fun hW1 => ?_)
  have aq2 := hW1.aq h_x
  refine GO.useWT (fun hW3 => ?_)
  have ak4 := hW3.arr h_x 39 32 (by decide) rfl (by decide)
  have ak5 := hW3.arr h_x 49 40 (by decide) rfl (by decide)
  have ak6 := hW3.arr h_x 50 41 (by decide) rfl (by decide)
  have ak7 := hW3.arr h_x 53 44 (by decide) rfl (by decide)
  have ak8 := hW3.arr h_x 54 45 (by decide) rfl (by decide)
  have ak9 := hW3.arr h_x 55 46 (by decide) rfl (by decide)
  have ak10 := hW3.arr h_x 60 51 (by decide) rfl (by decide)
  have ak11 := hW3.arr h_x 61 52 (by decide) rfl (by decide)
  have hcn := (hW1).cnt h_x
  refine GO.aload_n dX12_reading_0 rfl rfl ?_
  refine GO.iload_n dX12_reading_1 rfl rfl ?_
  refine GO.callV (ci := 11) (N := mX12_isParty) dX12_reading_2 (RX12, TX12, 151) rfl gV_RX12_406 h_x (t_X12_isParty h_x r_p0) rfl [] rfl rfl (Nat.le_of_ble_eq_true rfl) rfl (k_ip fun X12 r13 h14 => ?_)
  refine GO.if_eq (tgt := 63) dX12_reading_5 (by decide) r13 (fun c15 => ?_) (fun c15 => ?_)
  ·
    clear ak4 ak5 ak6 ak7 ak8 ak9 ak10 ak11
    refine GO.iconst dX12_reading_63 ?_
    exact GO.reti rfl rfl dX12_reading_64 ⟨rfl, _, rfl, (ir_c rfl), ⟨(by first | exact trivial | omega), (by first | exact w_0 | exact GX.mk w_0 (by omega) (by omega) (rfl : ar 49 V x = ar 49 V x) (rfl : ar 50 V x = ar 50 V x) (rfl : ar 53 V x = ar 53 V x) (rfl : ar 54 V x = ar 54 V x) (rfl : ar 55 V x = ar 55 V x) (rfl : ar 60 V x = ar 60 V x) (rfl : ar 61 V x = ar 61 V x))⟩⟩
  ·
    have q16 := h14.2.1 (by omega)
    refine GO.aload_n dX12_reading_8 rfl rfl ?_
    refine GO.iload_n dX12_reading_9 rfl rfl ?_
    refine GO.iload_n dX12_reading_10 rfl rfl ?_
    refine GO.callV (ci := 11) (N := mX12_isClause) dX12_reading_11 (RX12, TX12, 151) rfl gV_RX12_544 h_x (t_X12_isClause h_x r_p1 r_p2) rfl [] rfl rfl (Nat.le_of_ble_eq_true rfl) rfl (k_ip fun X17 r18 h19 => ?_)
    refine GO.if_eq (tgt := 63) dX12_reading_14 (by decide) r18 (fun c20 => ?_) (fun c20 => ?_)
    ·
      clear ak4 ak5 ak6 ak7 ak8 ak9 ak10 ak11
      refine GO.iconst dX12_reading_63 ?_
      exact GO.reti rfl rfl dX12_reading_64 ⟨rfl, _, rfl, (ir_c rfl), ⟨(by first | exact trivial | omega), (by first | exact w_0 | exact GX.mk w_0 (by omega) (by omega) (rfl : ar 49 V x = ar 49 V x) (rfl : ar 50 V x = ar 50 V x) (rfl : ar 53 V x = ar 53 V x) (rfl : ar 54 V x = ar 54 V x) (rfl : ar 55 V x = ar 55 V x) (rfl : ar 60 V x = ar 60 V x) (rfl : ar 61 V x = ar 61 V x))⟩⟩
    ·
      have q21 := h19.2.1 (by omega)
      refine GO.aload_n dX12_reading_17 rfl rfl ?_
      refine GO.getA (n := 240) h_x fl_RX12_124 rfl rfl rfl rfl dX12_reading_18 (fun hv23 h22 => ?_)
      refine GO.bipush dX12_reading_21 rfl ?_
      refine GO.iload_n dX12_reading_23 rfl rfl ?_
      refine GO.imul dX12_reading_24 ?_
      refine GO.iload_n dX12_reading_25 rfl rfl ?_
      refine GO.iadd dX12_reading_26 ?_
      have q24 : -2147483648 ≤ p2 ∧ p2 ≤ 2147483647 := r_p2
      have q25 : -2147483648 ≤ p1 ∧ p1 ≤ 2147483647 := r_p1
      refine GO.iald (t := 44) rfl rfl h22 ⟨by omega, by omega⟩ (by omega) (by omega) dX12_reading_27 (fun _ _ => ?_)
      refine GO.callS (N := mX12_isAsking) dX12_reading_28 gS_RX12_520 (t_X12_isAsking vi_ir) rfl [] rfl rfl (Nat.le_of_ble_eq_true rfl) rfl (k_ip fun X26 r27 h28 => ?_)
      have raw_isAsking := h28.2.2.2
      refine GO.if_eq (tgt := 63) dX12_reading_31 (by decide) r27 (fun c29 => ?_) (fun c29 => ?_)
      ·
        clear ak4 ak5 ak6 ak7 ak8 ak9 ak10 ak11
        refine GO.iconst dX12_reading_63 ?_
        exact GO.reti rfl rfl dX12_reading_64 ⟨rfl, _, rfl, (ir_c rfl), ⟨(by first | exact trivial | omega), (by first | exact w_0 | exact GX.mk w_0 (by omega) (by omega) (rfl : ar 49 V x = ar 49 V x) (rfl : ar 50 V x = ar 50 V x) (rfl : ar 53 V x = ar 53 V x) (rfl : ar 54 V x = ar 54 V x) (rfl : ar 55 V x = ar 55 V x) (rfl : ar 60 V x = ar 60 V x) (rfl : ar 61 V x = ar 61 V x))⟩⟩
      ·
        have q30 := h28.2.1 (by omega)
        refine GO.iload dX12_reading_34 rfl ?_
        refine GO.iconst dX12_reading_36 ?_
        refine GO.bipush dX12_reading_37 rfl ?_
        refine GO.callS (N := mX12_in) dX12_reading_39 gS_RX12_371 (t_X12_in r_p3 (ir_c rfl) (ir_c rfl)) rfl [] rfl rfl (Nat.le_of_ble_eq_true rfl) rfl (k_ip fun X31 r32 h33 => ?_)
        refine GO.if_eq (tgt := 63) dX12_reading_42 (by decide) r32 (fun c34 => ?_) (fun c34 => ?_)
        ·
          clear ak4 ak5 ak6 ak7 ak8 ak9 ak10 ak11
          have q35 := h33.2.2 (by omega)
          refine GO.iconst dX12_reading_63 ?_
          exact GO.reti rfl rfl dX12_reading_64 ⟨rfl, _, rfl, (ir_c rfl), ⟨(by first | exact trivial | omega), (by first | exact w_0 | exact GX.mk w_0 (by omega) (by omega) (rfl : ar 49 V x = ar 49 V x) (rfl : ar 50 V x = ar 50 V x) (rfl : ar 53 V x = ar 53 V x) (rfl : ar 54 V x = ar 54 V x) (rfl : ar 55 V x = ar 55 V x) (rfl : ar 60 V x = ar 60 V x) (rfl : ar 61 V x = ar 61 V x))⟩⟩
        ·
          have q36 := h33.2.1 (by omega)
          refine GO.iload dX12_reading_45 rfl ?_
          refine GO.aload_n dX12_reading_47 rfl rfl ?_
          refine GO.getI h_x fl_RX12_436 rfl rfl dX12_reading_48 (fun l37 u38 => ?_)
          refine GO.icmp_gt (tgt := 63) dX12_reading_51 (by decide) r_p3 vi_ir (fun c39 => ?_) (fun c39 => ?_)
          ·
            clear ak4 ak5 ak6 ak7 ak8 ak9 ak10 ak11
            refine GO.iconst dX12_reading_63 ?_
            exact GO.reti rfl rfl dX12_reading_64 ⟨rfl, _, rfl, (ir_c rfl), ⟨(by first | exact trivial | omega), (by first | exact w_0 | exact GX.mk w_0 (by omega) (by omega) (rfl : ar 49 V x = ar 49 V x) (rfl : ar 50 V x = ar 50 V x) (rfl : ar 53 V x = ar 53 V x) (rfl : ar 54 V x = ar 54 V x) (rfl : ar 55 V x = ar 55 V x) (rfl : ar 60 V x = ar 60 V x) (rfl : ar 61 V x = ar 61 V x))⟩⟩
          ·
            refine GO.aload_n dX12_reading_54 rfl rfl ?_
            refine GO.getI h_x fl_RX12_547 rfl rfl dX12_reading_55 (fun l40 u41 => ?_)
            refine GO.bipush dX12_reading_58 rfl ?_
            refine GO.icmp_ne (tgt := 65) dX12_reading_60 (by decide) vi_ir (ir_c rfl) (fun c42 => ?_) (fun c42 => ?_)
            ·
              refine GO.aload_n dX12_reading_65 rfl rfl ?_
              refine GO.iconst dX12_reading_66 ?_
              refine GO.putI h_x fp_RX12_443 rfl (by decide +kernel) (ir_c rfl) (by decide) (by decide) dX12_reading_67 (fun V44 e43 => ?_)
              have k45 := st_fld e43 aq2 h_x (by decide) (by decide)
              have sS46 : sd V44 x = sd V x := k45.2.1.trans (rfl : sd V x = sd V x)
              have sQ47 : wt V44 x = wt V x := k45.2.2.trans (rfl : wt V x = wt V x)
              have ak48 := tk_fld e43 ak4 h_x (by decide) (rfl : ar 39 V x = ar 39 V x)
              clear ak4
              have ak49 := tk_fld e43 ak5 h_x (by decide) (rfl : ar 49 V x = ar 49 V x)
              clear ak5
              have ak50 := tk_fld e43 ak6 h_x (by decide) (rfl : ar 50 V x = ar 50 V x)
              clear ak6
              have ak51 := tk_fld e43 ak7 h_x (by decide) (rfl : ar 53 V x = ar 53 V x)
              clear ak7
              have ak52 := tk_fld e43 ak8 h_x (by decide) (rfl : ar 54 V x = ar 54 V x)
              clear ak8
              have ak53 := tk_fld e43 ak9 h_x (by decide) (rfl : ar 55 V x = ar 55 V x)
              clear ak9
              have ak54 := tk_fld e43 ak10 h_x (by decide) (rfl : ar 60 V x = ar 60 V x)
              clear ak10
              have ak55 := tk_fld e43 ak11 h_x (by decide) (rfl : ar 61 V x = ar 61 V x)
              clear ak11
              refine GO.aload_n dX12_reading_70 rfl rfl ?_
              refine GO.iload dX12_reading_71 rfl ?_
              have q57 : -2147483648 ≤ p3 ∧ p3 ≤ 2147483647 := r_p3
              refine GO.putI h_x fp_RX12_446 rfl (by decide +kernel) r_p3 (by omega) (by omega) dX12_reading_73 (fun V58 e56 => ?_)
              have k59 := st_fld e56 k45.1 h_x (by decide) (by decide)
              clear k45
              have sS60 : sd V58 x = sd V x := k59.2.1.trans sS46
              have sQ61 : wt V58 x = wt V x := k59.2.2.trans sQ47
              have ak62 := tk_fld e56 ak48.1 h_x (by decide) ak48.2
              clear ak48
              have ak63 := tk_fld e56 ak49.1 h_x (by decide) ak49.2
              clear ak49
              have ak64 := tk_fld e56 ak50.1 h_x (by decide) ak50.2
              clear ak50
              have ak65 := tk_fld e56 ak51.1 h_x (by decide) ak51.2
              clear ak51
              have ak66 := tk_fld e56 ak52.1 h_x (by decide) ak52.2
              clear ak52
              have ak67 := tk_fld e56 ak53.1 h_x (by decide) ak53.2
              clear ak53
              have ak68 := tk_fld e56 ak54.1 h_x (by decide) ak54.2
              clear ak54
              have ak69 := tk_fld e56 ak55.1 h_x (by decide) ak55.2
              clear ak55
              refine GO.aload_n dX12_reading_76 rfl rfl ?_
              refine GO.iconst dX12_reading_77 ?_
              refine GO.putI h_x fp_RX12_466 rfl (by decide +kernel) (ir_c rfl) (by decide) (by decide) dX12_reading_78 (fun V71 e70 => ?_)
              have k72 := st_fld e70 k59.1 h_x (by decide) (by decide)
              clear k59
              have sS73 : sd V71 x = sd V x := k72.2.1.trans sS60
              have sQ74 : wt V71 x = wt V x := k72.2.2.trans sQ61
              clear k72
              have ak75 := tk_fld e70 ak62.1 h_x (by decide) ak62.2
              clear ak62 ak75
              have ak76 := tk_fld e70 ak63.1 h_x (by decide) ak63.2
              clear ak63
              have ak77 := tk_fld e70 ak64.1 h_x (by decide) ak64.2
              clear ak64
              have ak78 := tk_fld e70 ak65.1 h_x (by decide) ak65.2
              clear ak65
              have ak79 := tk_fld e70 ak66.1 h_x (by decide) ak66.2
              clear ak66
              have ak80 := tk_fld e70 ak67.1 h_x (by decide) ak67.2
              clear ak67
              have ak81 := tk_fld e70 ak68.1 h_x (by decide) ak68.2
              clear ak68
              have ak82 := tk_fld e70 ak69.1 h_x (by decide) ak69.2
              clear ak69
              refine GO.aload_n dX12_reading_81 rfl rfl ?_
              have e83 : vi V71 x 36 = 0 := upd2_int e70 (ir_c rfl)
              have e86 : vi V44 x 31 = 0 := upd2_int e43 (ir_c rfl)
              have e85 : vi V58 x 31 = vi V44 x 31 := vi_up e56 (Or.inr (by decide))
              have e84 : vi V71 x 31 = vi V58 x 31 := vi_up e70 (Or.inr (by decide))
              refine GO.callV (ci := 11) (N := mX12_readsCondition) dX12_reading_82 (RX12, TX12, 151) rfl gV_RX12_529 h_x (t_X12_readsCondition h_x (by omega) (⟨rfl, fun _ _ => rfl⟩)) rfl [] rfl rfl (Nat.le_of_ble_eq_true rfl) rfl (k_is fun X87 V91 r88 h89 hF90 => ?_)
              refine GO.useWT (fun hW92 => ?_)
              have aq93 := hW92.aq h_x
              have ak94 := tk_fr hF90 ak76.1 h_x (by decide +kernel) (by decide +kernel) ak76.2
              clear ak76
              have ak95 := tk_fr hF90 ak77.1 h_x (by decide +kernel) (by decide +kernel) ak77.2
              clear ak77
              have ak96 := tk_fr hF90 ak78.1 h_x (by decide +kernel) (by decide +kernel) ak78.2
              clear ak78
              have ak97 := tk_fr hF90 ak79.1 h_x (by decide +kernel) (by decide +kernel) ak79.2
              clear ak79
              have ak98 := tk_fr hF90 ak80.1 h_x (by decide +kernel) (by decide +kernel) ak80.2
              clear ak80
              have ak99 := tk_fr hF90 ak81.1 h_x (by decide +kernel) (by decide +kernel) ak81.2
              clear ak81
              have ak100 := tk_fr hF90 ak82.1 h_x (by decide +kernel) (by decide +kernel) ak82.2
              clear ak82
              refine GO.useWT (fun hW101 => ?_)
              have ak102 := hW101.arr h_x 39 32 (by decide) rfl (by decide)
              have raw_readsCondition := h89.2.2.2
              refine GO.if_eq (tgt := 115) dX12_reading_85 (by decide) r88 (fun c104 => ?_) (fun c104 => ?_)
              ·
                refine GO.iconst dX12_reading_115 ?_
                refine GO.istore (ls1 := [some (.ref x), some (ti p0), some (ti p1), some (ti p2), some (ti p3), some (ti 0), none]) dX12_reading_116 rfl rfl ?_
                refine GO.aload_n dX12_reading_118 rfl rfl ?_
                refine GO.iconst dX12_reading_119 ?_
                refine GO.putI h_x fp_RX12_436 rfl (by decide +kernel) (ir_c rfl) (by decide) (by decide) dX12_reading_120 (fun V106 e105 => ?_)
                have k107 := st_fld e105 aq93 h_x (by decide) (by decide)
                have sS108 : sd V106 x = sd V91 x := k107.2.1.trans (rfl : sd V91 x = sd V91 x)
                have sQ109 : wt V106 x = wt V91 x := k107.2.2.trans (rfl : wt V91 x = wt V91 x)
                clear k107
                have ak110 := tk_fld e105 ak102 h_x (by decide) (rfl : ar 39 V91 x = ar 39 V91 x)
                clear ak102 ak110
                have ak111 := tk_fld e105 ak94.1 h_x (by decide) ak94.2
                clear ak94
                have ak112 := tk_fld e105 ak95.1 h_x (by decide) ak95.2
                clear ak95
                have ak113 := tk_fld e105 ak96.1 h_x (by decide) ak96.2
                clear ak96
                have ak114 := tk_fld e105 ak97.1 h_x (by decide) ak97.2
                clear ak97
                have ak115 := tk_fld e105 ak98.1 h_x (by decide) ak98.2
                clear ak98
                have ak116 := tk_fld e105 ak99.1 h_x (by decide) ak99.2
                clear ak99
                have ak117 := tk_fld e105 ak100.1 h_x (by decide) ak100.2
                clear ak100
                refine GO.iload dX12_reading_123 rfl ?_
                refine GO.if_ne (tgt := 133) dX12_reading_125 (by decide) (ir_c rfl) (fun h => by exfalso; omega) (fun c118 => ?_)
                refine GO.aload_n dX12_reading_128 rfl rfl ?_
                refine GO.getI h_x fl_RX12_453 rfl rfl dX12_reading_129 (fun _ _ => ?_)
                have q121 : -2147483648 ≤ vi V106 x 33 ∧ vi V106 x 33 ≤ 2147483647 := vi_ir
                have e126 : vi V44 x 47 = vi V x 47 := vi_up e43 (Or.inr (by decide))
                have e125 : vi V58 x 47 = vi V44 x 47 := vi_up e56 (Or.inr (by decide))
                have e124 : vi V71 x 47 = vi V58 x 47 := vi_up e70 (Or.inr (by decide))
                have e123 : vi V91 x 47 = vi V71 x 47 := vi_fr hF90 h_x h_x (by decide +kernel)
                have e122 : vi V106 x 47 = vi V91 x 47 := vi_up e105 (Or.inr (by decide))
                have e131 : vi V44 x 48 = vi V x 48 := vi_up e43 (Or.inr (by decide))
                have e130 : vi V58 x 48 = vi V44 x 48 := vi_up e56 (Or.inr (by decide))
                have e129 : vi V71 x 48 = vi V58 x 48 := vi_up e70 (Or.inr (by decide))
                have e128 : vi V91 x 48 = vi V71 x 48 := vi_fr hF90 h_x h_x (by decide +kernel)
                have e127 : vi V106 x 48 = vi V91 x 48 := vi_up e105 (Or.inr (by decide))
                exact GO.reti rfl rfl dX12_reading_132 ⟨rfl, _, rfl, vi_ir, ⟨(by first | exact trivial | omega), (by first | exact w_0 | exact GX.mk w_0 (by omega) (by omega) ak111.2 ak112.2 ak113.2 ak114.2 ak115.2 ak116.2 ak117.2)⟩⟩
              ·
                have q132 := h89.2.1 (by omega)
                have hgs := RF.gs (raw_readsCondition (by omega))
                have hgs1 := hgs.2.2.2.1
                have hgs2 := hgs.2.2.1
                refine GO.aload_n dX12_reading_88 rfl rfl ?_
                refine GO.getI h_x fl_RX12_443 rfl rfl dX12_reading_89 (fun l134 u135 => ?_)
                refine GO.aload_n dX12_reading_92 rfl rfl ?_
                refine GO.getI h_x fl_RX12_446 rfl rfl dX12_reading_93 (fun l136 u137 => ?_)
                have e140 : vi V58 x 32 = p3 := upd2_int e56 r_p3
                have e139 : vi V71 x 32 = vi V58 x 32 := vi_up e70 (Or.inr (by decide))
                have e138 : vi V91 x 32 = vi V71 x 32 := vi_fr hF90 h_x h_x (by decide +kernel)
                refine GO.icmp_eq (tgt := 111) dX12_reading_96 (by decide) vi_ir vi_ir (fun c141 => ?_) (fun c141 => ?_)
                ·
                  refine GO.iconst dX12_reading_111 ?_
                  refine GO.goto (tgt := 116) dX12_reading_112 (by decide) ?_
                  refine GO.istore (ls1 := [some (.ref x), some (ti p0), some (ti p1), some (ti p2), some (ti p3), some (ti 1), none]) dX12_reading_116 rfl rfl ?_
                  refine GO.aload_n dX12_reading_118 rfl rfl ?_
                  refine GO.iconst dX12_reading_119 ?_
                  refine GO.putI h_x fp_RX12_436 rfl (by decide +kernel) (ir_c rfl) (by decide) (by decide) dX12_reading_120 (fun V143 e142 => ?_)
                  have k144 := st_fld e142 aq93 h_x (by decide) (by decide)
                  have sS145 : sd V143 x = sd V91 x := k144.2.1.trans (rfl : sd V91 x = sd V91 x)
                  have sQ146 : wt V143 x = wt V91 x := k144.2.2.trans (rfl : wt V91 x = wt V91 x)
                  have ak147 := tk_fld e142 ak102 h_x (by decide) (rfl : ar 39 V91 x = ar 39 V91 x)
                  clear ak102
                  have ak148 := tk_fld e142 ak94.1 h_x (by decide) ak94.2
                  clear ak94
                  have ak149 := tk_fld e142 ak95.1 h_x (by decide) ak95.2
                  clear ak95
                  have ak150 := tk_fld e142 ak96.1 h_x (by decide) ak96.2
                  clear ak96
                  have ak151 := tk_fld e142 ak97.1 h_x (by decide) ak97.2
                  clear ak97
                  have ak152 := tk_fld e142 ak98.1 h_x (by decide) ak98.2
                  clear ak98
                  have ak153 := tk_fld e142 ak99.1 h_x (by decide) ak99.2
                  clear ak99
                  have ak154 := tk_fld e142 ak100.1 h_x (by decide) ak100.2
                  clear ak100
                  refine GO.iload dX12_reading_123 rfl ?_
                  refine GO.if_ne (tgt := 133) dX12_reading_125 (by decide) (ir_c rfl) (fun c155 => ?_) (fun h => by exfalso; omega)
                  have e156 : vi V143 x 36 = vi V91 x 36 := vi_up e142 (Or.inr (by decide))
                  have e161 : vi V44 x 48 = vi V x 48 := vi_up e43 (Or.inr (by decide))
                  have e160 : vi V58 x 48 = vi V44 x 48 := vi_up e56 (Or.inr (by decide))
                  have e159 : vi V71 x 48 = vi V58 x 48 := vi_up e70 (Or.inr (by decide))
                  have e158 : vi V91 x 48 = vi V71 x 48 := vi_fr hF90 h_x h_x (by decide +kernel)
                  have e157 : vi V143 x 48 = vi V91 x 48 := vi_up e142 (Or.inr (by decide))
                  have e166 : vi V44 x 47 = vi V x 47 := vi_up e43 (Or.inr (by decide))
                  have e165 : vi V58 x 47 = vi V44 x 47 := vi_up e56 (Or.inr (by decide))
                  have e164 : vi V71 x 47 = vi V58 x 47 := vi_up e70 (Or.inr (by decide))
                  have e163 : vi V91 x 47 = vi V71 x 47 := vi_fr hF90 h_x h_x (by decide +kernel)
                  have e162 : vi V143 x 47 = vi V91 x 47 := vi_up e142 (Or.inr (by decide))
                  have hm39 := ak147.2
                  have hg1 := (hgs.1.eq (a1 := 0) (by omega) rfl).cong (fun j _ _ => (congrFun ak147.2 j).symm)
                  refine GO.aload_n dX12_reading_133 rfl rfl ?_
                  refine GO.getA (n := 20) h_x fl_RX12_151 rfl rfl rfl rfl dX12_reading_134 (fun hv168 h167 => ?_)
                  refine GO.aload_n dX12_reading_137 rfl rfl ?_
                  refine GO.getI h_x fl_RX12_547 rfl rfl dX12_reading_138 (fun l169 u170 => ?_)
                  refine GO.iload_n dX12_reading_141 rfl rfl ?_
                  have q171 : -2147483648 ≤ vi V x 48 ∧ vi V x 48 ≤ 2147483647 := vi_ir
                  refine GO.iast (t := 53) rfl rfl (by decide +kernel) h167 vi_ir (by omega) (by omega) r_p0 (r_p0).1 (r_p0).2 dX12_reading_142 (fun V173 e172 => ?_)
                  have k174 := st_oth e172 k144.1 h_x h167 (by decide) (by decide)
                  clear k144
                  have sS175 : sd V173 x = sd V91 x := k174.2.1.trans sS145
                  have sQ176 : wt V173 x = wt V91 x := k174.2.2.trans sQ146
                  have ak177 := tk_oth e172 ak147.1 h_x h167 (by decide) (by decide) ak147.2
                  clear ak147
                  have ak178 := tk_oth e172 ak148.1 h_x h167 (by decide) (by decide) ak148.2
                  clear ak148
                  have ak179 := tk_oth e172 ak149.1 h_x h167 (by decide) (by decide) ak149.2
                  clear ak149
                  have ak180 := tk_oth e172 ak150.1 h_x h167 (by decide) (by decide) ak150.2
                  clear ak150
                  have ak181 := tk_oth e172 ak151.1 h_x h167 (by decide) (by decide) ak151.2
                  clear ak151
                  have ak182 := tk_oth e172 ak152.1 h_x h167 (by decide) (by decide) ak152.2
                  clear ak152
                  have ak183 := tk_oth e172 ak153.1 h_x h167 (by decide) (by decide) ak153.2
                  clear ak153
                  have ak184 := tk_oth e172 ak154.1 h_x h167 (by decide) (by decide) ak154.2
                  clear ak154
                  refine GO.aload_n dX12_reading_143 rfl rfl ?_
                  refine GO.getA (n := 20) h_x fl_RX12_154 rfl rfl rfl rfl dX12_reading_144 (fun hv186 h185 => ?_)
                  refine GO.aload_n dX12_reading_147 rfl rfl ?_
                  refine GO.getI h_x fl_RX12_547 rfl rfl dX12_reading_148 (fun l187 u188 => ?_)
                  have e189 : vi V173 x 48 = vi V143 x 48 := vi_up e172 (Or.inl (K_ne h_x h167 (by decide)))
                  refine GO.bipush dX12_reading_151 rfl ?_
                  refine GO.iload_n dX12_reading_153 rfl rfl ?_
                  refine GO.imul dX12_reading_154 ?_
                  refine GO.iload_n dX12_reading_155 rfl rfl ?_
                  refine GO.iadd dX12_reading_156 ?_
                  refine GO.iast (t := 54) rfl rfl (by decide +kernel) h185 vi_ir (by omega) (by omega) ⟨by omega, by omega⟩ (by omega) (by omega) dX12_reading_157 (fun V191 e190 => ?_)
                  have k192 := st_oth e190 k174.1 h_x h185 (by decide) (by decide)
                  clear k174
                  have sS193 : sd V191 x = sd V91 x := k192.2.1.trans sS175
                  have sQ194 : wt V191 x = wt V91 x := k192.2.2.trans sQ176
                  have ak195 := tk_oth e190 ak177.1 h_x h185 (by decide) (by decide) ak177.2
                  clear ak177
                  have ak196 := tk_oth e190 ak178.1 h_x h185 (by decide) (by decide) ak178.2
                  clear ak178
                  have ak197 := tk_oth e190 ak179.1 h_x h185 (by decide) (by decide) ak179.2
                  clear ak179
                  have ak198 := tk_oth e190 ak180.1 h_x h185 (by decide) (by decide) ak180.2
                  clear ak180
                  have ak199 := tk_oth e190 ak181.1 h_x h185 (by decide) (by decide) ak181.2
                  clear ak181
                  have ak200 := tk_oth e190 ak182.1 h_x h185 (by decide) (by decide) ak182.2
                  clear ak182
                  have ak201 := tk_oth e190 ak183.1 h_x h185 (by decide) (by decide) ak183.2
                  clear ak183
                  have ak202 := tk_oth e190 ak184.1 h_x h185 (by decide) (by decide) ak184.2
                  clear ak184
                  refine GO.aload_n dX12_reading_158 rfl rfl ?_
                  refine GO.getA (n := 20) h_x fl_RX12_148 rfl rfl rfl rfl dX12_reading_159 (fun hv204 h203 => ?_)
                  refine GO.aload_n dX12_reading_162 rfl rfl ?_
                  refine GO.getI h_x fl_RX12_547 rfl rfl dX12_reading_163 (fun l205 u206 => ?_)
                  have e207 : vi V191 x 48 = vi V173 x 48 := vi_up e190 (Or.inl (K_ne h_x h185 (by decide)))
                  refine GO.aload_n dX12_reading_166 rfl rfl ?_
                  refine GO.getI h_x fl_RX12_466 rfl rfl dX12_reading_167 (fun l208 u209 => ?_)
                  have e211 : vi V173 x 36 = vi V143 x 36 := vi_up e172 (Or.inl (K_ne h_x h167 (by decide)))
                  have e210 : vi V191 x 36 = vi V173 x 36 := vi_up e190 (Or.inl (K_ne h_x h185 (by decide)))
                  have q213 : -2147483648 ≤ vi V91 x 36 ∧ vi V91 x 36 ≤ 2147483647 := vi_ir
                  have q214 : -2147483648 ≤ vi V91 x 31 ∧ vi V91 x 31 ≤ 2147483647 := vi_ir
                  refine GO.iast (t := 52) rfl rfl (by decide +kernel) h203 vi_ir (by omega) (by omega) vi_ir (by omega) (by omega) dX12_reading_170 (fun V215 e212 => ?_)
                  have k216 := st_oth e212 k192.1 h_x h203 (by decide) (by decide)
                  clear k192
                  have sS217 : sd V215 x = sd V91 x := k216.2.1.trans sS193
                  have sQ218 : wt V215 x = wt V91 x := k216.2.2.trans sQ194
                  clear k216
                  have ak219 := tk_oth e212 ak195.1 h_x h203 (by decide) (by decide) ak195.2
                  clear ak195
                  have ak220 := tk_oth e212 ak196.1 h_x h203 (by decide) (by decide) ak196.2
                  clear ak196
                  have ak221 := tk_oth e212 ak197.1 h_x h203 (by decide) (by decide) ak197.2
                  clear ak197
                  have ak222 := tk_oth e212 ak198.1 h_x h203 (by decide) (by decide) ak198.2
                  clear ak198
                  have ak223 := tk_oth e212 ak199.1 h_x h203 (by decide) (by decide) ak199.2
                  clear ak199
                  have ak224 := tk_oth e212 ak200.1 h_x h203 (by decide) (by decide) ak200.2
                  clear ak200
                  have ak225 := tk_oth e212 ak201.1 h_x h203 (by decide) (by decide) ak201.2
                  clear ak201
                  have ak226 := tk_put e212 ak202.1 h_x (vq_of hv204) vi_ir ak202.2
                  clear ak202
                  refine GO.iconst dX12_reading_171 ?_
                  refine GO.istore (ls1 := [some (.ref x), some (ti p0), some (ti p1), some (ti p2), some (ti p3), some (ti 1), some (ti 0)]) dX12_reading_172 rfl rfl ?_
                  have e230 : vi V173 x 47 = vi V143 x 47 := vi_up e172 (Or.inl (K_ne h_x h167 (by decide)))
                  have e229 : vi V191 x 47 = vi V173 x 47 := vi_up e190 (Or.inl (K_ne h_x h185 (by decide)))
                  have e228 : vi V215 x 47 = vi V191 x 47 := vi_up e212 (Or.inl (K_ne h_x h203 (by decide)))
                  have q231 : -2147483648 ≤ vi V x 47 ∧ vi V x 47 ≤ 2147483647 := vi_ir
                  have e232 : vi V215 x 48 = vi V191 x 48 := vi_up e212 (Or.inl (K_ne h_x h203 (by decide)))
                  have e233 : vi V215 x 36 = vi V191 x 36 := vi_up e212 (Or.inl (K_ne h_x h203 (by decide)))
                  refine GO.loop1 (fun i227 W => 0 ≤ i227 ∧ i227 ≤ 100 ∧ (vi W x 47 = vi V215 x 47 ∧ vi W x 48 = vi V215 x 48 ∧ vi W x 36 = vi V143 x 36) ∧ (CPf (ar 60 V x) (ar 39 V143 x) (ar 60 W x) (110 * vi V x 48) 0 i227) ∧ ar 39 W x = ar 39 V91 x ∧ ar 49 W x = ar 49 V x ∧ ar 50 W x = ar 50 V x ∧ ar 53 W x = ar 53 V x ∧ ar 54 W x = ar 54 V x ∧ ar 55 W x = ar 55 V x ∧ ar 61 W x = updf (ar 61 V x) (vi V191 x 48).toNat (vi V191 x 36) ∧ True) (fun i227 => [some (.ref x), some (ti p0), some (ti p1), some (ti p2), some (ti p3), some (ti 1), some (ti i227)]) (fun i227 W => (2147483647 - i227).toNat) 0 ⟨by omega, by omega, by omega, (by first | exact CPf.rf.at ak225.2), ak219.2, ak220.2, ak221.2, ak222.2, ak223.2, ak224.2, ak226.2, trivial⟩ rfl (fun i227 Wi227 hp631 ih630 => ?_)
                  clear ak219 ak220 ak221 ak222 ak223 ak224 ak225 ak226
                  obtain ⟨l_i227, u_i227, n_i227, h60, kp632, kp633, kp634, kp635, kp636, kp637, kp638, -⟩ := hp631
                  have r_i227 : ir i227 := ⟨by omega, by omega⟩
                  show GO mX12_reading K V (IS K (fun X V1 => (X ≥ (-2147483648) ∧ X ≤ 2147483647) ∧ (GX V1 x))) K Wi227 0 0 174 [some (.ref x), some (ti p0), some (ti p1), some (ti p2), some (ti p3), some (ti 1), some (ti i227)] []
                  refine GO.useWT (fun hW639 => ?_)
                  have aq640 := hW639.aq h_x
                  refine GO.useWT (fun hW641 => ?_)
                  have ak642 := hW641.arr h_x 39 32 (by decide) rfl (by decide)
                  have ak643 := hW641.arr h_x 49 40 (by decide) rfl (by decide)
                  have ak644 := hW641.arr h_x 50 41 (by decide) rfl (by decide)
                  have ak645 := hW641.arr h_x 53 44 (by decide) rfl (by decide)
                  have ak646 := hW641.arr h_x 54 45 (by decide) rfl (by decide)
                  have ak647 := hW641.arr h_x 55 46 (by decide) rfl (by decide)
                  have ak648 := hW641.arr h_x 60 51 (by decide) rfl (by decide)
                  have ak649 := hW641.arr h_x 61 52 (by decide) rfl (by decide)
                  refine GO.iload dX12_reading_174 rfl ?_
                  refine GO.aload_n dX12_reading_176 rfl rfl ?_
                  refine GO.getI h_x fl_RX12_466 rfl rfl dX12_reading_177 (fun l650 u651 => ?_)
                  refine GO.icmp_ge (tgt := 211) dX12_reading_180 (by decide) r_i227 vi_ir (fun c652 => ?_) (fun c652 => ?_)
                  ·
                    refine GO.aload_n dX12_reading_211 rfl rfl ?_
                    refine GO.aload_n dX12_reading_212 rfl rfl ?_
                    refine GO.getI h_x fl_RX12_547 rfl rfl dX12_reading_213 (fun l653 u654 => ?_)
                    refine GO.iconst dX12_reading_216 ?_
                    refine GO.iadd dX12_reading_217 ?_
                    have q656 : -2147483648 ≤ vi Wi227 x 48 ∧ vi Wi227 x 48 ≤ 2147483647 := vi_ir
                    refine GO.putI h_x fp_RX12_547 rfl (by decide +kernel) ⟨by omega, by omega⟩ (by omega) (by omega) dX12_reading_218 (fun V657 e655 => ?_)
                    have k658 := st_fld e655 aq640 h_x (by decide) (by decide)
                    have sS659 : sd V657 x = sd Wi227 x := k658.2.1.trans (rfl : sd Wi227 x = sd Wi227 x)
                    have sQ660 : wt V657 x = wt Wi227 x := k658.2.2.trans (rfl : wt Wi227 x = wt Wi227 x)
                    clear k658
                    have ak661 := tk_fld e655 ak642 h_x (by decide) kp632
                    clear kp632 ak642 ak661
                    have ak662 := tk_fld e655 ak643 h_x (by decide) kp633
                    clear kp633 ak643
                    have ak663 := tk_fld e655 ak644 h_x (by decide) kp634
                    clear kp634 ak644
                    have ak664 := tk_fld e655 ak645 h_x (by decide) kp635
                    clear kp635 ak645
                    have ak665 := tk_fld e655 ak646 h_x (by decide) kp636
                    clear kp636 ak646
                    have ak666 := tk_fld e655 ak647 h_x (by decide) kp637
                    clear kp637 ak647
                    have ak667 := tk_fld e655 ak648 h_x (by decide) (rfl : ar 60 Wi227 x = ar 60 Wi227 x)
                    clear ak648
                    have ak668 := tk_fld e655 ak649 h_x (by decide) kp638
                    clear kp638 ak649
                    refine GO.iconst dX12_reading_221 ?_
                    have e669 : vi V657 x 47 = vi Wi227 x 47 := vi_up e655 (Or.inr (by decide))
                    have e670 : vi V657 x 48 = (vi Wi227 x 48) + 1 := upd2_int e655 ⟨by omega, by omega⟩
                    exact GO.reti rfl rfl dX12_reading_222 ⟨rfl, _, rfl, (ir_c rfl), ⟨(by first | exact trivial | omega), (by first | exact w_0 | exact GX.mk w_0 (by omega) (by omega) ak662.2 ak663.2 ak664.2 ak665.2 ak666.2 ak667.2 ak668.2 | exact GX.reading hW_0 h_x w_0 (hg1.eq rfl (by omega)) (by omega) (by omega) (by omega) (by omega) ak668.2 (by omega) ak667.2 h60 (by omega) ak662.2 ak663.2 ak664.2 ak665.2 ak666.2)⟩⟩
                  ·
                    refine GO.aload_n dX12_reading_183 rfl rfl ?_
                    refine GO.getA (n := 2200) h_x fl_RX12_145 rfl rfl rfl rfl dX12_reading_184 (fun hv672 h671 => ?_)
                    refine GO.bipush dX12_reading_187 rfl ?_
                    refine GO.aload_n dX12_reading_189 rfl rfl ?_
                    refine GO.getI h_x fl_RX12_547 rfl rfl dX12_reading_190 (fun l673 u674 => ?_)
                    refine GO.imul dX12_reading_193 ?_
                    refine GO.iload dX12_reading_194 rfl ?_
                    refine GO.iadd dX12_reading_196 ?_
                    refine GO.aload_n dX12_reading_197 rfl rfl ?_
                    refine GO.getA (n := 220) h_x fl_RX12_88 rfl rfl rfl rfl dX12_reading_198 (fun hv676 h675 => ?_)
                    refine GO.iload dX12_reading_201 rfl ?_
                    have hl39 : vi Wi227 (vq Wi227 x 39) (i227).toNat = ar 39 V143 x (i227).toNat := (congrFun kp632 (i227).toNat).trans (congrFun hm39 (i227).toNat).symm
                    have q677 : -2147483648 ≤ vi Wi227 x 36 ∧ vi Wi227 x 36 ≤ 2147483647 := vi_ir
                    refine GO.iald (t := 32) rfl rfl h675 r_i227 (by omega) (by omega) dX12_reading_203 (fun l678 u679 => ?_)
                    have q680 : -2147483648 ≤ vi Wi227 x 48 ∧ vi Wi227 x 48 ≤ 2147483647 := vi_ir
                    refine GO.iast (t := 51) rfl rfl (by decide +kernel) h671 ⟨by omega, by omega⟩ (by omega) (by omega) vi_ir (by omega) (by omega) dX12_reading_204 (fun V682 e681 => ?_)
                    have k683 := st_oth e681 aq640 h_x h671 (by decide) (by decide)
                    have sS684 : sd V682 x = sd Wi227 x := k683.2.1.trans (rfl : sd Wi227 x = sd Wi227 x)
                    have sQ685 : wt V682 x = wt Wi227 x := k683.2.2.trans (rfl : wt Wi227 x = wt Wi227 x)
                    clear k683
                    have ak686 := tk_oth e681 ak642 h_x h671 (by decide) (by decide) kp632
                    clear kp632 ak642
                    have ak687 := tk_oth e681 ak643 h_x h671 (by decide) (by decide) kp633
                    clear kp633 ak643
                    have ak688 := tk_oth e681 ak644 h_x h671 (by decide) (by decide) kp634
                    clear kp634 ak644
                    have ak689 := tk_oth e681 ak645 h_x h671 (by decide) (by decide) kp635
                    clear kp635 ak645
                    have ak690 := tk_oth e681 ak646 h_x h671 (by decide) (by decide) kp636
                    clear kp636 ak646
                    have ak691 := tk_oth e681 ak647 h_x h671 (by decide) (by decide) kp637
                    clear kp637 ak647
                    have ak692 := tk_put e681 ak648 h_x (vq_of hv672) vi_ir (rfl : ar 60 Wi227 x = ar 60 Wi227 x)
                    clear ak648
                    have ak693 := tk_oth e681 ak649 h_x h671 (by decide) (by decide) kp638
                    clear kp638 ak649
                    refine GO.iinc (X := i227) (n := 1) (Y := i227 + 1) (ls1 := [some (.ref x), some (ti p0), some (ti p1), some (ti p2), some (ti p3), some (ti 1), some (ti (i227 + 1))]) dX12_reading_205 rfl rfl rfl rfl ?_
                    refine GO.goto (tgt := 174) dX12_reading_208 (by decide) ?_
                    have e694 : vi V682 x 47 = vi Wi227 x 47 := vi_up e681 (Or.inl (K_ne h_x h671 (by decide)))
                    have q695 : -2147483648 ≤ vi Wi227 x 47 ∧ vi Wi227 x 47 ≤ 2147483647 := vi_ir
                    have e696 : vi V682 x 48 = vi Wi227 x 48 := vi_up e681 (Or.inl (K_ne h_x h671 (by decide)))
                    have e697 : vi V682 x 36 = vi Wi227 x 36 := vi_up e681 (Or.inl (K_ne h_x h671 (by decide)))
                    exact ih630 (i227 + 1) V682 ⟨by omega, by omega, by omega, (by first | exact CPf.rf.at ak692.2 | exact CPf.put h60 (by omega) (by omega) ak692.2 (by omega) (by omega) (by omega)), ak686.2, ak687.2, ak688.2, ak689.2, ak690.2, ak691.2, ak693.2, trivial⟩ (by show (2147483647 - (i227 + 1)).toNat < (2147483647 - i227).toNat; omega)
                ·
                  refine GO.aload_n dX12_reading_99 rfl rfl ?_
                  refine GO.iconst dX12_reading_100 ?_
                  refine GO.aload_n dX12_reading_101 rfl rfl ?_
                  refine GO.getI h_x fl_RX12_443 rfl rfl dX12_reading_102 (fun l698 u699 => ?_)
                  refine GO.callV (ci := 11) (N := mX12_wrong) dX12_reading_105 (RX12, TX12, 151) rfl gV_RX12_456 h_x (t_X12_wrong h_x (ir_c rfl) vi_ir) rfl [] rfl rfl (Nat.le_of_ble_eq_true rfl) rfl (k_is fun X700 V704 r701 h702 hF703 => ?_)
                  have k705 := st_fr hF703 aq93 h_x (by decide +kernel) (by decide +kernel) (by decide +kernel) (by decide +kernel)
                  have sS706 : sd V704 x = sd V91 x := k705.2.1.trans (rfl : sd V91 x = sd V91 x)
                  have sQ707 : wt V704 x = wt V91 x := k705.2.2.trans (rfl : wt V91 x = wt V91 x)
                  have ak708 := tk_fr hF703 ak102 h_x (by decide +kernel) (by decide +kernel) (rfl : ar 39 V91 x = ar 39 V91 x)
                  clear ak102
                  have ak709 := tk_fr hF703 ak94.1 h_x (by decide +kernel) (by decide +kernel) ak94.2
                  clear ak94
                  have ak710 := tk_fr hF703 ak95.1 h_x (by decide +kernel) (by decide +kernel) ak95.2
                  clear ak95
                  have ak711 := tk_fr hF703 ak96.1 h_x (by decide +kernel) (by decide +kernel) ak96.2
                  clear ak96
                  have ak712 := tk_fr hF703 ak97.1 h_x (by decide +kernel) (by decide +kernel) ak97.2
                  clear ak97
                  have ak713 := tk_fr hF703 ak98.1 h_x (by decide +kernel) (by decide +kernel) ak98.2
                  clear ak98
                  have ak714 := tk_fr hF703 ak99.1 h_x (by decide +kernel) (by decide +kernel) ak99.2
                  clear ak99
                  have ak715 := tk_fr hF703 ak100.1 h_x (by decide +kernel) (by decide +kernel) ak100.2
                  clear ak100
                  refine GO.if_eq (tgt := 115) dX12_reading_108 (by decide) r701 (fun c716 => ?_) (fun h => by exfalso; omega)
                  refine GO.iconst dX12_reading_115 ?_
                  refine GO.istore (ls1 := [some (.ref x), some (ti p0), some (ti p1), some (ti p2), some (ti p3), some (ti 0), none]) dX12_reading_116 rfl rfl ?_
                  refine GO.aload_n dX12_reading_118 rfl rfl ?_
                  refine GO.iconst dX12_reading_119 ?_
                  refine GO.putI h_x fp_RX12_436 rfl (by decide +kernel) (ir_c rfl) (by decide) (by decide) dX12_reading_120 (fun V718 e717 => ?_)
                  have k719 := st_fld e717 k705.1 h_x (by decide) (by decide)
                  clear k705
                  have sS720 : sd V718 x = sd V91 x := k719.2.1.trans sS706
                  have sQ721 : wt V718 x = wt V91 x := k719.2.2.trans sQ707
                  clear k719
                  have ak722 := tk_fld e717 ak708.1 h_x (by decide) ak708.2
                  clear ak708 ak722
                  have ak723 := tk_fld e717 ak709.1 h_x (by decide) ak709.2
                  clear ak709
                  have ak724 := tk_fld e717 ak710.1 h_x (by decide) ak710.2
                  clear ak710
                  have ak725 := tk_fld e717 ak711.1 h_x (by decide) ak711.2
                  clear ak711
                  have ak726 := tk_fld e717 ak712.1 h_x (by decide) ak712.2
                  clear ak712
                  have ak727 := tk_fld e717 ak713.1 h_x (by decide) ak713.2
                  clear ak713
                  have ak728 := tk_fld e717 ak714.1 h_x (by decide) ak714.2
                  clear ak714
                  have ak729 := tk_fld e717 ak715.1 h_x (by decide) ak715.2
                  clear ak715
                  refine GO.iload dX12_reading_123 rfl ?_
                  refine GO.if_ne (tgt := 133) dX12_reading_125 (by decide) (ir_c rfl) (fun h => by exfalso; omega) (fun c730 => ?_)
                  refine GO.aload_n dX12_reading_128 rfl rfl ?_
                  refine GO.getI h_x fl_RX12_453 rfl rfl dX12_reading_129 (fun _ _ => ?_)
                  have q733 : -2147483648 ≤ vi V718 x 33 ∧ vi V718 x 33 ≤ 2147483647 := vi_ir
                  have e739 : vi V44 x 47 = vi V x 47 := vi_up e43 (Or.inr (by decide))
                  have e738 : vi V58 x 47 = vi V44 x 47 := vi_up e56 (Or.inr (by decide))
                  have e737 : vi V71 x 47 = vi V58 x 47 := vi_up e70 (Or.inr (by decide))
                  have e736 : vi V91 x 47 = vi V71 x 47 := vi_fr hF90 h_x h_x (by decide +kernel)
                  have e735 : vi V704 x 47 = vi V91 x 47 := vi_fr hF703 h_x h_x (by decide +kernel)
                  have e734 : vi V718 x 47 = vi V704 x 47 := vi_up e717 (Or.inr (by decide))
                  have e745 : vi V44 x 48 = vi V x 48 := vi_up e43 (Or.inr (by decide))
                  have e744 : vi V58 x 48 = vi V44 x 48 := vi_up e56 (Or.inr (by decide))
                  have e743 : vi V71 x 48 = vi V58 x 48 := vi_up e70 (Or.inr (by decide))
                  have e742 : vi V91 x 48 = vi V71 x 48 := vi_fr hF90 h_x h_x (by decide +kernel)
                  have e741 : vi V704 x 48 = vi V91 x 48 := vi_fr hF703 h_x h_x (by decide +kernel)
                  have e740 : vi V718 x 48 = vi V704 x 48 := vi_up e717 (Or.inr (by decide))
                  exact GO.reti rfl rfl dX12_reading_132 ⟨rfl, _, rfl, vi_ir, ⟨(by first | exact trivial | omega), (by first | exact w_0 | exact GX.mk w_0 (by omega) (by omega) ak723.2 ak724.2 ak725.2 ak726.2 ak727.2 ak728.2 ak729.2)⟩⟩
            ·
              clear ak4 ak5 ak6 ak7 ak8 ak9 ak10 ak11
              refine GO.iconst dX12_reading_63 ?_
              exact GO.reti rfl rfl dX12_reading_64 ⟨rfl, _, rfl, (ir_c rfl), ⟨(by first | exact trivial | omega), (by first | exact w_0 | exact GX.mk w_0 (by omega) (by omega) (rfl : ar 49 V x = ar 49 V x) (rfl : ar 50 V x = ar 50 V x) (rfl : ar 53 V x = ar 53 V x) (rfl : ar 54 V x = ar 54 V x) (rfl : ar 55 V x = ar 55 V x) (rfl : ar 60 V x = ar 60 V x) (rfl : ar 61 V x = ar 61 V x))⟩⟩
