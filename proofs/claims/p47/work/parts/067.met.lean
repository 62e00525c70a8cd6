def mX12_isText : MRec := (RX12, cX12_isText, 2, (some .boolean), yX12_isText, 0, 0, 0, 0, 0)
def mX12_isClause : MRec := (RX12, cX12_isClause, 3, (some .boolean), yX12_isClause, 1, 21, 0, 0, 0)
def mX12_yes : MRec := (RX12, cX12_yes, 3, (some .boolean), yX12_yes, 1, 21, 0, 0, 4271974071841820164790043412339104229205409044713305539894083215644439451561281100045924173873152)
def mX12_reading : MRec := (RX12, cX12_reading, 7, (some .int), yX12_reading, 7, 146, 0, 0, 128159271044118036971367372812869648701238136576827868362951687320118874642038416358604521783427072)
set_option maxHeartbeats 1000000 in
theorem t_X12_isText {K : Kmap} {V : Vmap} {x : Nat} {p0 : Int} (h_x : K x = some (0, 11)) (r_p0 : ir p0) : MC mX12_isText K V [.ref x, ti p0] (IP K V (fun X => (X = 0 ∨ X = 1) ∧ (X ≠ 0 → p0 ≥ 0 ∧ p0 ≤ 19) ∧ (X = 0 → True))) := by
  refine MC.start 0 (by decide +kernel) rfl rfl rfl (ls0 := [some (.ref x), some (ti p0)]) rfl ?_
  refine GO.iload_n dX12_isText_0 rfl rfl ?_
  refine GO.if_lt (tgt := 16) dX12_isText_1 (by decide) r_p0 (fun c1 => ?_) (fun c1 => ?_)
  ·
    refine GO.iconst dX12_isText_16 ?_
    exact GO.retz rfl rfl dX12_isText_17 (by omega) ⟨rfl, rfl, _, rfl, (ir_c rfl), ⟨by omega, fun h => by omega, fun _ => trivial⟩⟩
  ·
    refine GO.iload_n dX12_isText_4 rfl rfl ?_
    refine GO.aload_n dX12_isText_5 rfl rfl ?_
    refine GO.getI h_x fl_RX12_535 rfl rfl dX12_isText_6 (fun l2 u3 => ?_)
    refine GO.icmp_ge (tgt := 16) dX12_isText_9 (by decide) r_p0 vi_ir (fun c4 => ?_) (fun c4 => ?_)
    ·
      refine GO.iconst dX12_isText_16 ?_
      exact GO.retz rfl rfl dX12_isText_17 (by omega) ⟨rfl, rfl, _, rfl, (ir_c rfl), ⟨by omega, fun h => by omega, fun _ => trivial⟩⟩
    ·
      refine GO.iconst dX12_isText_12 ?_
      refine GO.goto (tgt := 17) dX12_isText_13 (by decide) ?_
      exact GO.retz rfl rfl dX12_isText_17 (by omega) ⟨rfl, rfl, _, rfl, (ir_c rfl), ⟨by omega, fun h => by omega, fun _ => trivial⟩⟩

set_option maxHeartbeats 1000000 in
theorem t_X12_isClause {K : Kmap} {V : Vmap} {x : Nat} {p0 : Int} {p1 : Int} (h_x : K x = some (0, 11)) (r_p0 : ir p0) (r_p1 : ir p1) : MC mX12_isClause K V [.ref x, ti p0, ti p1] (IP K V (fun X => (X = 0 ∨ X = 1) ∧ (X ≠ 0 → p0 ≥ 0 ∧ p0 ≤ 19 ∧ p1 ≥ 0 ∧ p1 ≤ 11) ∧ (X = 0 → True))) := by
  refine MC.start 0 (by decide +kernel) rfl rfl rfl (ls0 := [some (.ref x), some (ti p0), some (ti p1)]) rfl ?_
  refine GO.aload_n dX12_isClause_0 rfl rfl ?_
  refine GO.iload_n dX12_isClause_1 rfl rfl ?_
  refine GO.callV (ci := 11) (N := mX12_isText) dX12_isClause_2 (RX12, TX12, 151) rfl gV_RX12_541 h_x (t_X12_isText h_x r_p0) rfl [] rfl rfl (Nat.le_of_ble_eq_true rfl) rfl (k_ip fun X1 r2 h3 => ?_)
  refine GO.if_eq (tgt := 26) dX12_isClause_5 (by decide) r2 (fun c4 => ?_) (fun c4 => ?_)
  ·
    refine GO.iconst dX12_isClause_26 ?_
    exact GO.retz rfl rfl dX12_isClause_27 (by omega) ⟨rfl, rfl, _, rfl, (ir_c rfl), ⟨by omega, fun h => by omega, fun _ => trivial⟩⟩
  ·
    have q5 := h3.2.1 (by omega)
    refine GO.iload_n dX12_isClause_8 rfl rfl ?_
    refine GO.if_lt (tgt := 26) dX12_isClause_9 (by decide) r_p1 (fun c6 => ?_) (fun c6 => ?_)
    ·
      refine GO.iconst dX12_isClause_26 ?_
      exact GO.retz rfl rfl dX12_isClause_27 (by omega) ⟨rfl, rfl, _, rfl, (ir_c rfl), ⟨by omega, fun h => by omega, fun _ => trivial⟩⟩
    ·
      refine GO.iload_n dX12_isClause_12 rfl rfl ?_
      refine GO.aload_n dX12_isClause_13 rfl rfl ?_
      refine GO.getA (n := 20) h_x fl_RX12_115 rfl rfl rfl rfl dX12_isClause_14 (fun hv8 h7 => ?_)
      refine GO.iload_n dX12_isClause_17 rfl rfl ?_
      have q9 : -2147483648 ≤ p0 ∧ p0 ≤ 2147483647 := r_p0
      refine GO.iald (t := 41) rfl rfl h7 r_p0 (by omega) (by omega) dX12_isClause_18 (fun l10 u11 => ?_)
      refine GO.icmp_ge (tgt := 26) dX12_isClause_19 (by decide) r_p1 vi_ir (fun c12 => ?_) (fun c12 => ?_)
      ·
        refine GO.iconst dX12_isClause_26 ?_
        exact GO.retz rfl rfl dX12_isClause_27 (by omega) ⟨rfl, rfl, _, rfl, (ir_c rfl), ⟨by omega, fun h => by omega, fun _ => trivial⟩⟩
      ·
        refine GO.iconst dX12_isClause_22 ?_
        refine GO.goto (tgt := 27) dX12_isClause_23 (by decide) ?_
        exact GO.retz rfl rfl dX12_isClause_27 (by omega) ⟨rfl, rfl, _, rfl, (ir_c rfl), ⟨by omega, fun h => by omega, fun _ => trivial⟩⟩

set_option maxHeartbeats 1000000 in
theorem t_X12_yes {K : Kmap} {V : Vmap} {x : Nat} {p0 : Int} {p1 : Int} (h_x : K x = some (0, 11)) (r_p0 : ir p0) (r_p1 : ir p1) : MC mX12_yes K V [.ref x, ti p0, ti p1] (IS K (fun X V1 => (X = 0 ∨ X = 1) ∧ (X ≠ 0 → True) ∧ (X = 0 → True))) := by
  refine MC.start 0 (by decide +kernel) rfl rfl rfl (ls0 := [some (.ref x), some (ti p0), some (ti p1)]) rfl ?_
  refine GO.aload_n dX12_yes_0 rfl rfl ?_
  refine GO.iload_n dX12_yes_1 rfl rfl ?_
  refine GO.callV (ci := 11) (N := mX12_isParty) dX12_yes_2 (RX12, TX12, 151) rfl gV_RX12_406 h_x (t_X12_isParty h_x r_p0) rfl [] rfl rfl (Nat.le_of_ble_eq_true rfl) rfl (k_ip fun X1 r2 h3 => ?_)
  refine GO.if_eq (tgt := 35) dX12_yes_5 (by decide) r2 (fun c4 => ?_) (fun c4 => ?_)
  ·
    have q5 := h3.2.2 (by omega)
    refine GO.iconst dX12_yes_35 ?_
    exact GO.retz rfl rfl dX12_yes_36 (by omega) ⟨rfl, _, rfl, (ir_c rfl), ⟨by omega, fun _ => trivial, fun _ => trivial⟩⟩
  ·
    have q6 := h3.2.1 (by omega)
    refine GO.aload_n dX12_yes_8 rfl rfl ?_
    refine GO.iload_n dX12_yes_9 rfl rfl ?_
    refine GO.callV (ci := 11) (N := mX12_isText) dX12_yes_10 (RX12, TX12, 151) rfl gV_RX12_541 h_x (t_X12_isText h_x r_p1) rfl [] rfl rfl (Nat.le_of_ble_eq_true rfl) rfl (k_ip fun X7 r8 h9 => ?_)
    refine GO.if_eq (tgt := 35) dX12_yes_13 (by decide) r8 (fun c10 => ?_) (fun c10 => ?_)
    ·
      refine GO.iconst dX12_yes_35 ?_
      exact GO.retz rfl rfl dX12_yes_36 (by omega) ⟨rfl, _, rfl, (ir_c rfl), ⟨by omega, fun _ => trivial, fun _ => trivial⟩⟩
    ·
      have q11 := h9.2.1 (by omega)
      refine GO.iload_n dX12_yes_16 rfl rfl ?_
      refine GO.if_eq (tgt := 35) dX12_yes_17 (by decide) r_p1 (fun c12 => ?_) (fun c12 => ?_)
      ·
        refine GO.iconst dX12_yes_35 ?_
        exact GO.retz rfl rfl dX12_yes_36 (by omega) ⟨rfl, _, rfl, (ir_c rfl), ⟨by omega, fun _ => trivial, fun _ => trivial⟩⟩
      ·
        refine GO.aload_n dX12_yes_20 rfl rfl ?_
        refine GO.getA (n := 180) h_x fl_RX12_142 rfl rfl rfl rfl dX12_yes_21 (fun hv14 h13 => ?_)
        refine GO.bipush dX12_yes_24 rfl ?_
        refine GO.iload_n dX12_yes_26 rfl rfl ?_
        refine GO.imul dX12_yes_27 ?_
        refine GO.iload_n dX12_yes_28 rfl rfl ?_
        refine GO.iadd dX12_yes_29 ?_
        have q15 : -2147483648 ≤ p1 ∧ p1 ≤ 2147483647 := r_p1
        have q16 : -2147483648 ≤ p0 ∧ p0 ≤ 2147483647 := r_p0
        have q17 : -2147483648 ≤ vi V x 9 ∧ vi V x 9 ≤ 2147483647 := vi_ir
        refine GO.iald (t := 50) rfl rfl h13 ⟨by omega, by omega⟩ (by omega) (by omega) dX12_yes_30 (fun _ _ => ?_)
        refine GO.iconst dX12_yes_31 ?_
        refine GO.icmp_eq (tgt := 37) dX12_yes_32 (by decide) vi_ir (ir_c rfl) (fun c18 => ?_) (fun c18 => ?_)
        ·
          refine GO.aload_n dX12_yes_37 rfl rfl ?_
          refine GO.getRaw h_x fl_RX12_142 hv14 dX12_yes_38 ?_
          refine GO.bipush dX12_yes_41 rfl ?_
          refine GO.iload_n dX12_yes_43 rfl rfl ?_
          refine GO.imul dX12_yes_44 ?_
          refine GO.iload_n dX12_yes_45 rfl rfl ?_
          refine GO.iadd dX12_yes_46 ?_
          refine GO.aload_n dX12_yes_47 rfl rfl ?_
          refine GO.getI h_x fl_RX12_396 rfl rfl dX12_yes_48 (fun l21 u22 => ?_)
          refine GO.iast (t := 50) rfl rfl (by decide +kernel) h13 ⟨by omega, by omega⟩ (by omega) (by omega) vi_ir (vi_ir).1 (vi_ir).2 dX12_yes_51 (fun V24 e23 => ?_)
          refine GO.iconst dX12_yes_52 ?_
          exact GO.retz rfl rfl dX12_yes_53 (by omega) ⟨rfl, _, rfl, (ir_c rfl), ⟨by omega, fun _ => trivial, fun _ => trivial⟩⟩
        ·
          refine GO.iconst dX12_yes_35 ?_
          exact GO.retz rfl rfl dX12_yes_36 (by omega) ⟨rfl, _, rfl, (ir_c rfl), ⟨by omega, fun _ => trivial, fun _ => trivial⟩⟩

set_option maxHeartbeats 1000000 in
theorem t_X12_reading {K : Kmap} {V : Vmap} {x : Nat} {p0 : Int} {p1 : Int} {p2 : Int} {p3 : Int} (h_x : K x = some (0, 11)) (r_p0 : ir p0) (r_p1 : ir p1) (r_p2 : ir p2) (r_p3 : ir p3) (w_0 : GX V x) : MC mX12_reading K V [.ref x, ti p0, ti p1, ti p2, ti p3] (IS K (fun X V1 => (X ≥ (-2147483648) ∧ X ≤ 2147483647) ∧ (GX V1 x))) := by
  refine MC.start 2 (by decide +kernel) rfl rfl rfl (ls0 := [some (.ref x), some (ti p0), some (ti p1), some (ti p2), some (ti p3), none, none]) rfl ?_
  refine GO.useWT (fun hW_0 => ?_)
  refine GO.useWT (fun hW1 => ?_)
  have aq2 := hW1.aq h_x
  refine GO.useWT (fun hW3 => ?_)
  have ak4 := hW3.arr h_x 39 32 (by decide) rfl (by decide)
  have ak5 := hW3.arr h_x 49 40 (by decide) rfl (by decide)
  have ak6 := hW3.arr h_x 50 41 (by decide) rfl (by decide)
  have ak7 := hW3.arr h_x 53 44 (by decide) rfl (by decide)
  have ak8 := hW3.arr h_x 54 45 (by decide) rfl (by decide)
  have ak9 := hW3.arr h_x 55 46 (by decide) rfl (by decide)
  have ak10 := hW3.arr h_x 60 51 (by decide) rfl (by decide)
  have ak11 := hW3.arr h_x 61 52 (by decide) rfl (by decide)
  have hcn := (hW1).cnt h_x
  refine GO.aload_n dX12_reading_0 rfl rfl ?_
  refine GO.iload_n dX12_reading_1 rfl rfl ?_
  refine GO.callV (ci := 11) (N := mX12_isParty) dX12_reading_2 (RX12, TX12, 151) rfl gV_RX12_406 h_x (t_X12_isParty h_x r_p0) rfl [] rfl rfl (Nat.le_of_ble_eq_true rfl) rfl (k_ip fun X12 r13 h14 => ?_)
  refine GO.if_eq (tgt := 63) dX12_reading_5 (by decide) r13 (fun c15 => ?_) (fun c15 => ?_)
  ·
    have q16 := h14.2.2 (by omega)
    refine GO.iconst dX12_reading_63 ?_
    exact GO.reti rfl rfl dX12_reading_64 ⟨rfl, _, rfl, (ir_c rfl), ⟨by omega, (by first | exact w_0 | exact GX.mk w_0 (by omega) (by omega) (rfl : ar 49 V x = ar 49 V x) (rfl : ar 50 V x = ar 50 V x) (rfl : ar 53 V x = ar 53 V x) (rfl : ar 54 V x = ar 54 V x) (rfl : ar 55 V x = ar 55 V x) (rfl : ar 60 V x = ar 60 V x) (rfl : ar 61 V x = ar 61 V x) | exact GX.reading hW_0 h_x w_0 (hg1.eq rfl (by omega)) (by omega) (by omega) (by omega) (by omega) (rfl : ar 61 V x = ar 61 V x) (by omega) (rfl : ar 60 V x = ar 60 V x) h60 (by omega) (rfl : ar 49 V x = ar 49 V x) (rfl : ar 50 V x = ar 50 V x) (rfl : ar 53 V x = ar 53 V x) (rfl : ar 54 V x = ar 54 V x) (rfl : ar 55 V x = ar 55 V x))⟩⟩
  ·
    have q17 := h14.2.1 (by omega)
    refine GO.aload_n dX12_reading_8 rfl rfl ?_
    refine GO.iload_n dX12_reading_9 rfl rfl ?_
    refine GO.iload_n dX12_reading_10 rfl rfl ?_
    refine GO.callV (ci := 11) (N := mX12_isClause) dX12_reading_11 (RX12, TX12, 151) rfl gV_RX12_544 h_x (t_X12_isClause h_x r_p1 r_p2) rfl [] rfl rfl (Nat.le_of_ble_eq_true rfl) rfl (k_ip fun X18 r19 h20 => ?_)
    refine GO.if_eq (tgt := 63) dX12_reading_14 (by decide) r19 (fun c21 => ?_) (fun c21 => ?_)
    ·
      refine GO.iconst dX12_reading_63 ?_
      exact GO.reti rfl rfl dX12_reading_64 ⟨rfl, _, rfl, (ir_c rfl), ⟨by omega, (by first | exact w_0 | exact GX.mk w_0 (by omega) (by omega) (rfl : ar 49 V x = ar 49 V x) (rfl : ar 50 V x = ar 50 V x) (rfl : ar 53 V x = ar 53 V x) (rfl : ar 54 V x = ar 54 V x) (rfl : ar 55 V x = ar 55 V x) (rfl : ar 60 V x = ar 60 V x) (rfl : ar 61 V x = ar 61 V x) | exact GX.reading hW_0 h_x w_0 (hg1.eq rfl (by omega)) (by omega) (by omega) (by omega) (by omega) (rfl : ar 61 V x = ar 61 V x) (by omega) (rfl : ar 60 V x = ar 60 V x) h60 (by omega) (rfl : ar 49 V x = ar 49 V x) (rfl : ar 50 V x = ar 50 V x) (rfl : ar 53 V x = ar 53 V x) (rfl : ar 54 V x = ar 54 V x) (rfl : ar 55 V x = ar 55 V x))⟩⟩
    ·
      have q22 := h20.2.1 (by omega)
      refine GO.aload_n dX12_reading_17 rfl rfl ?_
      refine GO.getA (n := 240) h_x fl_RX12_124 rfl rfl rfl rfl dX12_reading_18 (fun hv24 h23 => ?_)
      refine GO.bipush dX12_reading_21 rfl ?_
      refine GO.iload_n dX12_reading_23 rfl rfl ?_
      refine GO.imul dX12_reading_24 ?_
      refine GO.iload_n dX12_reading_25 rfl rfl ?_
      refine GO.iadd dX12_reading_26 ?_
      have q25 : -2147483648 ≤ p2 ∧ p2 ≤ 2147483647 := r_p2
      have q26 : -2147483648 ≤ p1 ∧ p1 ≤ 2147483647 := r_p1
      refine GO.iald (t := 44) rfl rfl h23 ⟨by omega, by omega⟩ (by omega) (by omega) dX12_reading_27 (fun _ _ => ?_)
      refine GO.callS (N := mX12_isAsking) dX12_reading_28 gS_RX12_520 (t_X12_isAsking vi_ir) rfl [] rfl rfl (Nat.le_of_ble_eq_true rfl) rfl (k_ip fun X27 r28 h29 => ?_)
      have raw_isAsking := h29.2.2.2
      refine GO.if_eq (tgt := 63) dX12_reading_31 (by decide) r28 (fun c30 => ?_) (fun c30 => ?_)
      ·
        refine GO.iconst dX12_reading_63 ?_
        exact GO.reti rfl rfl dX12_reading_64 ⟨rfl, _, rfl, (ir_c rfl), ⟨by omega, (by first | exact w_0 | exact GX.mk w_0 (by omega) (by omega) (rfl : ar 49 V x = ar 49 V x) (rfl : ar 50 V x = ar 50 V x) (rfl : ar 53 V x = ar 53 V x) (rfl : ar 54 V x = ar 54 V x) (rfl : ar 55 V x = ar 55 V x) (rfl : ar 60 V x = ar 60 V x) (rfl : ar 61 V x = ar 61 V x) | exact GX.reading hW_0 h_x w_0 (hg1.eq rfl (by omega)) (by omega) (by omega) (by omega) (by omega) (rfl : ar 61 V x = ar 61 V x) (by omega) (rfl : ar 60 V x = ar 60 V x) h60 (by omega) (rfl : ar 49 V x = ar 49 V x) (rfl : ar 50 V x = ar 50 V x) (rfl : ar 53 V x = ar 53 V x) (rfl : ar 54 V x = ar 54 V x) (rfl : ar 55 V x = ar 55 V x))⟩⟩
      ·
        have q31 := h29.2.1 (by omega)
        refine GO.iload dX12_reading_34 rfl ?_
        refine GO.iconst dX12_reading_36 ?_
        refine GO.bipush dX12_reading_37 rfl ?_
        refine GO.callS (N := mX12_in) dX12_reading_39 gS_RX12_371 (t_X12_in r_p3 (ir_c rfl) (ir_c rfl)) rfl [] rfl rfl (Nat.le_of_ble_eq_true rfl) rfl (k_ip fun X32 r33 h34 => ?_)
        refine GO.if_eq (tgt := 63) dX12_reading_42 (by decide) r33 (fun c35 => ?_) (fun c35 => ?_)
        ·
          have q36 := h34.2.2 (by omega)
          refine GO.iconst dX12_reading_63 ?_
          exact GO.reti rfl rfl dX12_reading_64 ⟨rfl, _, rfl, (ir_c rfl), ⟨by omega, (by first | exact w_0 | exact GX.mk w_0 (by omega) (by omega) (rfl : ar 49 V x = ar 49 V x) (rfl : ar 50 V x = ar 50 V x) (rfl : ar 53 V x = ar 53 V x) (rfl : ar 54 V x = ar 54 V x) (rfl : ar 55 V x = ar 55 V x) (rfl : ar 60 V x = ar 60 V x) (rfl : ar 61 V x = ar 61 V x) | exact GX.reading hW_0 h_x w_0 (hg1.eq rfl (by omega)) (by omega) (by omega) (by omega) (by omega) (rfl : ar 61 V x = ar 61 V x) (by omega) (rfl : ar 60 V x = ar 60 V x) h60 (by omega) (rfl : ar 49 V x = ar 49 V x) (rfl : ar 50 V x = ar 50 V x) (rfl : ar 53 V x = ar 53 V x) (rfl : ar 54 V x = ar 54 V x) (rfl : ar 55 V x = ar 55 V x))⟩⟩
        ·
          have q37 := h34.2.1 (by omega)
          refine GO.iload dX12_reading_45 rfl ?_
          refine GO.aload_n dX12_reading_47 rfl rfl ?_
          refine GO.getI h_x fl_RX12_436 rfl rfl dX12_reading_48 (fun l38 u39 => ?_)
          refine GO.icmp_gt (tgt := 63) dX12_reading_51 (by decide) r_p3 vi_ir (fun c40 => ?_) (fun c40 => ?_)
          ·
            refine GO.iconst dX12_reading_63 ?_
            exact GO.reti rfl rfl dX12_reading_64 ⟨rfl, _, rfl, (ir_c rfl), ⟨by omega, (by first | exact w_0 | exact GX.mk w_0 (by omega) (by omega) (rfl : ar 49 V x = ar 49 V x) (rfl : ar 50 V x = ar 50 V x) (rfl : ar 53 V x = ar 53 V x) (rfl : ar 54 V x = ar 54 V x) (rfl : ar 55 V x = ar 55 V x) (rfl : ar 60 V x = ar 60 V x) (rfl : ar 61 V x = ar 61 V x) | exact GX.reading hW_0 h_x w_0 (hg1.eq rfl (by omega)) (by omega) (by omega) (by omega) (by omega) (rfl : ar 61 V x = ar 61 V x) (by omega) (rfl : ar 60 V x = ar 60 V x) h60 (by omega) (rfl : ar 49 V x = ar 49 V x) (rfl : ar 50 V x = ar 50 V x) (rfl : ar 53 V x = ar 53 V x) (rfl : ar 54 V x = ar 54 V x) (rfl : ar 55 V x = ar 55 V x))⟩⟩
          ·
            refine GO.aload_n dX12_reading_54 rfl rfl ?_
            refine GO.getI h_x fl_RX12_547 rfl rfl dX12_reading_55 (fun l41 u42 => ?_)
            refine GO.bipush dX12_reading_58 rfl ?_
            refine GO.icmp_ne (tgt := 65) dX12_reading_60 (by decide) vi_ir (ir_c rfl) (fun c43 => ?_) (fun c43 => ?_)
            ·
              refine GO.aload_n dX12_reading_65 rfl rfl ?_
              refine GO.iconst dX12_reading_66 ?_
              refine GO.putI h_x fp_RX12_443 rfl (by decide +kernel) (ir_c rfl) (by decide) (by decide) dX12_reading_67 (fun V45 e44 => ?_)
              have k46 := st_fld e44 aq2 h_x (by decide) (by decide)
              have sS47 : sd V45 x = sd V x := k46.2.1.trans (rfl : sd V x = sd V x)
              have sQ48 : wt V45 x = wt V x := k46.2.2.trans (rfl : wt V x = wt V x)
              have ak49 := tk_fld e44 ak4 h_x (by decide) (rfl : ar 39 V x = ar 39 V x)
              have ak50 := tk_fld e44 ak5 h_x (by decide) (rfl : ar 49 V x = ar 49 V x)
              have ak51 := tk_fld e44 ak6 h_x (by decide) (rfl : ar 50 V x = ar 50 V x)
              have ak52 := tk_fld e44 ak7 h_x (by decide) (rfl : ar 53 V x = ar 53 V x)
              have ak53 := tk_fld e44 ak8 h_x (by decide) (rfl : ar 54 V x = ar 54 V x)
              have ak54 := tk_fld e44 ak9 h_x (by decide) (rfl : ar 55 V x = ar 55 V x)
              have ak55 := tk_fld e44 ak10 h_x (by decide) (rfl : ar 60 V x = ar 60 V x)
              have ak56 := tk_fld e44 ak11 h_x (by decide) (rfl : ar 61 V x = ar 61 V x)
              refine GO.aload_n dX12_reading_70 rfl rfl ?_
              refine GO.iload dX12_reading_71 rfl ?_
              have q58 : -2147483648 ≤ p3 ∧ p3 ≤ 2147483647 := r_p3
              refine GO.putI h_x fp_RX12_446 rfl (by decide +kernel) r_p3 (by omega) (by omega) dX12_reading_73 (fun V59 e57 => ?_)
              have k60 := st_fld e57 k46.1 h_x (by decide) (by decide)
              have sS61 : sd V59 x = sd V x := k60.2.1.trans sS47
              have sQ62 : wt V59 x = wt V x := k60.2.2.trans sQ48
              have ak63 := tk_fld e57 ak49.1 h_x (by decide) ak49.2
              have ak64 := tk_fld e57 ak50.1 h_x (by decide) ak50.2
              have ak65 := tk_fld e57 ak51.1 h_x (by decide) ak51.2
              have ak66 := tk_fld e57 ak52.1 h_x (by decide) ak52.2
              have ak67 := tk_fld e57 ak53.1 h_x (by decide) ak53.2
              have ak68 := tk_fld e57 ak54.1 h_x (by decide) ak54.2
              have ak69 := tk_fld e57 ak55.1 h_x (by decide) ak55.2
              have ak70 := tk_fld e57 ak56.1 h_x (by decide) ak56.2
              refine GO.aload_n dX12_reading_76 rfl rfl ?_
              refine GO.iconst dX12_reading_77 ?_
              refine GO.putI h_x fp_RX12_466 rfl (by decide +kernel) (ir_c rfl) (by decide) (by decide) dX12_reading_78 (fun V72 e71 => ?_)
              have k73 := st_fld e71 k60.1 h_x (by decide) (by decide)
              have sS74 : sd V72 x = sd V x := k73.2.1.trans sS61
              have sQ75 : wt V72 x = wt V x := k73.2.2.trans sQ62
              have ak76 := tk_fld e71 ak63.1 h_x (by decide) ak63.2
              have ak77 := tk_fld e71 ak64.1 h_x (by decide) ak64.2
              have ak78 := tk_fld e71 ak65.1 h_x (by decide) ak65.2
              have ak79 := tk_fld e71 ak66.1 h_x (by decide) ak66.2
              have ak80 := tk_fld e71 ak67.1 h_x (by decide) ak67.2
              have ak81 := tk_fld e71 ak68.1 h_x (by decide) ak68.2
              have ak82 := tk_fld e71 ak69.1 h_x (by decide) ak69.2
              have ak83 := tk_fld e71 ak70.1 h_x (by decide) ak70.2
              refine GO.aload_n dX12_reading_81 rfl rfl ?_
              have e84 : vi V72 x 36 = 0 := upd2_int e71 (ir_c rfl)
              have e87 : vi V45 x 31 = 0 := upd2_int e44 (ir_c rfl)
              have e86 : vi V59 x 31 = vi V45 x 31 := vi_up e57 (Or.inr (by decide))
              have e85 : vi V72 x 31 = vi V59 x 31 := vi_up e71 (Or.inr (by decide))
              refine GO.callV (ci := 11) (N := mX12_readsCondition) dX12_reading_82 (RX12, TX12, 151) rfl gV_RX12_529 h_x (t_X12_readsCondition h_x (by omega) (⟨rfl, fun _ _ => rfl⟩)) rfl [] rfl rfl (Nat.le_of_ble_eq_true rfl) rfl (k_is fun X88 V92 r89 h90 hF91 => ?_)
              refine GO.useWT (fun hW93 => ?_)
              have aq94 := hW93.aq h_x
              have ak95 := tk_fr hF91 ak77.1 h_x (by decide +kernel) (by decide +kernel) ak77.2
              have ak96 := tk_fr hF91 ak78.1 h_x (by decide +kernel) (by decide +kernel) ak78.2
              have ak97 := tk_fr hF91 ak79.1 h_x (by decide +kernel) (by decide +kernel) ak79.2
              have ak98 := tk_fr hF91 ak80.1 h_x (by decide +kernel) (by decide +kernel) ak80.2
              have ak99 := tk_fr hF91 ak81.1 h_x (by decide +kernel) (by decide +kernel) ak81.2
              have ak100 := tk_fr hF91 ak82.1 h_x (by decide +kernel) (by decide +kernel) ak82.2
              have ak101 := tk_fr hF91 ak83.1 h_x (by decide +kernel) (by decide +kernel) ak83.2
              refine GO.useWT (fun hW102 => ?_)
              have ak103 := hW102.arr h_x 39 32 (by decide) rfl (by decide)
              have raw_readsCondition := h90.2.2.2
              refine GO.if_eq (tgt := 115) dX12_reading_85 (by decide) r89 (fun c105 => ?_) (fun c105 => ?_)
              ·
                refine GO.iconst dX12_reading_115 ?_
                refine GO.istore (ls1 := [some (.ref x), some (ti p0), some (ti p1), some (ti p2), some (ti p3), some (ti 0), none]) dX12_reading_116 rfl rfl ?_
                refine GO.aload_n dX12_reading_118 rfl rfl ?_
                refine GO.iconst dX12_reading_119 ?_
                refine GO.putI h_x fp_RX12_436 rfl (by decide +kernel) (ir_c rfl) (by decide) (by decide) dX12_reading_120 (fun V107 e106 => ?_)
                have k108 := st_fld e106 aq94 h_x (by decide) (by decide)
                have sS109 : sd V107 x = sd V92 x := k108.2.1.trans (rfl : sd V92 x = sd V92 x)
                have sQ110 : wt V107 x = wt V92 x := k108.2.2.trans (rfl : wt V92 x = wt V92 x)
                have ak111 := tk_fld e106 ak103 h_x (by decide) (rfl : ar 39 V92 x = ar 39 V92 x)
                have ak112 := tk_fld e106 ak95.1 h_x (by decide) ak95.2
                have ak113 := tk_fld e106 ak96.1 h_x (by decide) ak96.2
                have ak114 := tk_fld e106 ak97.1 h_x (by decide) ak97.2
                have ak115 := tk_fld e106 ak98.1 h_x (by decide) ak98.2
                have ak116 := tk_fld e106 ak99.1 h_x (by decide) ak99.2
                have ak117 := tk_fld e106 ak100.1 h_x (by decide) ak100.2
                have ak118 := tk_fld e106 ak101.1 h_x (by decide) ak101.2
                refine GO.iload dX12_reading_123 rfl ?_
                refine GO.if_ne (tgt := 133) dX12_reading_125 (by decide) (ir_c rfl) (fun h => by exfalso; omega) (fun c119 => ?_)
                refine GO.aload_n dX12_reading_128 rfl rfl ?_
                refine GO.getI h_x fl_RX12_453 rfl rfl dX12_reading_129 (fun _ _ => ?_)
                have q122 : -2147483648 ≤ vi V107 x 33 ∧ vi V107 x 33 ≤ 2147483647 := vi_ir
                have e127 : vi V45 x 47 = vi V x 47 := vi_up e44 (Or.inr (by decide))
                have e126 : vi V59 x 47 = vi V45 x 47 := vi_up e57 (Or.inr (by decide))
                have e125 : vi V72 x 47 = vi V59 x 47 := vi_up e71 (Or.inr (by decide))
                have e124 : vi V92 x 47 = vi V72 x 47 := vi_fr hF91 h_x h_x (by decide +kernel)
                have e123 : vi V107 x 47 = vi V92 x 47 := vi_up e106 (Or.inr (by decide))
                have e132 : vi V45 x 48 = vi V x 48 := vi_up e44 (Or.inr (by decide))
                have e131 : vi V59 x 48 = vi V45 x 48 := vi_up e57 (Or.inr (by decide))
                have e130 : vi V72 x 48 = vi V59 x 48 := vi_up e71 (Or.inr (by decide))
                have e129 : vi V92 x 48 = vi V72 x 48 := vi_fr hF91 h_x h_x (by decide +kernel)
                have e128 : vi V107 x 48 = vi V92 x 48 := vi_up e106 (Or.inr (by decide))
                exact GO.reti rfl rfl dX12_reading_132 ⟨rfl, _, rfl, vi_ir, ⟨by omega, (by first | exact w_0 | exact GX.mk w_0 (by omega) (by omega) ak112.2 ak113.2 ak114.2 ak115.2 ak116.2 ak117.2 ak118.2 | exact GX.reading hW_0 h_x w_0 (hg1.eq rfl (by omega)) (by omega) (by omega) (by omega) (by omega) ak118.2 (by omega) ak117.2 h60 (by omega) ak112.2 ak113.2 ak114.2 ak115.2 ak116.2)⟩⟩
              ·
                have q133 := h90.2.1 (by omega)
                have hgs := RF.gs (raw_readsCondition (by omega))
                have hgs1 := hgs.2.2.2.1
                have hgs2 := hgs.2.2.1
                refine GO.aload_n dX12_reading_88 rfl rfl ?_
                refine GO.getI h_x fl_RX12_443 rfl rfl dX12_reading_89 (fun l135 u136 => ?_)
                refine GO.aload_n dX12_reading_92 rfl rfl ?_
                refine GO.getI h_x fl_RX12_446 rfl rfl dX12_reading_93 (fun l137 u138 => ?_)
                have e141 : vi V59 x 32 = p3 := upd2_int e57 r_p3
                have e140 : vi V72 x 32 = vi V59 x 32 := vi_up e71 (Or.inr (by decide))
                have e139 : vi V92 x 32 = vi V72 x 32 := vi_fr hF91 h_x h_x (by decide +kernel)
                refine GO.icmp_eq (tgt := 111) dX12_reading_96 (by decide) vi_ir vi_ir (fun c142 => ?_) (fun c142 => ?_)
                ·
                  refine GO.iconst dX12_reading_111 ?_
                  refine GO.goto (tgt := 116) dX12_reading_112 (by decide) ?_
                  refine GO.istore (ls1 := [some (.ref x), some (ti p0), some (ti p1), some (ti p2), some (ti p3), some (ti 1), none]) dX12_reading_116 rfl rfl ?_
                  refine GO.aload_n dX12_reading_118 rfl rfl ?_
                  refine GO.iconst dX12_reading_119 ?_
                  refine GO.putI h_x fp_RX12_436 rfl (by decide +kernel) (ir_c rfl) (by decide) (by decide) dX12_reading_120 (fun V144 e143 => ?_)
                  have k145 := st_fld e143 aq94 h_x (by decide) (by decide)
                  have sS146 : sd V144 x = sd V92 x := k145.2.1.trans (rfl : sd V92 x = sd V92 x)
                  have sQ147 : wt V144 x = wt V92 x := k145.2.2.trans (rfl : wt V92 x = wt V92 x)
                  have ak148 := tk_fld e143 ak103 h_x (by decide) (rfl : ar 39 V92 x = ar 39 V92 x)
                  have ak149 := tk_fld e143 ak95.1 h_x (by decide) ak95.2
                  have ak150 := tk_fld e143 ak96.1 h_x (by decide) ak96.2
                  have ak151 := tk_fld e143 ak97.1 h_x (by decide) ak97.2
                  have ak152 := tk_fld e143 ak98.1 h_x (by decide) ak98.2
                  have ak153 := tk_fld e143 ak99.1 h_x (by decide) ak99.2
                  have ak154 := tk_fld e143 ak100.1 h_x (by decide) ak100.2
                  have ak155 := tk_fld e143 ak101.1 h_x (by decide) ak101.2
                  refine GO.iload dX12_reading_123 rfl ?_
                  refine GO.if_ne (tgt := 133) dX12_reading_125 (by decide) (ir_c rfl) (fun c156 => ?_) (fun h => by exfalso; omega)
                  have e157 : vi V144 x 36 = vi V92 x 36 := vi_up e143 (Or.inr (by decide))
                  have e162 : vi V45 x 48 = vi V x 48 := vi_up e44 (Or.inr (by decide))
                  have e161 : vi V59 x 48 = vi V45 x 48 := vi_up e57 (Or.inr (by decide))
                  have e160 : vi V72 x 48 = vi V59 x 48 := vi_up e71 (Or.inr (by decide))
                  have e159 : vi V92 x 48 = vi V72 x 48 := vi_fr hF91 h_x h_x (by decide +kernel)
                  have e158 : vi V144 x 48 = vi V92 x 48 := vi_up e143 (Or.inr (by decide))
                  have e167 : vi V45 x 47 = vi V x 47 := vi_up e44 (Or.inr (by decide))
                  have e166 : vi V59 x 47 = vi V45 x 47 := vi_up e57 (Or.inr (by decide))
                  have e165 : vi V72 x 47 = vi V59 x 47 := vi_up e71 (Or.inr (by decide))
                  have e164 : vi V92 x 47 = vi V72 x 47 := vi_fr hF91 h_x h_x (by decide +kernel)
                  have e163 : vi V144 x 47 = vi V92 x 47 := vi_up e143 (Or.inr (by decide))
                  have hm39 := ak148.2
                  have hg1 := (hgs.1.eq (a1 := 0) (by omega) rfl).cong (fun j _ _ => (congrFun ak148.2 j).symm)
                  refine GO.aload_n dX12_reading_133 rfl rfl ?_
                  refine GO.getA (n := 20) h_x fl_RX12_151 rfl rfl rfl rfl dX12_reading_134 (fun hv169 h168 => ?_)
                  refine GO.aload_n dX12_reading_137 rfl rfl ?_
                  refine GO.getI h_x fl_RX12_547 rfl rfl dX12_reading_138 (fun l170 u171 => ?_)
                  refine GO.iload_n dX12_reading_141 rfl rfl ?_
                  have q172 : -2147483648 ≤ vi V x 48 ∧ vi V x 48 ≤ 2147483647 := vi_ir
                  refine GO.iast (t := 53) rfl rfl (by decide +kernel) h168 vi_ir (by omega) (by omega) r_p0 (r_p0).1 (r_p0).2 dX12_reading_142 (fun V174 e173 => ?_)
                  have k175 := st_oth e173 k145.1 h_x h168 (by decide) (by decide)
                  have sS176 : sd V174 x = sd V92 x := k175.2.1.trans sS146
                  have sQ177 : wt V174 x = wt V92 x := k175.2.2.trans sQ147
                  have ak178 := tk_oth e173 ak148.1 h_x h168 (by decide) (by decide) ak148.2
                  have ak179 := tk_oth e173 ak149.1 h_x h168 (by decide) (by decide) ak149.2
                  have ak180 := tk_oth e173 ak150.1 h_x h168 (by decide) (by decide) ak150.2
                  have ak181 := tk_oth e173 ak151.1 h_x h168 (by decide) (by decide) ak151.2
                  have ak182 := tk_oth e173 ak152.1 h_x h168 (by decide) (by decide) ak152.2
                  have ak183 := tk_oth e173 ak153.1 h_x h168 (by decide) (by decide) ak153.2
                  have ak184 := tk_oth e173 ak154.1 h_x h168 (by decide) (by decide) ak154.2
                  have ak185 := tk_oth e173 ak155.1 h_x h168 (by decide) (by decide) ak155.2
                  refine GO.aload_n dX12_reading_143 rfl rfl ?_
                  refine GO.getA (n := 20) h_x fl_RX12_154 rfl rfl rfl rfl dX12_reading_144 (fun hv187 h186 => ?_)
                  refine GO.aload_n dX12_reading_147 rfl rfl ?_
                  refine GO.getI h_x fl_RX12_547 rfl rfl dX12_reading_148 (fun l188 u189 => ?_)
                  have e190 : vi V174 x 48 = vi V144 x 48 := vi_up e173 (Or.inl (K_ne h_x h168 (by decide)))
                  refine GO.bipush dX12_reading_151 rfl ?_
                  refine GO.iload_n dX12_reading_153 rfl rfl ?_
                  refine GO.imul dX12_reading_154 ?_
                  refine GO.iload_n dX12_reading_155 rfl rfl ?_
                  refine GO.iadd dX12_reading_156 ?_
                  refine GO.iast (t := 54) rfl rfl (by decide +kernel) h186 vi_ir (by omega) (by omega) ⟨by omega, by omega⟩ (by omega) (by omega) dX12_reading_157 (fun V192 e191 => ?_)
                  have k193 := st_oth e191 k175.1 h_x h186 (by decide) (by decide)
                  have sS194 : sd V192 x = sd V92 x := k193.2.1.trans sS176
                  have sQ195 : wt V192 x = wt V92 x := k193.2.2.trans sQ177
                  have ak196 := tk_oth e191 ak178.1 h_x h186 (by decide) (by decide) ak178.2
                  have ak197 := tk_oth e191 ak179.1 h_x h186 (by decide) (by decide) ak179.2
                  have ak198 := tk_oth e191 ak180.1 h_x h186 (by decide) (by decide) ak180.2
                  have ak199 := tk_oth e191 ak181.1 h_x h186 (by decide) (by decide) ak181.2
                  have ak200 := tk_oth e191 ak182.1 h_x h186 (by decide) (by decide) ak182.2
                  have ak201 := tk_oth e191 ak183.1 h_x h186 (by decide) (by decide) ak183.2
                  have ak202 := tk_oth e191 ak184.1 h_x h186 (by decide) (by decide) ak184.2
                  have ak203 := tk_oth e191 ak185.1 h_x h186 (by decide) (by decide) ak185.2
                  refine GO.aload_n dX12_reading_158 rfl rfl ?_
                  refine GO.getA (n := 20) h_x fl_RX12_148 rfl rfl rfl rfl dX12_reading_159 (fun hv205 h204 => ?_)
                  refine GO.aload_n dX12_reading_162 rfl rfl ?_
                  refine GO.getI h_x fl_RX12_547 rfl rfl dX12_reading_163 (fun l206 u207 => ?_)
                  have e208 : vi V192 x 48 = vi V174 x 48 := vi_up e191 (Or.inl (K_ne h_x h186 (by decide)))
                  refine GO.aload_n dX12_reading_166 rfl rfl ?_
                  refine GO.getI h_x fl_RX12_466 rfl rfl dX12_reading_167 (fun l209 u210 => ?_)
                  have e212 : vi V174 x 36 = vi V144 x 36 := vi_up e173 (Or.inl (K_ne h_x h168 (by decide)))
                  have e211 : vi V192 x 36 = vi V174 x 36 := vi_up e191 (Or.inl (K_ne h_x h186 (by decide)))
                  have q214 : -2147483648 ≤ vi V92 x 36 ∧ vi V92 x 36 ≤ 2147483647 := vi_ir
                  have q215 : -2147483648 ≤ vi V92 x 31 ∧ vi V92 x 31 ≤ 2147483647 := vi_ir
                  refine GO.iast (t := 52) rfl rfl (by decide +kernel) h204 vi_ir (by omega) (by omega) vi_ir (by omega) (by omega) dX12_reading_170 (fun V216 e213 => ?_)
                  have k217 := st_oth e213 k193.1 h_x h204 (by decide) (by decide)
                  have sS218 : sd V216 x = sd V92 x := k217.2.1.trans sS194
                  have sQ219 : wt V216 x = wt V92 x := k217.2.2.trans sQ195
                  have ak220 := tk_oth e213 ak196.1 h_x h204 (by decide) (by decide) ak196.2
                  have ak221 := tk_oth e213 ak197.1 h_x h204 (by decide) (by decide) ak197.2
                  have ak222 := tk_oth e213 ak198.1 h_x h204 (by decide) (by decide) ak198.2
                  have ak223 := tk_oth e213 ak199.1 h_x h204 (by decide) (by decide) ak199.2
                  have ak224 := tk_oth e213 ak200.1 h_x h204 (by decide) (by decide) ak200.2
                  have ak225 := tk_oth e213 ak201.1 h_x h204 (by decide) (by decide) ak201.2
                  have ak226 := tk_oth e213 ak202.1 h_x h204 (by decide) (by decide) ak202.2
                  have ak227 := tk_put e213 ak203.1 h_x (vq_of hv205) vi_ir ak203.2
                  refine GO.iconst dX12_reading_171 ?_
                  refine GO.istore (ls1 := [some (.ref x), some (ti p0), some (ti p1), some (ti p2), some (ti p3), some (ti 1), some (ti 0)]) dX12_reading_172 rfl rfl ?_
                  have e231 : vi V174 x 47 = vi V144 x 47 := vi_up e173 (Or.inl (K_ne h_x h168 (by decide)))
                  have e230 : vi V192 x 47 = vi V174 x 47 := vi_up e191 (Or.inl (K_ne h_x h186 (by decide)))
                  have e229 : vi V216 x 47 = vi V192 x 47 := vi_up e213 (Or.inl (K_ne h_x h204 (by decide)))
                  have q232 : -2147483648 ≤ vi V x 47 ∧ vi V x 47 ≤ 2147483647 := vi_ir
                  have e233 : vi V216 x 48 = vi V192 x 48 := vi_up e213 (Or.inl (K_ne h_x h204 (by decide)))
                  have e234 : vi V216 x 36 = vi V192 x 36 := vi_up e213 (Or.inl (K_ne h_x h204 (by decide)))
                  refine GO.loop1 (fun i228 W => 0 ≤ i228 ∧ i228 ≤ 100 ∧ (vi W x 47 = vi V216 x 47 ∧ vi W x 48 = vi V216 x 48 ∧ vi W x 36 = vi V144 x 36) ∧ (CPf (ar 60 V x) (ar 39 V144 x) (ar 60 W x) (110 * vi V x 48) 0 i228) ∧ ar 39 W x = ar 39 V92 x ∧ ar 49 W x = ar 49 V x ∧ ar 50 W x = ar 50 V x ∧ ar 53 W x = ar 53 V x ∧ ar 54 W x = ar 54 V x ∧ ar 55 W x = ar 55 V x ∧ ar 61 W x = updf (ar 61 V x) (vi V192 x 48).toNat (vi V192 x 36) ∧ True) (fun i228 => [some (.ref x), some (ti p0), some (ti p1), some (ti p2), some (ti p3), some (ti 1), some (ti i228)]) (fun i228 W => (2147483647 - i228).toNat) 0 ⟨by omega, by omega, by omega, (by first | exact CPf.rf.at ak226.2 | exact CPf.put h60 (by omega) (by omega) ak226.2 (by omega) (by omega) (by omega)), ak220.2, ak221.2, ak222.2, ak223.2, ak224.2, ak225.2, ak227.2, trivial⟩ rfl (fun i228 Wi228 hp632 ih631 => ?_)
                  obtain ⟨l_i228, u_i228, n_i228, h60, kp633, kp634, kp635, kp636, kp637, kp638, kp639, -⟩ := hp632
                  have r_i228 : ir i228 := ⟨by omega, by omega⟩
                  show GO mX12_reading K V (IS K (fun X V1 => (X ≥ (-2147483648) ∧ X ≤ 2147483647) ∧ (GX V1 x))) K Wi228 0 0 174 [some (.ref x), some (ti p0), some (ti p1), some (ti p2), some (ti p3), some (ti 1), some (ti i228)] []
                  refine GO.useWT (fun hW640 => ?_)
                  have aq641 := hW640.aq h_x
                  refine GO.useWT (fun hW642 => ?_)
                  have ak643 := hW642.arr h_x 39 32 (by decide) rfl (by decide)
                  have ak644 := hW642.arr h_x 49 40 (by decide) rfl (by decide)
                  have ak645 := hW642.arr h_x 50 41 (by decide) rfl (by decide)
                  have ak646 := hW642.arr h_x 53 44 (by decide) rfl (by decide)
                  have ak647 := hW642.arr h_x 54 45 (by decide) rfl (by decide)
                  have ak648 := hW642.arr h_x 55 46 (by decide) rfl (by decide)
                  have ak649 := hW642.arr h_x 60 51 (by decide) rfl (by decide)
                  have ak650 := hW642.arr h_x 61 52 (by decide) rfl (by decide)
                  refine GO.iload dX12_reading_174 rfl ?_
                  refine GO.aload_n dX12_reading_176 rfl rfl ?_
                  refine GO.getI h_x fl_RX12_466 rfl rfl dX12_reading_177 (fun l651 u652 => ?_)
                  refine GO.icmp_ge (tgt := 211) dX12_reading_180 (by decide) r_i228 vi_ir (fun c653 => ?_) (fun c653 => ?_)
                  ·
                    refine GO.aload_n dX12_reading_211 rfl rfl ?_
                    refine GO.aload_n dX12_reading_212 rfl rfl ?_
                    refine GO.getI h_x fl_RX12_547 rfl rfl dX12_reading_213 (fun l654 u655 => ?_)
                    refine GO.iconst dX12_reading_216 ?_
                    refine GO.iadd dX12_reading_217 ?_
                    have q657 : -2147483648 ≤ vi Wi228 x 48 ∧ vi Wi228 x 48 ≤ 2147483647 := vi_ir
                    refine GO.putI h_x fp_RX12_547 rfl (by decide +kernel) ⟨by omega, by omega⟩ (by omega) (by omega) dX12_reading_218 (fun V658 e656 => ?_)
                    have k659 := st_fld e656 aq641 h_x (by decide) (by decide)
                    have sS660 : sd V658 x = sd Wi228 x := k659.2.1.trans (rfl : sd Wi228 x = sd Wi228 x)
                    have sQ661 : wt V658 x = wt Wi228 x := k659.2.2.trans (rfl : wt Wi228 x = wt Wi228 x)
                    have ak662 := tk_fld e656 ak643 h_x (by decide) kp633
                    have ak663 := tk_fld e656 ak644 h_x (by decide) kp634
                    have ak664 := tk_fld e656 ak645 h_x (by decide) kp635
                    have ak665 := tk_fld e656 ak646 h_x (by decide) kp636
                    have ak666 := tk_fld e656 ak647 h_x (by decide) kp637
                    have ak667 := tk_fld e656 ak648 h_x (by decide) kp638
                    have ak668 := tk_fld e656 ak649 h_x (by decide) (rfl : ar 60 Wi228 x = ar 60 Wi228 x)
                    have ak669 := tk_fld e656 ak650 h_x (by decide) kp639
                    refine GO.iconst dX12_reading_221 ?_
                    have e670 : vi V658 x 47 = vi Wi228 x 47 := vi_up e656 (Or.inr (by decide))
                    have e671 : vi V658 x 48 = (vi Wi228 x 48) + 1 := upd2_int e656 ⟨by omega, by omega⟩
                    exact GO.reti rfl rfl dX12_reading_222 ⟨rfl, _, rfl, (ir_c rfl), ⟨by omega, (by first | exact w_0 | exact GX.mk w_0 (by omega) (by omega) ak663.2 ak664.2 ak665.2 ak666.2 ak667.2 ak668.2 ak669.2 | exact GX.reading hW_0 h_x w_0 (hg1.eq rfl (by omega)) (by omega) (by omega) (by omega) (by omega) ak669.2 (by omega) ak668.2 h60 (by omega) ak663.2 ak664.2 ak665.2 ak666.2 ak667.2)⟩⟩
                  ·
                    refine GO.aload_n dX12_reading_183 rfl rfl ?_
                    refine GO.getA (n := 2200) h_x fl_RX12_145 rfl rfl rfl rfl dX12_reading_184 (fun hv673 h672 => ?_)
                    refine GO.bipush dX12_reading_187 rfl ?_
                    refine GO.aload_n dX12_reading_189 rfl rfl ?_
                    refine GO.getI h_x fl_RX12_547 rfl rfl dX12_reading_190 (fun l674 u675 => ?_)
                    refine GO.imul dX12_reading_193 ?_
                    refine GO.iload dX12_reading_194 rfl ?_
                    refine GO.iadd dX12_reading_196 ?_
                    refine GO.aload_n dX12_reading_197 rfl rfl ?_
                    refine GO.getA (n := 220) h_x fl_RX12_88 rfl rfl rfl rfl dX12_reading_198 (fun hv677 h676 => ?_)
                    refine GO.iload dX12_reading_201 rfl ?_
                    have hl39 : vi Wi228 (vq Wi228 x 39) (i228).toNat = ar 39 V144 x (i228).toNat := (congrFun kp633 (i228).toNat).trans (congrFun hm39 (i228).toNat).symm
                    have q678 : -2147483648 ≤ vi Wi228 x 36 ∧ vi Wi228 x 36 ≤ 2147483647 := vi_ir
                    refine GO.iald (t := 32) rfl rfl h676 r_i228 (by omega) (by omega) dX12_reading_203 (fun l679 u680 => ?_)
                    have q681 : -2147483648 ≤ vi Wi228 x 48 ∧ vi Wi228 x 48 ≤ 2147483647 := vi_ir
                    refine GO.iast (t := 51) rfl rfl (by decide +kernel) h672 ⟨by omega, by omega⟩ (by omega) (by omega) vi_ir (by omega) (by omega) dX12_reading_204 (fun V683 e682 => ?_)
                    have k684 := st_oth e682 aq641 h_x h672 (by decide) (by decide)
                    have sS685 : sd V683 x = sd Wi228 x := k684.2.1.trans (rfl : sd Wi228 x = sd Wi228 x)
                    have sQ686 : wt V683 x = wt Wi228 x := k684.2.2.trans (rfl : wt Wi228 x = wt Wi228 x)
                    have ak687 := tk_oth e682 ak643 h_x h672 (by decide) (by decide) kp633
                    have ak688 := tk_oth e682 ak644 h_x h672 (by decide) (by decide) kp634
                    have ak689 := tk_oth e682 ak645 h_x h672 (by decide) (by decide) kp635
                    have ak690 := tk_oth e682 ak646 h_x h672 (by decide) (by decide) kp636
                    have ak691 := tk_oth e682 ak647 h_x h672 (by decide) (by decide) kp637
                    have ak692 := tk_oth e682 ak648 h_x h672 (by decide) (by decide) kp638
                    have ak693 := tk_put e682 ak649 h_x (vq_of hv673) vi_ir (rfl : ar 60 Wi228 x = ar 60 Wi228 x)
                    have ak694 := tk_oth e682 ak650 h_x h672 (by decide) (by decide) kp639
                    refine GO.iinc (X := i228) (n := 1) (Y := i228 + 1) (ls1 := [some (.ref x), some (ti p0), some (ti p1), some (ti p2), some (ti p3), some (ti 1), some (ti (i228 + 1))]) dX12_reading_205 rfl rfl rfl rfl ?_
                    refine GO.goto (tgt := 174) dX12_reading_208 (by decide) ?_
                    have e695 : vi V683 x 47 = vi Wi228 x 47 := vi_up e682 (Or.inl (K_ne h_x h672 (by decide)))
                    have q696 : -2147483648 ≤ vi Wi228 x 47 ∧ vi Wi228 x 47 ≤ 2147483647 := vi_ir
                    have e697 : vi V683 x 48 = vi Wi228 x 48 := vi_up e682 (Or.inl (K_ne h_x h672 (by decide)))
                    have e698 : vi V683 x 36 = vi Wi228 x 36 := vi_up e682 (Or.inl (K_ne h_x h672 (by decide)))
                    exact ih631 (i228 + 1) V683 ⟨by omega, by omega, by omega, (by first | exact CPf.rf.at ak693.2 | exact CPf.put h60 (by omega) (by omega) ak693.2 (by omega) (by omega) (by omega)), ak687.2, ak688.2, ak689.2, ak690.2, ak691.2, ak692.2, ak694.2, trivial⟩ (by show (2147483647 - (i228 + 1)).toNat < (2147483647 - i228).toNat; omega)
                ·
                  refine GO.aload_n dX12_reading_99 rfl rfl ?_
                  refine GO.iconst dX12_reading_100 ?_
                  refine GO.aload_n dX12_reading_101 rfl rfl ?_
                  refine GO.getI h_x fl_RX12_443 rfl rfl dX12_reading_102 (fun l699 u700 => ?_)
                  refine GO.callV (ci := 11) (N := mX12_wrong) dX12_reading_105 (RX12, TX12, 151) rfl gV_RX12_456 h_x (t_X12_wrong h_x (ir_c rfl) vi_ir) rfl [] rfl rfl (Nat.le_of_ble_eq_true rfl) rfl (k_is fun X701 V705 r702 h703 hF704 => ?_)
                  have k706 := st_fr hF704 aq94 h_x (by decide +kernel) (by decide +kernel) (by decide +kernel) (by decide +kernel)
                  have sS707 : sd V705 x = sd V92 x := k706.2.1.trans (rfl : sd V92 x = sd V92 x)
                  have sQ708 : wt V705 x = wt V92 x := k706.2.2.trans (rfl : wt V92 x = wt V92 x)
                  have ak709 := tk_fr hF704 ak103 h_x (by decide +kernel) (by decide +kernel) (rfl : ar 39 V92 x = ar 39 V92 x)
                  have ak710 := tk_fr hF704 ak95.1 h_x (by decide +kernel) (by decide +kernel) ak95.2
                  have ak711 := tk_fr hF704 ak96.1 h_x (by decide +kernel) (by decide +kernel) ak96.2
                  have ak712 := tk_fr hF704 ak97.1 h_x (by decide +kernel) (by decide +kernel) ak97.2
                  have ak713 := tk_fr hF704 ak98.1 h_x (by decide +kernel) (by decide +kernel) ak98.2
                  have ak714 := tk_fr hF704 ak99.1 h_x (by decide +kernel) (by decide +kernel) ak99.2
                  have ak715 := tk_fr hF704 ak100.1 h_x (by decide +kernel) (by decide +kernel) ak100.2
                  have ak716 := tk_fr hF704 ak101.1 h_x (by decide +kernel) (by decide +kernel) ak101.2
                  refine GO.if_eq (tgt := 115) dX12_reading_108 (by decide) r702 (fun c717 => ?_) (fun h => by exfalso; omega)
                  refine GO.iconst dX12_reading_115 ?_
                  refine GO.istore (ls1 := [some (.ref x), some (ti p0), some (ti p1), some (ti p2), some (ti p3), some (ti 0), none]) dX12_reading_116 rfl rfl ?_
                  refine GO.aload_n dX12_reading_118 rfl rfl ?_
                  refine GO.iconst dX12_reading_119 ?_
                  refine GO.putI h_x fp_RX12_436 rfl (by decide +kernel) (ir_c rfl) (by decide) (by decide) dX12_reading_120 (fun V719 e718 => ?_)
                  have k720 := st_fld e718 k706.1 h_x (by decide) (by decide)
                  have sS721 : sd V719 x = sd V92 x := k720.2.1.trans sS707
                  have sQ722 : wt V719 x = wt V92 x := k720.2.2.trans sQ708
                  have ak723 := tk_fld e718 ak709.1 h_x (by decide) ak709.2
                  have ak724 := tk_fld e718 ak710.1 h_x (by decide) ak710.2
                  have ak725 := tk_fld e718 ak711.1 h_x (by decide) ak711.2
                  have ak726 := tk_fld e718 ak712.1 h_x (by decide) ak712.2
                  have ak727 := tk_fld e718 ak713.1 h_x (by decide) ak713.2
                  have ak728 := tk_fld e718 ak714.1 h_x (by decide) ak714.2
                  have ak729 := tk_fld e718 ak715.1 h_x (by decide) ak715.2
                  have ak730 := tk_fld e718 ak716.1 h_x (by decide) ak716.2
                  refine GO.iload dX12_reading_123 rfl ?_
                  refine GO.if_ne (tgt := 133) dX12_reading_125 (by decide) (ir_c rfl) (fun h => by exfalso; omega) (fun c731 => ?_)
                  refine GO.aload_n dX12_reading_128 rfl rfl ?_
                  refine GO.getI h_x fl_RX12_453 rfl rfl dX12_reading_129 (fun _ _ => ?_)
                  have q734 : -2147483648 ≤ vi V719 x 33 ∧ vi V719 x 33 ≤ 2147483647 := vi_ir
                  have e740 : vi V45 x 47 = vi V x 47 := vi_up e44 (Or.inr (by decide))
                  have e739 : vi V59 x 47 = vi V45 x 47 := vi_up e57 (Or.inr (by decide))
                  have e738 : vi V72 x 47 = vi V59 x 47 := vi_up e71 (Or.inr (by decide))
                  have e737 : vi V92 x 47 = vi V72 x 47 := vi_fr hF91 h_x h_x (by decide +kernel)
                  have e736 : vi V705 x 47 = vi V92 x 47 := vi_fr hF704 h_x h_x (by decide +kernel)
                  have e735 : vi V719 x 47 = vi V705 x 47 := vi_up e718 (Or.inr (by decide))
                  have e746 : vi V45 x 48 = vi V x 48 := vi_up e44 (Or.inr (by decide))
                  have e745 : vi V59 x 48 = vi V45 x 48 := vi_up e57 (Or.inr (by decide))
                  have e744 : vi V72 x 48 = vi V59 x 48 := vi_up e71 (Or.inr (by decide))
                  have e743 : vi V92 x 48 = vi V72 x 48 := vi_fr hF91 h_x h_x (by decide +kernel)
                  have e742 : vi V705 x 48 = vi V92 x 48 := vi_fr hF704 h_x h_x (by decide +kernel)
                  have e741 : vi V719 x 48 = vi V705 x 48 := vi_up e718 (Or.inr (by decide))
                  exact GO.reti rfl rfl dX12_reading_132 ⟨rfl, _, rfl, vi_ir, ⟨by omega, (by first | exact w_0 | exact GX.mk w_0 (by omega) (by omega) ak724.2 ak725.2 ak726.2 ak727.2 ak728.2 ak729.2 ak730.2 | exact GX.reading hW_0 h_x w_0 (hg1.eq rfl (by omega)) (by omega) (by omega) (by omega) (by omega) ak730.2 (by omega) ak729.2 h60 (by omega) ak724.2 ak725.2 ak726.2 ak727.2 ak728.2)⟩⟩
            ·
              refine GO.iconst dX12_reading_63 ?_
              exact GO.reti rfl rfl dX12_reading_64 ⟨rfl, _, rfl, (ir_c rfl), ⟨by omega, (by first | exact w_0 | exact GX.mk w_0 (by omega) (by omega) (rfl : ar 49 V x = ar 49 V x) (rfl : ar 50 V x = ar 50 V x) (rfl : ar 53 V x = ar 53 V x) (rfl : ar 54 V x = ar 54 V x) (rfl : ar 55 V x = ar 55 V x) (rfl : ar 60 V x = ar 60 V x) (rfl : ar 61 V x = ar 61 V x) | exact GX.reading hW_0 h_x w_0 (hg1.eq rfl (by omega)) (by omega) (by omega) (by omega) (by omega) (rfl : ar 61 V x = ar 61 V x) (by omega) (rfl : ar 60 V x = ar 60 V x) h60 (by omega) (rfl : ar 49 V x = ar 49 V x) (rfl : ar 50 V x = ar 50 V x) (rfl : ar 53 V x = ar 53 V x) (rfl : ar 54 V x = ar 54 V x) (rfl : ar 55 V x = ar 55 V x))⟩⟩
