def mX12_isText : MRec := (RX12, cX12_isText, 2, (some .boolean), yX12_isText, 0, 0, 0, 0, 0)
def mX12_isClause : MRec := (RX12, cX12_isClause, 3, (some .boolean), yX12_isClause, 1, 21, 0, 0, 0)
def mX12_yes : MRec := (RX12, cX12_yes, 3, (some .boolean), yX12_yes, 1, 21, 0, 0, 4271974071841820164790043412339104229205409044713305539894083215644439451561281100045924173873152)
def mX12_reading : MRec := (RX12, cX12_reading, 7, (some .int), yX12_reading, 7, 146, 0, 0, 128159271044118036971367372812869648701238136576827868362951687320118874642038416358604521783427072)
set_option maxHeartbeats 1000000 in
theorem t_X12_isText {K : Kmap} {V : Vmap} {x : Nat} {p0 : Int} (h_x : K x = some (0, 11)) (r_p0 : ir p0) : MC mX12_isText K V [.ref x, ti p0] (IP K V (fun X => (X = 0 ∨ X = 1) ∧ (X ≠ 0 → p0 ≥ 0 ∧ p0 ≤ 19) ∧ (X = 0 → True))) := by
  refine MC.start 0 (by decide +kernel) rfl rfl rfl (ls0 := [some (.ref x), some (ti p0)]) rfl ?_
  refine GO.iload_n dX12_isText_0 rfl rfl ?_
  refine GO.if_lt (tgt := 16) dX12_isText_1 (by decide) r_p0 (fun c1 => ?_) (fun c1 => ?_)
  ·
    refine GO.iconst dX12_isText_16 ?_
    exact GO.retz rfl rfl dX12_isText_17 (by omega) ⟨rfl, rfl, _, rfl, (ir_c rfl), ⟨by omega, fun h => by omega, fun _ => trivial⟩⟩
  ·
    refine GO.iload_n dX12_isText_4 rfl rfl ?_
    refine GO.aload_n dX12_isText_5 rfl rfl ?_
    refine GO.getI h_x fl_RX12_535 rfl rfl dX12_isText_6 (fun l2 u3 => ?_)
    refine GO.icmp_ge (tgt := 16) dX12_isText_9 (by decide) r_p0 vi_ir (fun c4 => ?_) (fun c4 => ?_)
    ·
      refine GO.iconst dX12_isText_16 ?_
      exact GO.retz rfl rfl dX12_isText_17 (by omega) ⟨rfl, rfl, _, rfl, (ir_c rfl), ⟨by omega, fun h => by omega, fun _ => trivial⟩⟩
    ·
      refine GO.iconst dX12_isText_12 ?_
      refine GO.goto (tgt := 17) dX12_isText_13 (by decide) ?_
      exact GO.retz rfl rfl dX12_isText_17 (by omega) ⟨rfl, rfl, _, rfl, (ir_c rfl), ⟨by omega, fun h => by omega, fun _ => trivial⟩⟩

set_option maxHeartbeats 1000000 in
theorem t_X12_isClause {K : Kmap} {V : Vmap} {x : Nat} {p0 : Int} {p1 : Int} (h_x : K x = some (0, 11)) (r_p0 : ir p0) (r_p1 : ir p1) : MC mX12_isClause K V [.ref x, ti p0, ti p1] (IP K V (fun X => (X = 0 ∨ X = 1) ∧ (X ≠ 0 → p0 ≥ 0 ∧ p0 ≤ 19 ∧ p1 ≥ 0 ∧ p1 ≤ 11) ∧ (X = 0 → True))) := by
  refine MC.start 0 (by decide +kernel) rfl rfl rfl (ls0 := [some (.ref x), some (ti p0), some (ti p1)]) rfl ?_
  refine GO.aload_n dX12_isClause_0 rfl rfl ?_
  refine GO.iload_n dX12_isClause_1 rfl rfl ?_
  refine GO.callV (ci := 11) (N := mX12_isText) dX12_isClause_2 (RX12, TX12, 151) rfl gV_RX12_541 h_x (t_X12_isText h_x r_p0) rfl [] rfl rfl (Nat.le_of_ble_eq_true rfl) rfl (k_ip fun X1 r2 h3 => ?_)
  refine GO.if_eq (tgt := 26) dX12_isClause_5 (by decide) r2 (fun c4 => ?_) (fun c4 => ?_)
  ·
    refine GO.iconst dX12_isClause_26 ?_
    exact GO.retz rfl rfl dX12_isClause_27 (by omega) ⟨rfl, rfl, _, rfl, (ir_c rfl), ⟨by omega, fun h => by omega, fun _ => trivial⟩⟩
  ·
    have q5 := h3.2.1 (by omega)
    refine GO.iload_n dX12_isClause_8 rfl rfl ?_
    refine GO.if_lt (tgt := 26) dX12_isClause_9 (by decide) r_p1 (fun c6 => ?_) (fun c6 => ?_)
    ·
      refine GO.iconst dX12_isClause_26 ?_
      exact GO.retz rfl rfl dX12_isClause_27 (by omega) ⟨rfl, rfl, _, rfl, (ir_c rfl), ⟨by omega, fun h => by omega, fun _ => trivial⟩⟩
    ·
      refine GO.iload_n dX12_isClause_12 rfl rfl ?_
      refine GO.aload_n dX12_isClause_13 rfl rfl ?_
      refine GO.getA (n := 20) h_x fl_RX12_115 rfl rfl rfl rfl dX12_isClause_14 (fun hv8 h7 => ?_)
      refine GO.iload_n dX12_isClause_17 rfl rfl ?_
      have q9 : -2147483648 ≤ p0 ∧ p0 ≤ 2147483647 := r_p0
      refine GO.iald (t := 41) rfl rfl h7 r_p0 (by omega) (by omega) dX12_isClause_18 (fun l10 u11 => ?_)
      refine GO.icmp_ge (tgt := 26) dX12_isClause_19 (by decide) r_p1 vi_ir (fun c12 => ?_) (fun c12 => ?_)
      ·
        refine GO.iconst dX12_isClause_26 ?_
        exact GO.retz rfl rfl dX12_isClause_27 (by omega) ⟨rfl, rfl, _, rfl, (ir_c rfl), ⟨by omega, fun h => by omega, fun _ => trivial⟩⟩
      ·
        refine GO.iconst dX12_isClause_22 ?_
        refine GO.goto (tgt := 27) dX12_isClause_23 (by decide) ?_
        exact GO.retz rfl rfl dX12_isClause_27 (by omega) ⟨rfl, rfl, _, rfl, (ir_c rfl), ⟨by omega, fun h => by omega, fun _ => trivial⟩⟩

set_option maxHeartbeats 1000000 in
theorem t_X12_yes {K : Kmap} {V : Vmap} {x : Nat} {p0 : Int} {p1 : Int} (h_x : K x = some (0, 11)) (r_p0 : ir p0) (r_p1 : ir p1) : MC mX12_yes K V [.ref x, ti p0, ti p1] (IS K (fun X V1 => (X = 0 ∨ X = 1) ∧ (X ≠ 0 → True) ∧ (X = 0 → True))) := by
  refine MC.start 0 (by decide +kernel) rfl rfl rfl (ls0 := [some (.ref x), some (ti p0), some (ti p1)]) rfl ?_
  refine GO.aload_n dX12_yes_0 rfl rfl ?_
  refine GO.iload_n dX12_yes_1 rfl rfl ?_
  refine GO.callV (ci := 11) (N := mX12_isParty) dX12_yes_2 (RX12, TX12, 151) rfl gV_RX12_406 h_x (t_X12_isParty h_x r_p0) rfl [] rfl rfl (Nat.le_of_ble_eq_true rfl) rfl (k_ip fun X1 r2 h3 => ?_)
  refine GO.if_eq (tgt := 35) dX12_yes_5 (by decide) r2 (fun c4 => ?_) (fun c4 => ?_)
  ·
    have q5 := h3.2.2 (by omega)
    refine GO.iconst dX12_yes_35 ?_
    exact GO.retz rfl rfl dX12_yes_36 (by omega) ⟨rfl, _, rfl, (ir_c rfl), ⟨by omega, fun _ => trivial, fun _ => trivial⟩⟩
  ·
    have q6 := h3.2.1 (by omega)
    refine GO.aload_n dX12_yes_8 rfl rfl ?_
    refine GO.iload_n dX12_yes_9 rfl rfl ?_
    refine GO.callV (ci := 11) (N := mX12_isText) dX12_yes_10 (RX12, TX12, 151) rfl gV_RX12_541 h_x (t_X12_isText h_x r_p1) rfl [] rfl rfl (Nat.le_of_ble_eq_true rfl) rfl (k_ip fun X7 r8 h9 => ?_)
    refine GO.if_eq (tgt := 35) dX12_yes_13 (by decide) r8 (fun c10 => ?_) (fun c10 => ?_)
    ·
      refine GO.iconst dX12_yes_35 ?_
      exact GO.retz rfl rfl dX12_yes_36 (by omega) ⟨rfl, _, rfl, (ir_c rfl), ⟨by omega, fun _ => trivial, fun _ => trivial⟩⟩
    ·
      have q11 := h9.2.1 (by omega)
      refine GO.iload_n dX12_yes_16 rfl rfl ?_
      refine GO.if_eq (tgt := 35) dX12_yes_17 (by decide) r_p1 (fun c12 => ?_) (fun c12 => ?_)
      ·
        refine GO.iconst dX12_yes_35 ?_
        exact GO.retz rfl rfl dX12_yes_36 (by omega) ⟨rfl, _, rfl, (ir_c rfl), ⟨by omega, fun _ => trivial, fun _ => trivial⟩⟩
      ·
        refine GO.aload_n dX12_yes_20 rfl rfl ?_
        refine GO.getA (n := 180) h_x fl_RX12_142 rfl rfl rfl rfl dX12_yes_21 (fun hv14 h13 => ?_)
        refine GO.bipush dX12_yes_24 rfl ?_
        refine GO.iload_n dX12_yes_26 rfl rfl ?_
        refine GO.imul dX12_yes_27 ?_
        refine GO.iload_n dX12_yes_28 rfl rfl ?_
        refine GO.iadd dX12_yes_29 ?_
        have q15 : -2147483648 ≤ p1 ∧ p1 ≤ 2147483647 := r_p1
        have q16 : -2147483648 ≤ p0 ∧ p0 ≤ 2147483647 := r_p0
        have q17 : -2147483648 ≤ vi V x 9 ∧ vi V x 9 ≤ 2147483647 := vi_ir
        refine GO.iald (t := 50) rfl rfl h13 ⟨by omega, by omega⟩ (by omega) (by omega) dX12_yes_30 (fun _ _ => ?_)
        refine GO.iconst dX12_yes_31 ?_
        refine GO.icmp_eq (tgt := 37) dX12_yes_32 (by decide) vi_ir (ir_c rfl) (fun c18 => ?_) (fun c18 => ?_)
        ·
          refine GO.aload_n dX12_yes_37 rfl rfl ?_
          refine GO.getRaw h_x fl_RX12_142 hv14 dX12_yes_38 ?_
          refine GO.bipush dX12_yes_41 rfl ?_
          refine GO.iload_n dX12_yes_43 rfl rfl ?_
          refine GO.imul dX12_yes_44 ?_
          refine GO.iload_n dX12_yes_45 rfl rfl ?_
          refine GO.iadd dX12_yes_46 ?_
          refine GO.aload_n dX12_yes_47 rfl rfl ?_
          refine GO.getI h_x fl_RX12_396 rfl rfl dX12_yes_48 (fun l21 u22 => ?_)
          refine GO.iast (t := 50) rfl rfl (by decide +kernel) h13 ⟨by omega, by omega⟩ (by omega) (by omega) vi_ir (vi_ir).1 (vi_ir).2 dX12_yes_51 (fun V24 e23 => ?_)
          refine GO.iconst dX12_yes_52 ?_
          exact GO.retz rfl rfl dX12_yes_53 (by omega) ⟨rfl, _, rfl, (ir_c rfl), ⟨by omega, fun _ => trivial, fun _ => trivial⟩⟩
        ·
          refine GO.iconst dX12_yes_35 ?_
          exact GO.retz rfl rfl dX12_yes_36 (by omega) ⟨rfl, _, rfl, (ir_c rfl), ⟨by omega, fun _ => trivial, fun _ => trivial⟩⟩

set_option maxHeartbeats 1000000 in
theorem t_X12_reading {K : Kmap} {V : Vmap} {x : Nat} {p0 : Int} {p1 : Int} {p2 : Int} {p3 : Int} (h_x : K x = some (0, 11)) (r_p0 : ir p0) (r_p1 : ir p1) (r_p2 : ir p2) (r_p3 : ir p3) (w_0 : GX V x) : MC mX12_reading K V [.ref x, ti p0, ti p1, ti p2, ti p3] (IS K (fun X V1 => (X ≥ (-2147483648) ∧ X ≤ 2147483647) ∧ (GX V1 x))) := by
  refine MC.start 2 (by decide +kernel) rfl rfl rfl (ls0 := [some (.ref x), some (ti p0), some (ti p1), some (ti p2), some (ti p3), none, none]) rfl ?_
  refine GO.useWT (fun hW_0 => ?_)
  refine GO.useWT (fun hW1 => ?_)
  have aq2 := hW1.aq h_x
  refine GO.useWT (fun hW3 => ?_)
  have ak4 := hW3.arr h_x 39 32 (by decide) rfl (by decide)
  have ak5 := hW3.arr h_x 49 40 (by decide) rfl (by decide)
  have ak6 := hW3.arr h_x 50 41 (by decide) rfl (by decide)
  have ak7 := hW3.arr h_x 53 44 (by decide) rfl (by decide)
  have ak8 := hW3.arr h_x 54 45 (by decide) rfl (by decide)
  have ak9 := hW3.arr h_x 55 46 (by decide) rfl (by decide)
  have ak10 := hW3.arr h_x 60 51 (by decide) rfl (by decide)
  have ak11 := hW3.arr h_x 61 52 (by decide) rfl (by decide)
  have hcn := (hW1).cnt h_x
  refine GO.aload_n dX12_reading_0 rfl rfl ?_
  refine GO.iload_n dX12_reading_1 rfl rfl ?_
  refine GO.callV (ci := 11) (N := mX12_isParty) dX12_reading_2 (RX12, TX12, 151) rfl gV_RX12_406 h_x (t_X12_isParty h_x r_p0) rfl [] rfl rfl (Nat.le_of_ble_eq_true rfl) rfl (k_ip fun X12 r13 h14 => ?_)
  refine GO.if_eq (tgt := 63) dX12_reading_5 (by decide) r13 (fun c15 => ?_) (fun c15 => ?_)
  ·
    have q16 := h14.2.2 (by omega)
    refine GO.iconst dX12_reading_63 ?_
    exact GO.reti rfl rfl dX12_reading_64 ⟨rfl, _, rfl, (ir_c rfl), ⟨by omega, (by first | exact w_0 | exact GX.mk w_0 (by omega) (by omega) (rfl : ar 49 V x = ar 49 V x) (rfl : ar 50 V x = ar 50 V x) (rfl : ar 53 V x = ar 53 V x) (rfl : ar 54 V x = ar 54 V x) (rfl : ar 55 V x = ar 55 V x) (rfl : ar 60 V x = ar 60 V x) (rfl : ar 61 V x = ar 61 V x) | exact GX.reading hW_0 h_x w_0 (hg1.eq rfl (by omega)) (by omega) (by omega) (by omega) (by omega) (rfl : ar 61 V x = ar 61 V x) (by omega) (rfl : ar 60 V x = ar 60 V x) h60 (by omega) (rfl : ar 49 V x = ar 49 V x) (rfl : ar 50 V x = ar 50 V x) (rfl : ar 53 V x = ar 53 V x) (rfl : ar 54 V x = ar 54 V x) (rfl : ar 55 V x = ar 55 V x))⟩⟩
  ·
    have q17 := h14.2.1 (by omega)
    refine GO.aload_n dX12_reading_8 rfl rfl ?_
    refine GO.iload_n dX12_reading_9 rfl rfl ?_
    refine GO.iload_n dX12_reading_10 rfl rfl ?_
    refine GO.callV (ci := 11) (N := mX12_isClause) dX12_reading_11 (RX12, TX12, 151) rfl gV_RX12_544 h_x (t_X12_isClause h_x r_p1 r_p2) rfl [] rfl rfl (Nat.le_of_ble_eq_true rfl) rfl (k_ip fun X18 r19 h20 => ?_)
    refine GO.if_eq (tgt := 63) dX12_reading_14 (by decide) r19 (fun c21 => ?_) (fun c21 => ?_)
    ·
      refine GO.iconst dX12_reading_63 ?_
      exact GO.reti rfl rfl dX12_reading_64 ⟨rfl, _, rfl, (ir_c rfl), ⟨by omega, (by first | exact w_0 | exact GX.mk w_0 (by omega) (by omega) (rfl : ar 49 V x = ar 49 V x) (rfl : ar 50 V x = ar 50 V x) (rfl : ar 53 V x = ar 53 V x) (rfl : ar 54 V x = ar 54 V x) (rfl : ar 55 V x = ar 55 V x) (rfl : ar 60 V x = ar 60 V x) (rfl : ar 61 V x = ar 61 V x) | exact GX.reading hW_0 h_x w_0 (hg1.eq rfl (by omega)) (by omega) (by omega) (by omega) (by omega) (rfl : ar 61 V x = ar 61 V x) (by omega) (rfl : ar 60 V x = ar 60 V x) h60 (by omega) (rfl : ar 49 V x = ar 49 V x) (rfl : ar 50 V x = ar 50 V x) (rfl : ar 53 V x = ar 53 V x) (rfl : ar 54 V x = ar 54 V x) (rfl : ar 55 V x = ar 55 V x))⟩⟩
    ·
      have q22 := h20.2.1 (by omega)
      refine GO.aload_n dX12_reading_17 rfl rfl ?_
      refine GO.getA (n := 240) h_x fl_RX12_124 rfl rfl rfl rfl dX12_reading_18 (fun hv24 h23 => ?_)
      refine GO.bipush dX12_reading_21 rfl ?_
      refine GO.iload_n dX12_reading_23 rfl rfl ?_
      refine GO.imul dX12_reading_24 ?_
      refine GO.iload_n dX12_reading_25 rfl rfl ?_
      refine GO.iadd dX12_reading_26 ?_
      have q25 : -2147483648 ≤ p2 ∧ p2 ≤ 2147483647 := r_p2
      have q26 : -2147483648 ≤ p1 ∧ p1 ≤ 2147483647 := r_p1
      refine GO.iald (t := 44) rfl rfl h23 ⟨by omega, by omega⟩ (by omega) (by omega) dX12_reading_27 (fun _ _ => ?_)
      refine GO.callS (N := mX12_isAsking) dX12_reading_28 gS_RX12_520 (t_X12_isAsking vi_ir) rfl [] rfl rfl (Nat.le_of_ble_eq_true rfl) rfl (k_ip fun X27 r28 h29 => ?_)
      have raw_isAsking := h29.2.2.2
      have rw28 := h29.2.2.2
      refine GO.if_eq (tgt := 63) dX12_reading_31 (by decide) r28 (fun c30 => ?_) (fun c30 => ?_)
      ·
        have q31 := h29.2.2 (by omega)
        refine GO.iconst dX12_reading_63 ?_
        exact GO.reti rfl rfl dX12_reading_64 ⟨rfl, _, rfl, (ir_c rfl), ⟨by omega, (by first | exact w_0 | exact GX.mk w_0 (by omega) (by omega) (rfl : ar 49 V x = ar 49 V x) (rfl : ar 50 V x = ar 50 V x) (rfl : ar 53 V x = ar 53 V x) (rfl : ar 54 V x = ar 54 V x) (rfl : ar 55 V x = ar 55 V x) (rfl : ar 60 V x = ar 60 V x) (rfl : ar 61 V x = ar 61 V x) | exact GX.reading hW_0 h_x w_0 (hg1.eq rfl (by omega)) (by omega) (by omega) (by omega) (by omega) (rfl : ar 61 V x = ar 61 V x) (by omega) (rfl : ar 60 V x = ar 60 V x) h60 (by omega) (rfl : ar 49 V x = ar 49 V x) (rfl : ar 50 V x = ar 50 V x) (rfl : ar 53 V x = ar 53 V x) (rfl : ar 54 V x = ar 54 V x) (rfl : ar 55 V x = ar 55 V x))⟩⟩
      ·
        have q32 := h29.2.1 (by omega)
        refine GO.iload dX12_reading_34 rfl ?_
        refine GO.iconst dX12_reading_36 ?_
        refine GO.bipush dX12_reading_37 rfl ?_
        refine GO.callS (N := mX12_in) dX12_reading_39 gS_RX12_371 (t_X12_in r_p3 (ir_c rfl) (ir_c rfl)) rfl [] rfl rfl (Nat.le_of_ble_eq_true rfl) rfl (k_ip fun X33 r34 h35 => ?_)
        refine GO.if_eq (tgt := 63) dX12_reading_42 (by decide) r34 (fun c36 => ?_) (fun c36 => ?_)
        ·
          have q37 := h35.2.2 (by omega)
          refine GO.iconst dX12_reading_63 ?_
          exact GO.reti rfl rfl dX12_reading_64 ⟨rfl, _, rfl, (ir_c rfl), ⟨by omega, (by first | exact w_0 | exact GX.mk w_0 (by omega) (by omega) (rfl : ar 49 V x = ar 49 V x) (rfl : ar 50 V x = ar 50 V x) (rfl : ar 53 V x = ar 53 V x) (rfl : ar 54 V x = ar 54 V x) (rfl : ar 55 V x = ar 55 V x) (rfl : ar 60 V x = ar 60 V x) (rfl : ar 61 V x = ar 61 V x) | exact GX.reading hW_0 h_x w_0 (hg1.eq rfl (by omega)) (by omega) (by omega) (by omega) (by omega) (rfl : ar 61 V x = ar 61 V x) (by omega) (rfl : ar 60 V x = ar 60 V x) h60 (by omega) (rfl : ar 49 V x = ar 49 V x) (rfl : ar 50 V x = ar 50 V x) (rfl : ar 53 V x = ar 53 V x) (rfl : ar 54 V x = ar 54 V x) (rfl : ar 55 V x = ar 55 V x))⟩⟩
        ·
          have q38 := h35.2.1 (by omega)
          refine GO.iload dX12_reading_45 rfl ?_
          refine GO.aload_n dX12_reading_47 rfl rfl ?_
          refine GO.getI h_x fl_RX12_436 rfl rfl dX12_reading_48 (fun l39 u40 => ?_)
          refine GO.icmp_gt (tgt := 63) dX12_reading_51 (by decide) r_p3 vi_ir (fun c41 => ?_) (fun c41 => ?_)
          ·
            refine GO.iconst dX12_reading_63 ?_
            exact GO.reti rfl rfl dX12_reading_64 ⟨rfl, _, rfl, (ir_c rfl), ⟨by omega, (by first | exact w_0 | exact GX.mk w_0 (by omega) (by omega) (rfl : ar 49 V x = ar 49 V x) (rfl : ar 50 V x = ar 50 V x) (rfl : ar 53 V x = ar 53 V x) (rfl : ar 54 V x = ar 54 V x) (rfl : ar 55 V x = ar 55 V x) (rfl : ar 60 V x = ar 60 V x) (rfl : ar 61 V x = ar 61 V x) | exact GX.reading hW_0 h_x w_0 (hg1.eq rfl (by omega)) (by omega) (by omega) (by omega) (by omega) (rfl : ar 61 V x = ar 61 V x) (by omega) (rfl : ar 60 V x = ar 60 V x) h60 (by omega) (rfl : ar 49 V x = ar 49 V x) (rfl : ar 50 V x = ar 50 V x) (rfl : ar 53 V x = ar 53 V x) (rfl : ar 54 V x = ar 54 V x) (rfl : ar 55 V x = ar 55 V x))⟩⟩
          ·
            refine GO.aload_n dX12_reading_54 rfl rfl ?_
            refine GO.getI h_x fl_RX12_547 rfl rfl dX12_reading_55 (fun l42 u43 => ?_)
            refine GO.bipush dX12_reading_58 rfl ?_
            refine GO.icmp_ne (tgt := 65) dX12_reading_60 (by decide) vi_ir (ir_c rfl) (fun c44 => ?_) (fun c44 => ?_)
            ·
              refine GO.aload_n dX12_reading_65 rfl rfl ?_
              refine GO.iconst dX12_reading_66 ?_
              refine GO.putI h_x fp_RX12_443 rfl (by decide +kernel) (ir_c rfl) (by decide) (by decide) dX12_reading_67 (fun V46 e45 => ?_)
              have k47 := st_fld e45 aq2 h_x (by decide) (by decide)
              have sS48 : sd V46 x = sd V x := k47.2.1.trans (rfl : sd V x = sd V x)
              have sQ49 : wt V46 x = wt V x := k47.2.2.trans (rfl : wt V x = wt V x)
              have ak50 := tk_fld e45 ak4 h_x (by decide) (rfl : ar 39 V x = ar 39 V x)
              have ak51 := tk_fld e45 ak5 h_x (by decide) (rfl : ar 49 V x = ar 49 V x)
              have ak52 := tk_fld e45 ak6 h_x (by decide) (rfl : ar 50 V x = ar 50 V x)
              have ak53 := tk_fld e45 ak7 h_x (by decide) (rfl : ar 53 V x = ar 53 V x)
              have ak54 := tk_fld e45 ak8 h_x (by decide) (rfl : ar 54 V x = ar 54 V x)
              have ak55 := tk_fld e45 ak9 h_x (by decide) (rfl : ar 55 V x = ar 55 V x)
              have ak56 := tk_fld e45 ak10 h_x (by decide) (rfl : ar 60 V x = ar 60 V x)
              have ak57 := tk_fld e45 ak11 h_x (by decide) (rfl : ar 61 V x = ar 61 V x)
              refine GO.aload_n dX12_reading_70 rfl rfl ?_
              refine GO.iload dX12_reading_71 rfl ?_
              have q59 : -2147483648 ≤ p3 ∧ p3 ≤ 2147483647 := r_p3
              refine GO.putI h_x fp_RX12_446 rfl (by decide +kernel) r_p3 (by omega) (by omega) dX12_reading_73 (fun V60 e58 => ?_)
              have k61 := st_fld e58 k47.1 h_x (by decide) (by decide)
              have sS62 : sd V60 x = sd V x := k61.2.1.trans sS48
              have sQ63 : wt V60 x = wt V x := k61.2.2.trans sQ49
              have ak64 := tk_fld e58 ak50.1 h_x (by decide) ak50.2
              have ak65 := tk_fld e58 ak51.1 h_x (by decide) ak51.2
              have ak66 := tk_fld e58 ak52.1 h_x (by decide) ak52.2
              have ak67 := tk_fld e58 ak53.1 h_x (by decide) ak53.2
              have ak68 := tk_fld e58 ak54.1 h_x (by decide) ak54.2
              have ak69 := tk_fld e58 ak55.1 h_x (by decide) ak55.2
              have ak70 := tk_fld e58 ak56.1 h_x (by decide) ak56.2
              have ak71 := tk_fld e58 ak57.1 h_x (by decide) ak57.2
              refine GO.aload_n dX12_reading_76 rfl rfl ?_
              refine GO.iconst dX12_reading_77 ?_
              refine GO.putI h_x fp_RX12_466 rfl (by decide +kernel) (ir_c rfl) (by decide) (by decide) dX12_reading_78 (fun V73 e72 => ?_)
              have k74 := st_fld e72 k61.1 h_x (by decide) (by decide)
              have sS75 : sd V73 x = sd V x := k74.2.1.trans sS62
              have sQ76 : wt V73 x = wt V x := k74.2.2.trans sQ63
              have ak77 := tk_fld e72 ak64.1 h_x (by decide) ak64.2
              have ak78 := tk_fld e72 ak65.1 h_x (by decide) ak65.2
              have ak79 := tk_fld e72 ak66.1 h_x (by decide) ak66.2
              have ak80 := tk_fld e72 ak67.1 h_x (by decide) ak67.2
              have ak81 := tk_fld e72 ak68.1 h_x (by decide) ak68.2
              have ak82 := tk_fld e72 ak69.1 h_x (by decide) ak69.2
              have ak83 := tk_fld e72 ak70.1 h_x (by decide) ak70.2
              have ak84 := tk_fld e72 ak71.1 h_x (by decide) ak71.2
              refine GO.aload_n dX12_reading_81 rfl rfl ?_
              have e85 : vi V73 x 36 = 0 := upd2_int e72 (ir_c rfl)
              have e88 : vi V46 x 31 = 0 := upd2_int e45 (ir_c rfl)
              have e87 : vi V60 x 31 = vi V46 x 31 := vi_up e58 (Or.inr (by decide))
              have e86 : vi V73 x 31 = vi V60 x 31 := vi_up e72 (Or.inr (by decide))
              refine GO.callV (ci := 11) (N := mX12_readsCondition) dX12_reading_82 (RX12, TX12, 151) rfl gV_RX12_529 h_x (t_X12_readsCondition h_x (by omega) (⟨rfl, fun _ _ => rfl⟩)) rfl [] rfl rfl (Nat.le_of_ble_eq_true rfl) rfl (k_is fun X89 V93 r90 h91 hF92 => ?_)
              refine GO.useWT (fun hW94 => ?_)
              have aq95 := hW94.aq h_x
              have ak96 := tk_fr hF92 ak78.1 h_x (by decide +kernel) (by decide +kernel) ak78.2
              have ak97 := tk_fr hF92 ak79.1 h_x (by decide +kernel) (by decide +kernel) ak79.2
              have ak98 := tk_fr hF92 ak80.1 h_x (by decide +kernel) (by decide +kernel) ak80.2
              have ak99 := tk_fr hF92 ak81.1 h_x (by decide +kernel) (by decide +kernel) ak81.2
              have ak100 := tk_fr hF92 ak82.1 h_x (by decide +kernel) (by decide +kernel) ak82.2
              have ak101 := tk_fr hF92 ak83.1 h_x (by decide +kernel) (by decide +kernel) ak83.2
              have ak102 := tk_fr hF92 ak84.1 h_x (by decide +kernel) (by decide +kernel) ak84.2
              refine GO.useWT (fun hW103 => ?_)
              have ak104 := hW103.arr h_x 39 32 (by decide) rfl (by decide)
              have raw_readsCondition := h91.2.2.2.1
              have rq0_82 := h91.2.2.2.2
              have rw82 := h91.2.2.2.1
              refine GO.if_eq (tgt := 115) dX12_reading_85 (by decide) r90 (fun c106 => ?_) (fun c106 => ?_)
              ·
                refine GO.iconst dX12_reading_115 ?_
                refine GO.istore (ls1 := [some (.ref x), some (ti p0), some (ti p1), some (ti p2), some (ti p3), some (ti 0), none]) dX12_reading_116 rfl rfl ?_
                refine GO.aload_n dX12_reading_118 rfl rfl ?_
                refine GO.iconst dX12_reading_119 ?_
                refine GO.putI h_x fp_RX12_436 rfl (by decide +kernel) (ir_c rfl) (by decide) (by decide) dX12_reading_120 (fun V108 e107 => ?_)
                have k109 := st_fld e107 aq95 h_x (by decide) (by decide)
                have sS110 : sd V108 x = sd V93 x := k109.2.1.trans (rfl : sd V93 x = sd V93 x)
                have sQ111 : wt V108 x = wt V93 x := k109.2.2.trans (rfl : wt V93 x = wt V93 x)
                have ak112 := tk_fld e107 ak104 h_x (by decide) (rfl : ar 39 V93 x = ar 39 V93 x)
                have ak113 := tk_fld e107 ak96.1 h_x (by decide) ak96.2
                have ak114 := tk_fld e107 ak97.1 h_x (by decide) ak97.2
                have ak115 := tk_fld e107 ak98.1 h_x (by decide) ak98.2
                have ak116 := tk_fld e107 ak99.1 h_x (by decide) ak99.2
                have ak117 := tk_fld e107 ak100.1 h_x (by decide) ak100.2
                have ak118 := tk_fld e107 ak101.1 h_x (by decide) ak101.2
                have ak119 := tk_fld e107 ak102.1 h_x (by decide) ak102.2
                refine GO.iload dX12_reading_123 rfl ?_
                refine GO.if_ne (tgt := 133) dX12_reading_125 (by decide) (ir_c rfl) (fun h => by exfalso; omega) (fun c120 => ?_)
                refine GO.aload_n dX12_reading_128 rfl rfl ?_
                refine GO.getI h_x fl_RX12_453 rfl rfl dX12_reading_129 (fun _ _ => ?_)
                have q123 : -2147483648 ≤ vi V108 x 33 ∧ vi V108 x 33 ≤ 2147483647 := vi_ir
                have e128 : vi V46 x 47 = vi V x 47 := vi_up e45 (Or.inr (by decide))
                have e127 : vi V60 x 47 = vi V46 x 47 := vi_up e58 (Or.inr (by decide))
                have e126 : vi V73 x 47 = vi V60 x 47 := vi_up e72 (Or.inr (by decide))
                have e125 : vi V93 x 47 = vi V73 x 47 := vi_fr hF92 h_x h_x (by decide +kernel)
                have e124 : vi V108 x 47 = vi V93 x 47 := vi_up e107 (Or.inr (by decide))
                have e133 : vi V46 x 48 = vi V x 48 := vi_up e45 (Or.inr (by decide))
                have e132 : vi V60 x 48 = vi V46 x 48 := vi_up e58 (Or.inr (by decide))
                have e131 : vi V73 x 48 = vi V60 x 48 := vi_up e72 (Or.inr (by decide))
                have e130 : vi V93 x 48 = vi V73 x 48 := vi_fr hF92 h_x h_x (by decide +kernel)
                have e129 : vi V108 x 48 = vi V93 x 48 := vi_up e107 (Or.inr (by decide))
                exact GO.reti rfl rfl dX12_reading_132 ⟨rfl, _, rfl, vi_ir, ⟨by omega, (by first | exact w_0 | exact GX.mk w_0 (by omega) (by omega) ak113.2 ak114.2 ak115.2 ak116.2 ak117.2 ak118.2 ak119.2 | exact GX.reading hW_0 h_x w_0 (hg1.eq rfl (by omega)) (by omega) (by omega) (by omega) (by omega) ak119.2 (by omega) ak118.2 h60 (by omega) ak113.2 ak114.2 ak115.2 ak116.2 ak117.2)⟩⟩
              ·
                have q134 := h91.2.1 (by omega)
                have hgs := RF.gs (raw_readsCondition (by omega))
                have hgs1 := hgs.2.2.2.1
                have hgs2 := hgs.2.2.1
                refine GO.aload_n dX12_reading_88 rfl rfl ?_
                refine GO.getI h_x fl_RX12_443 rfl rfl dX12_reading_89 (fun l136 u137 => ?_)
                refine GO.aload_n dX12_reading_92 rfl rfl ?_
                refine GO.getI h_x fl_RX12_446 rfl rfl dX12_reading_93 (fun l138 u139 => ?_)
                have e142 : vi V60 x 32 = p3 := upd2_int e58 r_p3
                have e141 : vi V73 x 32 = vi V60 x 32 := vi_up e72 (Or.inr (by decide))
                have e140 : vi V93 x 32 = vi V73 x 32 := vi_fr hF92 h_x h_x (by decide +kernel)
                refine GO.icmp_eq (tgt := 111) dX12_reading_96 (by decide) vi_ir vi_ir (fun c143 => ?_) (fun c143 => ?_)
                ·
                  refine GO.iconst dX12_reading_111 ?_
                  refine GO.goto (tgt := 116) dX12_reading_112 (by decide) ?_
                  refine GO.istore (ls1 := [some (.ref x), some (ti p0), some (ti p1), some (ti p2), some (ti p3), some (ti 1), none]) dX12_reading_116 rfl rfl ?_
                  refine GO.aload_n dX12_reading_118 rfl rfl ?_
                  refine GO.iconst dX12_reading_119 ?_
                  refine GO.putI h_x fp_RX12_436 rfl (by decide +kernel) (ir_c rfl) (by decide) (by decide) dX12_reading_120 (fun V145 e144 => ?_)
                  have k146 := st_fld e144 aq95 h_x (by decide) (by decide)
                  have sS147 : sd V145 x = sd V93 x := k146.2.1.trans (rfl : sd V93 x = sd V93 x)
                  have sQ148 : wt V145 x = wt V93 x := k146.2.2.trans (rfl : wt V93 x = wt V93 x)
                  have ak149 := tk_fld e144 ak104 h_x (by decide) (rfl : ar 39 V93 x = ar 39 V93 x)
                  have ak150 := tk_fld e144 ak96.1 h_x (by decide) ak96.2
                  have ak151 := tk_fld e144 ak97.1 h_x (by decide) ak97.2
                  have ak152 := tk_fld e144 ak98.1 h_x (by decide) ak98.2
                  have ak153 := tk_fld e144 ak99.1 h_x (by decide) ak99.2
                  have ak154 := tk_fld e144 ak100.1 h_x (by decide) ak100.2
                  have ak155 := tk_fld e144 ak101.1 h_x (by decide) ak101.2
                  have ak156 := tk_fld e144 ak102.1 h_x (by decide) ak102.2
                  refine GO.iload dX12_reading_123 rfl ?_
                  refine GO.if_ne (tgt := 133) dX12_reading_125 (by decide) (ir_c rfl) (fun c157 => ?_) (fun h => by exfalso; omega)
                  have e158 : vi V145 x 36 = vi V93 x 36 := vi_up e144 (Or.inr (by decide))
                  have e163 : vi V46 x 48 = vi V x 48 := vi_up e45 (Or.inr (by decide))
                  have e162 : vi V60 x 48 = vi V46 x 48 := vi_up e58 (Or.inr (by decide))
                  have e161 : vi V73 x 48 = vi V60 x 48 := vi_up e72 (Or.inr (by decide))
                  have e160 : vi V93 x 48 = vi V73 x 48 := vi_fr hF92 h_x h_x (by decide +kernel)
                  have e159 : vi V145 x 48 = vi V93 x 48 := vi_up e144 (Or.inr (by decide))
                  have e168 : vi V46 x 47 = vi V x 47 := vi_up e45 (Or.inr (by decide))
                  have e167 : vi V60 x 47 = vi V46 x 47 := vi_up e58 (Or.inr (by decide))
                  have e166 : vi V73 x 47 = vi V60 x 47 := vi_up e72 (Or.inr (by decide))
                  have e165 : vi V93 x 47 = vi V73 x 47 := vi_fr hF92 h_x h_x (by decide +kernel)
                  have e164 : vi V145 x 47 = vi V93 x 47 := vi_up e144 (Or.inr (by decide))
                  have hm39 := ak149.2
                  have hg1 := (hgs.1.eq (a1 := 0) (by omega) rfl).cong (fun j _ _ => (congrFun ak149.2 j).symm)
                  refine GO.aload_n dX12_reading_133 rfl rfl ?_
                  refine GO.getA (n := 20) h_x fl_RX12_151 rfl rfl rfl rfl dX12_reading_134 (fun hv170 h169 => ?_)
                  refine GO.aload_n dX12_reading_137 rfl rfl ?_
                  refine GO.getI h_x fl_RX12_547 rfl rfl dX12_reading_138 (fun l171 u172 => ?_)
                  refine GO.iload_n dX12_reading_141 rfl rfl ?_
                  have q173 : -2147483648 ≤ vi V x 48 ∧ vi V x 48 ≤ 2147483647 := vi_ir
                  refine GO.iast (t := 53) rfl rfl (by decide +kernel) h169 vi_ir (by omega) (by omega) r_p0 (r_p0).1 (r_p0).2 dX12_reading_142 (fun V175 e174 => ?_)
                  have k176 := st_oth e174 k146.1 h_x h169 (by decide) (by decide)
                  have sS177 : sd V175 x = sd V93 x := k176.2.1.trans sS147
                  have sQ178 : wt V175 x = wt V93 x := k176.2.2.trans sQ148
                  have ak179 := tk_oth e174 ak149.1 h_x h169 (by decide) (by decide) ak149.2
                  have ak180 := tk_oth e174 ak150.1 h_x h169 (by decide) (by decide) ak150.2
                  have ak181 := tk_oth e174 ak151.1 h_x h169 (by decide) (by decide) ak151.2
                  have ak182 := tk_oth e174 ak152.1 h_x h169 (by decide) (by decide) ak152.2
                  have ak183 := tk_oth e174 ak153.1 h_x h169 (by decide) (by decide) ak153.2
                  have ak184 := tk_oth e174 ak154.1 h_x h169 (by decide) (by decide) ak154.2
                  have ak185 := tk_oth e174 ak155.1 h_x h169 (by decide) (by decide) ak155.2
                  have ak186 := tk_oth e174 ak156.1 h_x h169 (by decide) (by decide) ak156.2
                  refine GO.aload_n dX12_reading_143 rfl rfl ?_
                  refine GO.getA (n := 20) h_x fl_RX12_154 rfl rfl rfl rfl dX12_reading_144 (fun hv188 h187 => ?_)
                  refine GO.aload_n dX12_reading_147 rfl rfl ?_
                  refine GO.getI h_x fl_RX12_547 rfl rfl dX12_reading_148 (fun l189 u190 => ?_)
                  have e191 : vi V175 x 48 = vi V145 x 48 := vi_up e174 (Or.inl (K_ne h_x h169 (by decide)))
                  refine GO.bipush dX12_reading_151 rfl ?_
                  refine GO.iload_n dX12_reading_153 rfl rfl ?_
                  refine GO.imul dX12_reading_154 ?_
                  refine GO.iload_n dX12_reading_155 rfl rfl ?_
                  refine GO.iadd dX12_reading_156 ?_
                  refine GO.iast (t := 54) rfl rfl (by decide +kernel) h187 vi_ir (by omega) (by omega) ⟨by omega, by omega⟩ (by omega) (by omega) dX12_reading_157 (fun V193 e192 => ?_)
                  have k194 := st_oth e192 k176.1 h_x h187 (by decide) (by decide)
                  have sS195 : sd V193 x = sd V93 x := k194.2.1.trans sS177
                  have sQ196 : wt V193 x = wt V93 x := k194.2.2.trans sQ178
                  have ak197 := tk_oth e192 ak179.1 h_x h187 (by decide) (by decide) ak179.2
                  have ak198 := tk_oth e192 ak180.1 h_x h187 (by decide) (by decide) ak180.2
                  have ak199 := tk_oth e192 ak181.1 h_x h187 (by decide) (by decide) ak181.2
                  have ak200 := tk_oth e192 ak182.1 h_x h187 (by decide) (by decide) ak182.2
                  have ak201 := tk_oth e192 ak183.1 h_x h187 (by decide) (by decide) ak183.2
                  have ak202 := tk_oth e192 ak184.1 h_x h187 (by decide) (by decide) ak184.2
                  have ak203 := tk_oth e192 ak185.1 h_x h187 (by decide) (by decide) ak185.2
                  have ak204 := tk_oth e192 ak186.1 h_x h187 (by decide) (by decide) ak186.2
                  refine GO.aload_n dX12_reading_158 rfl rfl ?_
                  refine GO.getA (n := 20) h_x fl_RX12_148 rfl rfl rfl rfl dX12_reading_159 (fun hv206 h205 => ?_)
                  refine GO.aload_n dX12_reading_162 rfl rfl ?_
                  refine GO.getI h_x fl_RX12_547 rfl rfl dX12_reading_163 (fun l207 u208 => ?_)
                  have e209 : vi V193 x 48 = vi V175 x 48 := vi_up e192 (Or.inl (K_ne h_x h187 (by decide)))
                  refine GO.aload_n dX12_reading_166 rfl rfl ?_
                  refine GO.getI h_x fl_RX12_466 rfl rfl dX12_reading_167 (fun l210 u211 => ?_)
                  have e213 : vi V175 x 36 = vi V145 x 36 := vi_up e174 (Or.inl (K_ne h_x h169 (by decide)))
                  have e212 : vi V193 x 36 = vi V175 x 36 := vi_up e192 (Or.inl (K_ne h_x h187 (by decide)))
                  have q215 : -2147483648 ≤ vi V93 x 36 ∧ vi V93 x 36 ≤ 2147483647 := vi_ir
                  have q216 : -2147483648 ≤ vi V93 x 31 ∧ vi V93 x 31 ≤ 2147483647 := vi_ir
                  refine GO.iast (t := 52) rfl rfl (by decide +kernel) h205 vi_ir (by omega) (by omega) vi_ir (by omega) (by omega) dX12_reading_170 (fun V217 e214 => ?_)
                  have k218 := st_oth e214 k194.1 h_x h205 (by decide) (by decide)
                  have sS219 : sd V217 x = sd V93 x := k218.2.1.trans sS195
                  have sQ220 : wt V217 x = wt V93 x := k218.2.2.trans sQ196
                  have ak221 := tk_oth e214 ak197.1 h_x h205 (by decide) (by decide) ak197.2
                  have ak222 := tk_oth e214 ak198.1 h_x h205 (by decide) (by decide) ak198.2
                  have ak223 := tk_oth e214 ak199.1 h_x h205 (by decide) (by decide) ak199.2
                  have ak224 := tk_oth e214 ak200.1 h_x h205 (by decide) (by decide) ak200.2
                  have ak225 := tk_oth e214 ak201.1 h_x h205 (by decide) (by decide) ak201.2
                  have ak226 := tk_oth e214 ak202.1 h_x h205 (by decide) (by decide) ak202.2
                  have ak227 := tk_oth e214 ak203.1 h_x h205 (by decide) (by decide) ak203.2
                  have ak228 := tk_put e214 ak204.1 h_x (vq_of hv206) vi_ir ak204.2
                  refine GO.iconst dX12_reading_171 ?_
                  refine GO.istore (ls1 := [some (.ref x), some (ti p0), some (ti p1), some (ti p2), some (ti p3), some (ti 1), some (ti 0)]) dX12_reading_172 rfl rfl ?_
                  have e232 : vi V175 x 47 = vi V145 x 47 := vi_up e174 (Or.inl (K_ne h_x h169 (by decide)))
                  have e231 : vi V193 x 47 = vi V175 x 47 := vi_up e192 (Or.inl (K_ne h_x h187 (by decide)))
                  have e230 : vi V217 x 47 = vi V193 x 47 := vi_up e214 (Or.inl (K_ne h_x h205 (by decide)))
                  have q233 : -2147483648 ≤ vi V x 47 ∧ vi V x 47 ≤ 2147483647 := vi_ir
                  have e234 : vi V217 x 48 = vi V193 x 48 := vi_up e214 (Or.inl (K_ne h_x h205 (by decide)))
                  have e235 : vi V217 x 36 = vi V193 x 36 := vi_up e214 (Or.inl (K_ne h_x h205 (by decide)))
                  refine GO.loop1 (fun i229 W => 0 ≤ i229 ∧ i229 ≤ 100 ∧ (vi W x 47 = vi V217 x 47 ∧ vi W x 48 = vi V217 x 48 ∧ vi W x 36 = vi V145 x 36) ∧ (CPf (ar 60 V x) (ar 39 V145 x) (ar 60 W x) (110 * vi V x 48) 0 i229) ∧ ar 39 W x = ar 39 V93 x ∧ ar 49 W x = ar 49 V x ∧ ar 50 W x = ar 50 V x ∧ ar 53 W x = ar 53 V x ∧ ar 54 W x = ar 54 V x ∧ ar 55 W x = ar 55 V x ∧ ar 61 W x = updf (ar 61 V x) (vi V193 x 48).toNat (vi V193 x 36) ∧ True) (fun i229 => [some (.ref x), some (ti p0), some (ti p1), some (ti p2), some (ti p3), some (ti 1), some (ti i229)]) (fun i229 W => (2147483647 - i229).toNat) 0 ⟨by omega, by omega, by omega, (by first | exact CPf.rf.at ak227.2 | exact CPf.put h60 (by omega) (by omega) ak227.2 (by omega) (by omega) (by omega)), ak221.2, ak222.2, ak223.2, ak224.2, ak225.2, ak226.2, ak228.2, trivial⟩ rfl (fun i229 Wi229 hp633 ih632 => ?_)
                  obtain ⟨l_i229, u_i229, n_i229, h60, kp634, kp635, kp636, kp637, kp638, kp639, kp640, -⟩ := hp633
                  have r_i229 : ir i229 := ⟨by omega, by omega⟩
                  show GO mX12_reading K V (IS K (fun X V1 => (X ≥ (-2147483648) ∧ X ≤ 2147483647) ∧ (GX V1 x))) K Wi229 0 0 174 [some (.ref x), some (ti p0), some (ti p1), some (ti p2), some (ti p3), some (ti 1), some (ti i229)] []
                  refine GO.useWT (fun hW641 => ?_)
                  have aq642 := hW641.aq h_x
                  refine GO.useWT (fun hW643 => ?_)
                  have ak644 := hW643.arr h_x 39 32 (by decide) rfl (by decide)
                  have ak645 := hW643.arr h_x 49 40 (by decide) rfl (by decide)
                  have ak646 := hW643.arr h_x 50 41 (by decide) rfl (by decide)
                  have ak647 := hW643.arr h_x 53 44 (by decide) rfl (by decide)
                  have ak648 := hW643.arr h_x 54 45 (by decide) rfl (by decide)
                  have ak649 := hW643.arr h_x 55 46 (by decide) rfl (by decide)
                  have ak650 := hW643.arr h_x 60 51 (by decide) rfl (by decide)
                  have ak651 := hW643.arr h_x 61 52 (by decide) rfl (by decide)
                  refine GO.iload dX12_reading_174 rfl ?_
                  refine GO.aload_n dX12_reading_176 rfl rfl ?_
                  refine GO.getI h_x fl_RX12_466 rfl rfl dX12_reading_177 (fun l652 u653 => ?_)
                  refine GO.icmp_ge (tgt := 211) dX12_reading_180 (by decide) r_i229 vi_ir (fun c654 => ?_) (fun c654 => ?_)
                  ·
                    refine GO.aload_n dX12_reading_211 rfl rfl ?_
                    refine GO.aload_n dX12_reading_212 rfl rfl ?_
                    refine GO.getI h_x fl_RX12_547 rfl rfl dX12_reading_213 (fun l655 u656 => ?_)
                    refine GO.iconst dX12_reading_216 ?_
                    refine GO.iadd dX12_reading_217 ?_
                    have q658 : -2147483648 ≤ vi Wi229 x 48 ∧ vi Wi229 x 48 ≤ 2147483647 := vi_ir
                    refine GO.putI h_x fp_RX12_547 rfl (by decide +kernel) ⟨by omega, by omega⟩ (by omega) (by omega) dX12_reading_218 (fun V659 e657 => ?_)
                    have k660 := st_fld e657 aq642 h_x (by decide) (by decide)
                    have sS661 : sd V659 x = sd Wi229 x := k660.2.1.trans (rfl : sd Wi229 x = sd Wi229 x)
                    have sQ662 : wt V659 x = wt Wi229 x := k660.2.2.trans (rfl : wt Wi229 x = wt Wi229 x)
                    have ak663 := tk_fld e657 ak644 h_x (by decide) kp634
                    have ak664 := tk_fld e657 ak645 h_x (by decide) kp635
                    have ak665 := tk_fld e657 ak646 h_x (by decide) kp636
                    have ak666 := tk_fld e657 ak647 h_x (by decide) kp637
                    have ak667 := tk_fld e657 ak648 h_x (by decide) kp638
                    have ak668 := tk_fld e657 ak649 h_x (by decide) kp639
                    have ak669 := tk_fld e657 ak650 h_x (by decide) (rfl : ar 60 Wi229 x = ar 60 Wi229 x)
                    have ak670 := tk_fld e657 ak651 h_x (by decide) kp640
                    refine GO.iconst dX12_reading_221 ?_
                    have e671 : vi V659 x 47 = vi Wi229 x 47 := vi_up e657 (Or.inr (by decide))
                    have e672 : vi V659 x 48 = (vi Wi229 x 48) + 1 := upd2_int e657 ⟨by omega, by omega⟩
                    exact GO.reti rfl rfl dX12_reading_222 ⟨rfl, _, rfl, (ir_c rfl), ⟨by omega, (by first | exact w_0 | exact GX.mk w_0 (by omega) (by omega) ak664.2 ak665.2 ak666.2 ak667.2 ak668.2 ak669.2 ak670.2 | exact GX.reading hW_0 h_x w_0 (hg1.eq rfl (by omega)) (by omega) (by omega) (by omega) (by omega) ak670.2 (by omega) ak669.2 h60 (by omega) ak664.2 ak665.2 ak666.2 ak667.2 ak668.2)⟩⟩
                  ·
                    refine GO.aload_n dX12_reading_183 rfl rfl ?_
                    refine GO.getA (n := 2200) h_x fl_RX12_145 rfl rfl rfl rfl dX12_reading_184 (fun hv674 h673 => ?_)
                    refine GO.bipush dX12_reading_187 rfl ?_
                    refine GO.aload_n dX12_reading_189 rfl rfl ?_
                    refine GO.getI h_x fl_RX12_547 rfl rfl dX12_reading_190 (fun l675 u676 => ?_)
                    refine GO.imul dX12_reading_193 ?_
                    refine GO.iload dX12_reading_194 rfl ?_
                    refine GO.iadd dX12_reading_196 ?_
                    refine GO.aload_n dX12_reading_197 rfl rfl ?_
                    refine GO.getA (n := 220) h_x fl_RX12_88 rfl rfl rfl rfl dX12_reading_198 (fun hv678 h677 => ?_)
                    refine GO.iload dX12_reading_201 rfl ?_
                    have hl39 : vi Wi229 (vq Wi229 x 39) (i229).toNat = ar 39 V145 x (i229).toNat := (congrFun kp634 (i229).toNat).trans (congrFun hm39 (i229).toNat).symm
                    have q679 : -2147483648 ≤ vi Wi229 x 36 ∧ vi Wi229 x 36 ≤ 2147483647 := vi_ir
                    refine GO.iald (t := 32) rfl rfl h677 r_i229 (by omega) (by omega) dX12_reading_203 (fun l680 u681 => ?_)
                    have q682 : -2147483648 ≤ vi Wi229 x 48 ∧ vi Wi229 x 48 ≤ 2147483647 := vi_ir
                    refine GO.iast (t := 51) rfl rfl (by decide +kernel) h673 ⟨by omega, by omega⟩ (by omega) (by omega) vi_ir (by omega) (by omega) dX12_reading_204 (fun V684 e683 => ?_)
                    have k685 := st_oth e683 aq642 h_x h673 (by decide) (by decide)
                    have sS686 : sd V684 x = sd Wi229 x := k685.2.1.trans (rfl : sd Wi229 x = sd Wi229 x)
                    have sQ687 : wt V684 x = wt Wi229 x := k685.2.2.trans (rfl : wt Wi229 x = wt Wi229 x)
                    have ak688 := tk_oth e683 ak644 h_x h673 (by decide) (by decide) kp634
                    have ak689 := tk_oth e683 ak645 h_x h673 (by decide) (by decide) kp635
                    have ak690 := tk_oth e683 ak646 h_x h673 (by decide) (by decide) kp636
                    have ak691 := tk_oth e683 ak647 h_x h673 (by decide) (by decide) kp637
                    have ak692 := tk_oth e683 ak648 h_x h673 (by decide) (by decide) kp638
                    have ak693 := tk_oth e683 ak649 h_x h673 (by decide) (by decide) kp639
                    have ak694 := tk_put e683 ak650 h_x (vq_of hv674) vi_ir (rfl : ar 60 Wi229 x = ar 60 Wi229 x)
                    have ak695 := tk_oth e683 ak651 h_x h673 (by decide) (by decide) kp640
                    refine GO.iinc (X := i229) (n := 1) (Y := i229 + 1) (ls1 := [some (.ref x), some (ti p0), some (ti p1), some (ti p2), some (ti p3), some (ti 1), some (ti (i229 + 1))]) dX12_reading_205 rfl rfl rfl rfl ?_
                    refine GO.goto (tgt := 174) dX12_reading_208 (by decide) ?_
                    have e696 : vi V684 x 47 = vi Wi229 x 47 := vi_up e683 (Or.inl (K_ne h_x h673 (by decide)))
                    have q697 : -2147483648 ≤ vi Wi229 x 47 ∧ vi Wi229 x 47 ≤ 2147483647 := vi_ir
                    have e698 : vi V684 x 48 = vi Wi229 x 48 := vi_up e683 (Or.inl (K_ne h_x h673 (by decide)))
                    have e699 : vi V684 x 36 = vi Wi229 x 36 := vi_up e683 (Or.inl (K_ne h_x h673 (by decide)))
                    exact ih632 (i229 + 1) V684 ⟨by omega, by omega, by omega, (by first | exact CPf.rf.at ak694.2 | exact CPf.put h60 (by omega) (by omega) ak694.2 (by omega) (by omega) (by omega)), ak688.2, ak689.2, ak690.2, ak691.2, ak692.2, ak693.2, ak695.2, trivial⟩ (by show (2147483647 - (i229 + 1)).toNat < (2147483647 - i229).toNat; omega)
                ·
                  refine GO.aload_n dX12_reading_99 rfl rfl ?_
                  refine GO.iconst dX12_reading_100 ?_
                  refine GO.aload_n dX12_reading_101 rfl rfl ?_
                  refine GO.getI h_x fl_RX12_443 rfl rfl dX12_reading_102 (fun l700 u701 => ?_)
                  have q702 : -2147483648 ≤ vi V93 x 31 ∧ vi V93 x 31 ≤ 2147483647 := vi_ir
                  have q703 : -2147483648 ≤ vi V93 x 36 ∧ vi V93 x 36 ≤ 2147483647 := vi_ir
                  refine GO.callV (ci := 11) (N := mX12_wrong) dX12_reading_105 (RX12, TX12, 151) rfl gV_RX12_456 h_x (t_X12_wrong h_x (ir_c rfl) vi_ir (by omega) (by omega) (by omega) (by omega)) rfl [] rfl rfl (Nat.le_of_ble_eq_true rfl) rfl (k_is fun X704 V708 r705 h706 hF707 => ?_)
                  have k709 := st_fr hF707 aq95 h_x (by decide +kernel) (by decide +kernel) (by decide +kernel) (by decide +kernel)
                  have sS710 : sd V708 x = sd V93 x := k709.2.1.trans (rfl : sd V93 x = sd V93 x)
                  have sQ711 : wt V708 x = wt V93 x := k709.2.2.trans (rfl : wt V93 x = wt V93 x)
                  have ak712 := tk_fr hF707 ak104 h_x (by decide +kernel) (by decide +kernel) (rfl : ar 39 V93 x = ar 39 V93 x)
                  have ak713 := tk_fr hF707 ak96.1 h_x (by decide +kernel) (by decide +kernel) ak96.2
                  have ak714 := tk_fr hF707 ak97.1 h_x (by decide +kernel) (by decide +kernel) ak97.2
                  have ak715 := tk_fr hF707 ak98.1 h_x (by decide +kernel) (by decide +kernel) ak98.2
                  have ak716 := tk_fr hF707 ak99.1 h_x (by decide +kernel) (by decide +kernel) ak99.2
                  have ak717 := tk_fr hF707 ak100.1 h_x (by decide +kernel) (by decide +kernel) ak100.2
                  have ak718 := tk_fr hF707 ak101.1 h_x (by decide +kernel) (by decide +kernel) ak101.2
                  have ak719 := tk_fr hF707 ak102.1 h_x (by decide +kernel) (by decide +kernel) ak102.2
                  refine GO.if_eq (tgt := 115) dX12_reading_108 (by decide) r705 (fun c721 => ?_) (fun h => by exfalso; omega)
                  refine GO.iconst dX12_reading_115 ?_
                  refine GO.istore (ls1 := [some (.ref x), some (ti p0), some (ti p1), some (ti p2), some (ti p3), some (ti 0), none]) dX12_reading_116 rfl rfl ?_
                  refine GO.aload_n dX12_reading_118 rfl rfl ?_
                  refine GO.iconst dX12_reading_119 ?_
                  refine GO.putI h_x fp_RX12_436 rfl (by decide +kernel) (ir_c rfl) (by decide) (by decide) dX12_reading_120 (fun V723 e722 => ?_)
                  have k724 := st_fld e722 k709.1 h_x (by decide) (by decide)
                  have sS725 : sd V723 x = sd V93 x := k724.2.1.trans sS710
                  have sQ726 : wt V723 x = wt V93 x := k724.2.2.trans sQ711
                  have ak727 := tk_fld e722 ak712.1 h_x (by decide) ak712.2
                  have ak728 := tk_fld e722 ak713.1 h_x (by decide) ak713.2
                  have ak729 := tk_fld e722 ak714.1 h_x (by decide) ak714.2
                  have ak730 := tk_fld e722 ak715.1 h_x (by decide) ak715.2
                  have ak731 := tk_fld e722 ak716.1 h_x (by decide) ak716.2
                  have ak732 := tk_fld e722 ak717.1 h_x (by decide) ak717.2
                  have ak733 := tk_fld e722 ak718.1 h_x (by decide) ak718.2
                  have ak734 := tk_fld e722 ak719.1 h_x (by decide) ak719.2
                  refine GO.iload dX12_reading_123 rfl ?_
                  refine GO.if_ne (tgt := 133) dX12_reading_125 (by decide) (ir_c rfl) (fun h => by exfalso; omega) (fun c735 => ?_)
                  refine GO.aload_n dX12_reading_128 rfl rfl ?_
                  refine GO.getI h_x fl_RX12_453 rfl rfl dX12_reading_129 (fun _ _ => ?_)
                  have e736 : vi V723 x 33 = vi V708 x 33 := vi_up e722 (Or.inr (by decide))
                  have q737 : -2147483648 ≤ vi V723 x 33 ∧ vi V723 x 33 ≤ 2147483647 := vi_ir
                  have q738 : -2147483648 ≤ vi V708 x 33 ∧ vi V708 x 33 ≤ 2147483647 := vi_ir
                  have e744 : vi V46 x 47 = vi V x 47 := vi_up e45 (Or.inr (by decide))
                  have e743 : vi V60 x 47 = vi V46 x 47 := vi_up e58 (Or.inr (by decide))
                  have e742 : vi V73 x 47 = vi V60 x 47 := vi_up e72 (Or.inr (by decide))
                  have e741 : vi V93 x 47 = vi V73 x 47 := vi_fr hF92 h_x h_x (by decide +kernel)
                  have e740 : vi V708 x 47 = vi V93 x 47 := vi_fr hF707 h_x h_x (by decide +kernel)
                  have e739 : vi V723 x 47 = vi V708 x 47 := vi_up e722 (Or.inr (by decide))
                  have e750 : vi V46 x 48 = vi V x 48 := vi_up e45 (Or.inr (by decide))
                  have e749 : vi V60 x 48 = vi V46 x 48 := vi_up e58 (Or.inr (by decide))
                  have e748 : vi V73 x 48 = vi V60 x 48 := vi_up e72 (Or.inr (by decide))
                  have e747 : vi V93 x 48 = vi V73 x 48 := vi_fr hF92 h_x h_x (by decide +kernel)
                  have e746 : vi V708 x 48 = vi V93 x 48 := vi_fr hF707 h_x h_x (by decide +kernel)
                  have e745 : vi V723 x 48 = vi V708 x 48 := vi_up e722 (Or.inr (by decide))
                  exact GO.reti rfl rfl dX12_reading_132 ⟨rfl, _, rfl, vi_ir, ⟨by omega, (by first | exact w_0 | exact GX.mk w_0 (by omega) (by omega) ak728.2 ak729.2 ak730.2 ak731.2 ak732.2 ak733.2 ak734.2 | exact GX.reading hW_0 h_x w_0 (hg1.eq rfl (by omega)) (by omega) (by omega) (by omega) (by omega) ak734.2 (by omega) ak733.2 h60 (by omega) ak728.2 ak729.2 ak730.2 ak731.2 ak732.2)⟩⟩
            ·
              refine GO.iconst dX12_reading_63 ?_
              exact GO.reti rfl rfl dX12_reading_64 ⟨rfl, _, rfl, (ir_c rfl), ⟨by omega, (by first | exact w_0 | exact GX.mk w_0 (by omega) (by omega) (rfl : ar 49 V x = ar 49 V x) (rfl : ar 50 V x = ar 50 V x) (rfl : ar 53 V x = ar 53 V x) (rfl : ar 54 V x = ar 54 V x) (rfl : ar 55 V x = ar 55 V x) (rfl : ar 60 V x = ar 60 V x) (rfl : ar 61 V x = ar 61 V x) | exact GX.reading hW_0 h_x w_0 (hg1.eq rfl (by omega)) (by omega) (by omega) (by omega) (by omega) (rfl : ar 61 V x = ar 61 V x) (by omega) (rfl : ar 60 V x = ar 60 V x) h60 (by omega) (rfl : ar 49 V x = ar 49 V x) (rfl : ar 50 V x = ar 50 V x) (rfl : ar 53 V x = ar 53 V x) (rfl : ar 54 V x = ar 54 V x) (rfl : ar 55 V x = ar 55 V x))⟩⟩
