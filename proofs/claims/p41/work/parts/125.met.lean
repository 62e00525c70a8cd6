def mX12_isText : MRec := (RX12, cX12_isText, 2, (some .boolean), yX12_isText, 0, 0, 0, 0, 0)
def mX12_isClause : MRec := (RX12, cX12_isClause, 3, (some .boolean), yX12_isClause, 1, 21, 0, 0, 0)
def mX12_yes : MRec := (RX12, cX12_yes, 3, (some .boolean), yX12_yes, 1, 21, 0, 0, 4271974071841820164790043412339104229205409044713305539894083215644439451561281100045924173873152)
def mX12_reading : MRec := (RX12, cX12_reading, 7, (some .int), yX12_reading, 7, 146, 0, 0, 128159271044118036971367372812869648701238136576827868362951687320118874642038416358604521783427072)
set_option maxHeartbeats 1000000 in
theorem t_X12_isText {K : Kmap} {V : Vmap} {x : Nat} {p0 : Int} (h_x : K x = some (0, 11)) (r_p0 : ir p0) : MC mX12_isText K V [.ref x, ti p0] (IP K V (fun X => (X = 0 ∨ X = 1) ∧ (X ≠ 0 → p0 ≥ 0 ∧ p0 ≤ 19 ∧ p0 < vi V x 47) ∧ (X = 0 → (p0 < 0 ∨ p0 ≥ vi V x 47)))) := by
  refine MC.start 0 (by decide +kernel) rfl rfl rfl (ls0 := [some (.ref x), some (ti p0)]) rfl ?_
  refine GO.iload_n dX12_isText_0 rfl rfl ?_
  refine GO.if_lt (tgt := 16) dX12_isText_1 (by decide) r_p0 (fun c1 => ?_) (fun c1 => ?_)
  ·
    refine GO.iconst dX12_isText_16 ?_
    have q2 : -2147483648 ≤ vi V x 47 ∧ vi V x 47 ≤ 2147483647 := vi_ir
    exact GO.retz rfl rfl dX12_isText_17 (Or.inl rfl) ⟨rfl, rfl, _, rfl, (ir_c rfl), ⟨Or.inl rfl, fun h => absurd rfl h, fun h => by omega⟩⟩
  ·
    refine GO.iload_n dX12_isText_4 rfl rfl ?_
    refine GO.aload_n dX12_isText_5 rfl rfl ?_
    refine GO.getI h_x fl_RX12_535 rfl rfl dX12_isText_6 (fun l3 u4 => ?_)
    refine GO.icmp_ge (tgt := 16) dX12_isText_9 (by decide) r_p0 vi_ir (fun c5 => ?_) (fun c5 => ?_)
    ·
      refine GO.iconst dX12_isText_16 ?_
      have q6 : -2147483648 ≤ p0 ∧ p0 ≤ 2147483647 := r_p0
      exact GO.retz rfl rfl dX12_isText_17 (Or.inl rfl) ⟨rfl, rfl, _, rfl, (ir_c rfl), ⟨Or.inl rfl, fun h => absurd rfl h, fun h => by omega⟩⟩
    ·
      refine GO.iconst dX12_isText_12 ?_
      refine GO.goto (tgt := 17) dX12_isText_13 (by decide) ?_
      have q7 : -2147483648 ≤ p0 ∧ p0 ≤ 2147483647 := r_p0
      exact GO.retz rfl rfl dX12_isText_17 (Or.inr rfl) ⟨rfl, rfl, _, rfl, (ir_c rfl), ⟨Or.inr rfl, fun h => by omega, fun h => absurd h (by decide)⟩⟩

set_option maxHeartbeats 1000000 in
theorem t_X12_isClause {K : Kmap} {V : Vmap} {x : Nat} {p0 : Int} {p1 : Int} (h_x : K x = some (0, 11)) (r_p0 : ir p0) (r_p1 : ir p1) : MC mX12_isClause K V [.ref x, ti p0, ti p1] (IP K V (fun X => (X = 0 ∨ X = 1) ∧ (X ≠ 0 → p0 ≥ 0 ∧ p0 ≤ 19 ∧ p1 ≥ 0 ∧ p1 ≤ 11) ∧ (X = 0 → True) ∧ (ISC V x p0 p1 X))) := by
  refine MC.start 0 (by decide +kernel) rfl rfl rfl (ls0 := [some (.ref x), some (ti p0), some (ti p1)]) rfl ?_
  refine GO.aload_n dX12_isClause_0 rfl rfl ?_
  refine GO.iload_n dX12_isClause_1 rfl rfl ?_
  refine GO.callV (ci := 11) (N := mX12_isText) dX12_isClause_2 (RX12, TX12, 151) rfl gV_RX12_541 h_x (t_X12_isText h_x r_p0) rfl [] rfl rfl (Nat.le_of_ble_eq_true rfl) rfl (k_ip fun X1 r2 h3 => ?_)
  refine GO.if_eq (tgt := 26) dX12_isClause_5 (by decide) r2 (fun c4 => ?_) (fun c4 => ?_)
  ·
    have q5 := h3.2.2 (by omega)
    refine GO.iconst dX12_isClause_26 ?_
    exact GO.retz rfl rfl dX12_isClause_27 (Or.inl rfl) ⟨rfl, rfl, _, rfl, (ir_c rfl), ⟨Or.inl rfl, fun h => absurd rfl h, fun _ => trivial, by unfold ISC; constructor <;> intro _ <;> omega⟩⟩
  ·
    have q6 := h3.2.1 (by omega)
    refine GO.iload_n dX12_isClause_8 rfl rfl ?_
    refine GO.if_lt (tgt := 26) dX12_isClause_9 (by decide) r_p1 (fun c7 => ?_) (fun c7 => ?_)
    ·
      refine GO.iconst dX12_isClause_26 ?_
      exact GO.retz rfl rfl dX12_isClause_27 (Or.inl rfl) ⟨rfl, rfl, _, rfl, (ir_c rfl), ⟨Or.inl rfl, fun h => absurd rfl h, fun _ => trivial, by unfold ISC; constructor <;> intro _ <;> omega⟩⟩
    ·
      refine GO.iload_n dX12_isClause_12 rfl rfl ?_
      refine GO.aload_n dX12_isClause_13 rfl rfl ?_
      refine GO.getA (n := 20) h_x fl_RX12_115 rfl rfl rfl rfl dX12_isClause_14 (fun hv9 h8 => ?_)
      refine GO.iload_n dX12_isClause_17 rfl rfl ?_
      have q10 : -2147483648 ≤ p0 ∧ p0 ≤ 2147483647 := r_p0
      have q11 : -2147483648 ≤ vi V x 47 ∧ vi V x 47 ≤ 2147483647 := vi_ir
      refine GO.iald (t := 41) rfl rfl h8 r_p0 (by omega) (by omega) dX12_isClause_18 (fun l12 u13 => ?_)
      refine GO.icmp_ge (tgt := 26) dX12_isClause_19 (by decide) r_p1 vi_ir (fun c14 => ?_) (fun c14 => ?_)
      ·
        refine GO.iconst dX12_isClause_26 ?_
        exact GO.retz rfl rfl dX12_isClause_27 (Or.inl rfl) ⟨rfl, rfl, _, rfl, (ir_c rfl), ⟨Or.inl rfl, fun h => absurd rfl h, fun _ => trivial, by unfold ISC; constructor <;> intro _ <;> omega⟩⟩
      ·
        refine GO.iconst dX12_isClause_22 ?_
        refine GO.goto (tgt := 27) dX12_isClause_23 (by decide) ?_
        exact GO.retz rfl rfl dX12_isClause_27 (Or.inr rfl) ⟨rfl, rfl, _, rfl, (ir_c rfl), ⟨Or.inr rfl, fun h => by omega, fun _ => trivial, by unfold ISC; constructor <;> intro _ <;> omega⟩⟩

set_option maxHeartbeats 1000000 in
theorem t_X12_yes {K : Kmap} {V : Vmap} {x : Nat} {p0 : Int} {p1 : Int} (h_x : K x = some (0, 11)) (r_p0 : ir p0) (r_p1 : ir p1) : MC mX12_yes K V [.ref x, ti p0, ti p1] (IS K (fun X V1 => (X = 0 ∨ X = 1) ∧ (X ≠ 0 → True) ∧ (X = 0 → True) ∧ (YSR V V1 x p0 p1 X))) := by
  refine MC.start 0 (by decide +kernel) rfl rfl rfl (ls0 := [some (.ref x), some (ti p0), some (ti p1)]) rfl ?_
  refine GO.aload_n dX12_yes_0 rfl rfl ?_
  refine GO.iload_n dX12_yes_1 rfl rfl ?_
  refine GO.callV (ci := 11) (N := mX12_isParty) dX12_yes_2 (RX12, TX12, 151) rfl gV_RX12_406 h_x (t_X12_isParty h_x r_p0) rfl [] rfl rfl (Nat.le_of_ble_eq_true rfl) rfl (k_ip fun X1 r2 h3 => ?_)
  refine GO.if_eq (tgt := 35) dX12_yes_5 (by decide) r2 (fun c4 => ?_) (fun c4 => ?_)
  ·
    have q5 := h3.2.2 (by omega)
    refine GO.iconst dX12_yes_35 ?_
    exact GO.retz rfl rfl dX12_yes_36 (Or.inl rfl) ⟨rfl, _, rfl, (ir_c rfl), ⟨Or.inl rfl, fun _ => trivial, fun _ => trivial, (by first | exact YSR.no (by omega) | exact YSR.had rfl (by assumption) (by omega) (by omega) | exact YSR.ok rfl (by assumption) (by omega) (by omega) (by omega) (by omega) (by assumption))⟩⟩
  ·
    have q6 := h3.2.1 (by omega)
    refine GO.aload_n dX12_yes_8 rfl rfl ?_
    refine GO.iload_n dX12_yes_9 rfl rfl ?_
    refine GO.callV (ci := 11) (N := mX12_isText) dX12_yes_10 (RX12, TX12, 151) rfl gV_RX12_541 h_x (t_X12_isText h_x r_p1) rfl [] rfl rfl (Nat.le_of_ble_eq_true rfl) rfl (k_ip fun X7 r8 h9 => ?_)
    refine GO.if_eq (tgt := 35) dX12_yes_13 (by decide) r8 (fun c10 => ?_) (fun c10 => ?_)
    ·
      have q11 := h9.2.2 (by omega)
      refine GO.iconst dX12_yes_35 ?_
      exact GO.retz rfl rfl dX12_yes_36 (Or.inl rfl) ⟨rfl, _, rfl, (ir_c rfl), ⟨Or.inl rfl, fun _ => trivial, fun _ => trivial, (by first | exact YSR.no (by omega) | exact YSR.had rfl (by assumption) (by omega) (by omega) | exact YSR.ok rfl (by assumption) (by omega) (by omega) (by omega) (by omega) (by assumption))⟩⟩
    ·
      have q12 := h9.2.1 (by omega)
      refine GO.iload_n dX12_yes_16 rfl rfl ?_
      refine GO.if_eq (tgt := 35) dX12_yes_17 (by decide) r_p1 (fun c13 => ?_) (fun c13 => ?_)
      ·
        refine GO.iconst dX12_yes_35 ?_
        exact GO.retz rfl rfl dX12_yes_36 (Or.inl rfl) ⟨rfl, _, rfl, (ir_c rfl), ⟨Or.inl rfl, fun _ => trivial, fun _ => trivial, (by first | exact YSR.no (by omega) | exact YSR.had rfl (by assumption) (by omega) (by omega) | exact YSR.ok rfl (by assumption) (by omega) (by omega) (by omega) (by omega) (by assumption))⟩⟩
      ·
        refine GO.aload_n dX12_yes_20 rfl rfl ?_
        refine GO.getA (n := 180) h_x fl_RX12_142 rfl rfl rfl rfl dX12_yes_21 (fun hv15 h14 => ?_)
        refine GO.bipush dX12_yes_24 rfl ?_
        refine GO.iload_n dX12_yes_26 rfl rfl ?_
        refine GO.imul dX12_yes_27 ?_
        refine GO.iload_n dX12_yes_28 rfl rfl ?_
        refine GO.iadd dX12_yes_29 ?_
        have q16 : -2147483648 ≤ p1 ∧ p1 ≤ 2147483647 := r_p1
        have q17 : -2147483648 ≤ vi V x 47 ∧ vi V x 47 ≤ 2147483647 := vi_ir
        have q18 : -2147483648 ≤ p0 ∧ p0 ≤ 2147483647 := r_p0
        have q19 : -2147483648 ≤ vi V x 9 ∧ vi V x 9 ≤ 2147483647 := vi_ir
        refine GO.iald (t := 50) rfl rfl h14 ⟨by omega, by omega⟩ (by omega) (by omega) dX12_yes_30 (fun l20 u21 => ?_)
        refine GO.iconst dX12_yes_31 ?_
        refine GO.icmp_eq (tgt := 37) dX12_yes_32 (by decide) vi_ir (ir_c rfl) (fun c22 => ?_) (fun c22 => ?_)
        ·
          refine GO.aload_n dX12_yes_37 rfl rfl ?_
          refine GO.getRaw h_x fl_RX12_142 hv15 dX12_yes_38 ?_
          refine GO.bipush dX12_yes_41 rfl ?_
          refine GO.iload_n dX12_yes_43 rfl rfl ?_
          refine GO.imul dX12_yes_44 ?_
          refine GO.iload_n dX12_yes_45 rfl rfl ?_
          refine GO.iadd dX12_yes_46 ?_
          refine GO.aload_n dX12_yes_47 rfl rfl ?_
          refine GO.getI h_x fl_RX12_396 rfl rfl dX12_yes_48 (fun l25 u26 => ?_)
          refine GO.iast (t := 50) rfl rfl (by decide +kernel) h14 ⟨by omega, by omega⟩ (by omega) (by omega) vi_ir (by omega) (by omega) dX12_yes_51 (fun V28 e27 => ?_)
          refine GO.iconst dX12_yes_52 ?_
          exact GO.retz rfl rfl dX12_yes_53 (Or.inr rfl) ⟨rfl, _, rfl, (ir_c rfl), ⟨Or.inr rfl, fun _ => trivial, fun _ => trivial, (by first | exact YSR.no (by omega) | exact YSR.had rfl (by assumption) (by omega) (by omega) | exact YSR.ok rfl (by assumption) (by omega) (by omega) (by omega) (by omega) (by assumption))⟩⟩
        ·
          refine GO.iconst dX12_yes_35 ?_
          exact GO.retz rfl rfl dX12_yes_36 (Or.inl rfl) ⟨rfl, _, rfl, (ir_c rfl), ⟨Or.inl rfl, fun _ => trivial, fun _ => trivial, (by first | exact YSR.no (by omega) | exact YSR.had rfl (by assumption) (by omega) (by omega) | exact YSR.ok rfl (by assumption) (by omega) (by omega) (by omega) (by omega) (by assumption))⟩⟩

set_option maxHeartbeats 1000000 in
theorem t_X12_reading {K : Kmap} {V : Vmap} {x : Nat} {p0 : Int} {p1 : Int} {p2 : Int} {p3 : Int} (h_x : K x = some (0, 11)) (r_p0 : ir p0) (r_p1 : ir p1) (r_p2 : ir p2) (r_p3 : ir p3) (w_0 : GX V x) : MC mX12_reading K V [.ref x, ti p0, ti p1, ti p2, ti p3] (IS K (fun X V1 => (X ≥ (-2147483648) ∧ X ≤ 2147483647) ∧ (GX V1 x) ∧ (MRX V V1 x p0 p1 p2 p3 X))) := by
  refine MC.start 2 (by decide +kernel) rfl rfl rfl (ls0 := [some (.ref x), some (ti p0), some (ti p1), some (ti p2), some (ti p3), none, none]) rfl ?_
  refine GO.useWT (fun hW_0 => ?_)
  refine GO.useWT (fun hW1 => ?_)
  have aq2 := hW1.aq h_x
  refine GO.useWT (fun hW3 => ?_)
  have ak4 := hW3.arr h_x 39 32 (by decide) rfl (by decide)
  have ak5 := hW3.arr h_x 49 40 (by decide) rfl (by decide)
  have ak6 := hW3.arr h_x 50 41 (by decide) rfl (by decide)
  have ak7 := hW3.arr h_x 53 44 (by decide) rfl (by decide)
  have ak8 := hW3.arr h_x 54 45 (by decide) rfl (by decide)
  have ak9 := hW3.arr h_x 55 46 (by decide) rfl (by decide)
  have ak10 := hW3.arr h_x 60 51 (by decide) rfl (by decide)
  have ak11 := hW3.arr h_x 61 52 (by decide) rfl (by decide)
  refine GO.useWT (fun hW_0 => ?_)
  have hcn := (hW1).cnt h_x
  refine GO.aload_n dX12_reading_0 rfl rfl ?_
  refine GO.iload_n dX12_reading_1 rfl rfl ?_
  refine GO.callV (ci := 11) (N := mX12_isParty) dX12_reading_2 (RX12, TX12, 151) rfl gV_RX12_406 h_x (t_X12_isParty h_x r_p0) rfl [] rfl rfl (Nat.le_of_ble_eq_true rfl) rfl (k_ip fun X12 r13 h14 => ?_)
  refine GO.if_eq (tgt := 63) dX12_reading_5 (by decide) r13 (fun c15 => ?_) (fun c15 => ?_)
  ·
    clear ak4 ak5 ak6 ak7 ak8 ak9 ak10 ak11
    have q16 := h14.2.2 (by omega)
    refine GO.iconst dX12_reading_63 ?_
    exact GO.reti rfl rfl dX12_reading_64 ⟨rfl, _, rfl, (ir_c rfl), ⟨(by first | exact trivial | omega), (by first | exact w_0 | exact GX.mk w_0 (by omega) (by omega) (rfl : ar 49 V x = ar 49 V x) (rfl : ar 50 V x = ar 50 V x) (rfl : ar 53 V x = ar 53 V x) (rfl : ar 54 V x = ar 54 V x) (rfl : ar 55 V x = ar 55 V x) (rfl : ar 60 V x = ar 60 V x) (rfl : ar 61 V x = ar 61 V x)), (by first | exact MRX.no (MRC.nn (by omega)) rfl)⟩⟩
  ·
    have q17 := h14.2.1 (by omega)
    refine GO.aload_n dX12_reading_8 rfl rfl ?_
    refine GO.iload_n dX12_reading_9 rfl rfl ?_
    refine GO.iload_n dX12_reading_10 rfl rfl ?_
    refine GO.callV (ci := 11) (N := mX12_isClause) dX12_reading_11 (RX12, TX12, 151) rfl gV_RX12_544 h_x (t_X12_isClause h_x r_p1 r_p2) rfl [] rfl rfl (Nat.le_of_ble_eq_true rfl) rfl (k_ip fun X18 r19 h20 => ?_)
    have raw_isClause := h20.2.2.2
    have rw11 := h20.2.2.2
    refine GO.if_eq (tgt := 63) dX12_reading_14 (by decide) r19 (fun c21 => ?_) (fun c21 => ?_)
    ·
      clear ak4 ak5 ak6 ak7 ak8 ak9 ak10 ak11
      refine GO.iconst dX12_reading_63 ?_
      exact GO.reti rfl rfl dX12_reading_64 ⟨rfl, _, rfl, (ir_c rfl), ⟨(by first | exact trivial | omega), (by first | exact w_0 | exact GX.mk w_0 (by omega) (by omega) (rfl : ar 49 V x = ar 49 V x) (rfl : ar 50 V x = ar 50 V x) (rfl : ar 53 V x = ar 53 V x) (rfl : ar 54 V x = ar 54 V x) (rfl : ar 55 V x = ar 55 V x) (rfl : ar 60 V x = ar 60 V x) (rfl : ar 61 V x = ar 61 V x)), (by first | exact MRX.no (MRC.ni rw11 (by omega)) rfl | exact MRX.no (MRC.nn (by omega)) rfl)⟩⟩
    ·
      have q22 := h20.2.1 (by omega)
      refine GO.aload_n dX12_reading_17 rfl rfl ?_
      refine GO.getA (n := 240) h_x fl_RX12_124 rfl rfl rfl rfl dX12_reading_18 (fun hv24 h23 => ?_)
      refine GO.bipush dX12_reading_21 rfl ?_
      refine GO.iload_n dX12_reading_23 rfl rfl ?_
      refine GO.imul dX12_reading_24 ?_
      refine GO.iload_n dX12_reading_25 rfl rfl ?_
      refine GO.iadd dX12_reading_26 ?_
      have q25 : -2147483648 ≤ p2 ∧ p2 ≤ 2147483647 := r_p2
      have q26 : -2147483648 ≤ p1 ∧ p1 ≤ 2147483647 := r_p1
      refine GO.iald (t := 44) rfl rfl h23 ⟨by omega, by omega⟩ (by omega) (by omega) dX12_reading_27 (fun _ _ => ?_)
      refine GO.callS (N := mX12_isAsking) dX12_reading_28 gS_RX12_520 (t_X12_isAsking vi_ir) rfl [] rfl rfl (Nat.le_of_ble_eq_true rfl) rfl (k_ip fun X27 r28 h29 => ?_)
      have raw_isAsking := h29.2.2.2
      have rw28 := h29.2.2.2
      refine GO.if_eq (tgt := 63) dX12_reading_31 (by decide) r28 (fun c30 => ?_) (fun c30 => ?_)
      ·
        clear ak4 ak5 ak6 ak7 ak8 ak9 ak10 ak11
        have q31 := h29.2.2.1 (by omega)
        refine GO.iconst dX12_reading_63 ?_
        exact GO.reti rfl rfl dX12_reading_64 ⟨rfl, _, rfl, (ir_c rfl), ⟨(by first | exact trivial | omega), (by first | exact w_0 | exact GX.mk w_0 (by omega) (by omega) (rfl : ar 49 V x = ar 49 V x) (rfl : ar 50 V x = ar 50 V x) (rfl : ar 53 V x = ar 53 V x) (rfl : ar 54 V x = ar 54 V x) (rfl : ar 55 V x = ar 55 V x) (rfl : ar 60 V x = ar 60 V x) (rfl : ar 61 V x = ar 61 V x)), (by first | exact MRX.no (MRC.ni rw11 (by omega)) rfl | exact MRX.no (MRC.na rw28 (by omega) (by omega)) rfl | exact MRX.no (MRC.nn (by omega)) rfl)⟩⟩
      ·
        have q32 := h29.2.1 (by omega)
        refine GO.iload dX12_reading_34 rfl ?_
        refine GO.iconst dX12_reading_36 ?_
        refine GO.bipush dX12_reading_37 rfl ?_
        refine GO.callS (N := mX12_in) dX12_reading_39 gS_RX12_371 (t_X12_in r_p3 (ir_c rfl) (ir_c rfl)) rfl [] rfl rfl (Nat.le_of_ble_eq_true rfl) rfl (k_ip fun X33 r34 h35 => ?_)
        have raw_in := h35.2.2.2
        have rw39 := h35.2.2.2
        refine GO.if_eq (tgt := 63) dX12_reading_42 (by decide) r34 (fun c36 => ?_) (fun c36 => ?_)
        ·
          clear ak4 ak5 ak6 ak7 ak8 ak9 ak10 ak11
          have q37 := h35.2.2.1 (by omega)
          refine GO.iconst dX12_reading_63 ?_
          exact GO.reti rfl rfl dX12_reading_64 ⟨rfl, _, rfl, (ir_c rfl), ⟨(by first | exact trivial | omega), (by first | exact w_0 | exact GX.mk w_0 (by omega) (by omega) (rfl : ar 49 V x = ar 49 V x) (rfl : ar 50 V x = ar 50 V x) (rfl : ar 53 V x = ar 53 V x) (rfl : ar 54 V x = ar 54 V x) (rfl : ar 55 V x = ar 55 V x) (rfl : ar 60 V x = ar 60 V x) (rfl : ar 61 V x = ar 61 V x)), (by first | exact MRX.no (MRC.ni rw11 (by omega)) rfl | exact MRX.no (MRC.na rw28 (by omega) (by omega)) rfl | exact MRX.no (MRC.nn (by omega)) rfl)⟩⟩
        ·
          have q38 := h35.2.1 (by omega)
          refine GO.iload dX12_reading_45 rfl ?_
          refine GO.aload_n dX12_reading_47 rfl rfl ?_
          refine GO.getI h_x fl_RX12_436 rfl rfl dX12_reading_48 (fun l39 u40 => ?_)
          refine GO.icmp_gt (tgt := 63) dX12_reading_51 (by decide) r_p3 vi_ir (fun c41 => ?_) (fun c41 => ?_)
          ·
            clear ak4 ak5 ak6 ak7 ak8 ak9 ak10 ak11
            refine GO.iconst dX12_reading_63 ?_
            exact GO.reti rfl rfl dX12_reading_64 ⟨rfl, _, rfl, (ir_c rfl), ⟨(by first | exact trivial | omega), (by first | exact w_0 | exact GX.mk w_0 (by omega) (by omega) (rfl : ar 49 V x = ar 49 V x) (rfl : ar 50 V x = ar 50 V x) (rfl : ar 53 V x = ar 53 V x) (rfl : ar 54 V x = ar 54 V x) (rfl : ar 55 V x = ar 55 V x) (rfl : ar 60 V x = ar 60 V x) (rfl : ar 61 V x = ar 61 V x)), (by first | exact MRX.no (MRC.ni rw11 (by omega)) rfl | exact MRX.no (MRC.na rw28 (by omega) (by omega)) rfl | exact MRX.no (MRC.nn (by omega)) rfl)⟩⟩
          ·
            refine GO.aload_n dX12_reading_54 rfl rfl ?_
            refine GO.getI h_x fl_RX12_547 rfl rfl dX12_reading_55 (fun l42 u43 => ?_)
            refine GO.bipush dX12_reading_58 rfl ?_
            refine GO.icmp_ne (tgt := 65) dX12_reading_60 (by decide) vi_ir (ir_c rfl) (fun c44 => ?_) (fun c44 => ?_)
            ·
              have hmc : MRC V x p0 p1 p2 p3 := MRC.mk (by omega) (by omega) rw11 (by omega) rw28 (by omega) (by omega) ⟨by omega, by omega, by omega, by omega⟩
              refine GO.aload_n dX12_reading_65 rfl rfl ?_
              refine GO.iconst dX12_reading_66 ?_
              refine GO.putI h_x fp_RX12_443 rfl (by decide +kernel) (ir_c rfl) (by decide) (by decide) dX12_reading_67 (fun V46 e45 => ?_)
              have k47 := st_fld e45 aq2 h_x (by decide) (by decide)
              have sS48 : sd V46 x = sd V x := k47.2.1.trans (rfl : sd V x = sd V x)
              have sQ49 : wt V46 x = wt V x := k47.2.2.trans (rfl : wt V x = wt V x)
              have ak50 := tk_fld e45 ak4 h_x (by decide) (rfl : ar 39 V x = ar 39 V x)
              clear ak4
              have ak51 := tk_fld e45 ak5 h_x (by decide) (rfl : ar 49 V x = ar 49 V x)
              clear ak5
              have ak52 := tk_fld e45 ak6 h_x (by decide) (rfl : ar 50 V x = ar 50 V x)
              clear ak6
              have ak53 := tk_fld e45 ak7 h_x (by decide) (rfl : ar 53 V x = ar 53 V x)
              clear ak7
              have ak54 := tk_fld e45 ak8 h_x (by decide) (rfl : ar 54 V x = ar 54 V x)
              clear ak8
              have ak55 := tk_fld e45 ak9 h_x (by decide) (rfl : ar 55 V x = ar 55 V x)
              clear ak9
              have ak56 := tk_fld e45 ak10 h_x (by decide) (rfl : ar 60 V x = ar 60 V x)
              clear ak10
              have ak57 := tk_fld e45 ak11 h_x (by decide) (rfl : ar 61 V x = ar 61 V x)
              clear ak11
              refine GO.aload_n dX12_reading_70 rfl rfl ?_
              refine GO.iload dX12_reading_71 rfl ?_
              have q59 : -2147483648 ≤ p3 ∧ p3 ≤ 2147483647 := r_p3
              refine GO.putI h_x fp_RX12_446 rfl (by decide +kernel) r_p3 (by omega) (by omega) dX12_reading_73 (fun V60 e58 => ?_)
              have k61 := st_fld e58 k47.1 h_x (by decide) (by decide)
              clear k47
              have sS62 : sd V60 x = sd V x := k61.2.1.trans sS48
              have sQ63 : wt V60 x = wt V x := k61.2.2.trans sQ49
              have ak64 := tk_fld e58 ak50.1 h_x (by decide) ak50.2
              clear ak50
              have ak65 := tk_fld e58 ak51.1 h_x (by decide) ak51.2
              clear ak51
              have ak66 := tk_fld e58 ak52.1 h_x (by decide) ak52.2
              clear ak52
              have ak67 := tk_fld e58 ak53.1 h_x (by decide) ak53.2
              clear ak53
              have ak68 := tk_fld e58 ak54.1 h_x (by decide) ak54.2
              clear ak54
              have ak69 := tk_fld e58 ak55.1 h_x (by decide) ak55.2
              clear ak55
              have ak70 := tk_fld e58 ak56.1 h_x (by decide) ak56.2
              clear ak56
              have ak71 := tk_fld e58 ak57.1 h_x (by decide) ak57.2
              clear ak57
              refine GO.aload_n dX12_reading_76 rfl rfl ?_
              refine GO.iconst dX12_reading_77 ?_
              refine GO.putI h_x fp_RX12_466 rfl (by decide +kernel) (ir_c rfl) (by decide) (by decide) dX12_reading_78 (fun V73 e72 => ?_)
              have k74 := st_fld e72 k61.1 h_x (by decide) (by decide)
              clear k61
              have sS75 : sd V73 x = sd V x := k74.2.1.trans sS62
              have sQ76 : wt V73 x = wt V x := k74.2.2.trans sQ63
              clear k74
              have ak77 := tk_fld e72 ak64.1 h_x (by decide) ak64.2
              clear ak64 ak77
              have ak78 := tk_fld e72 ak65.1 h_x (by decide) ak65.2
              clear ak65
              have ak79 := tk_fld e72 ak66.1 h_x (by decide) ak66.2
              clear ak66
              have ak80 := tk_fld e72 ak67.1 h_x (by decide) ak67.2
              clear ak67
              have ak81 := tk_fld e72 ak68.1 h_x (by decide) ak68.2
              clear ak68
              have ak82 := tk_fld e72 ak69.1 h_x (by decide) ak69.2
              clear ak69
              have ak83 := tk_fld e72 ak70.1 h_x (by decide) ak70.2
              clear ak70
              have ak84 := tk_fld e72 ak71.1 h_x (by decide) ak71.2
              clear ak71
              have e87 : vi V46 x 31 = 0 := upd2_int e45 (ir_c rfl)
              have e86 : vi V60 x 31 = vi V46 x 31 := vi_up e58 (Or.inr (by decide))
              have e85 : vi V73 x 31 = vi V60 x 31 := vi_up e72 (Or.inr (by decide))
              have e89 : vi V60 x 32 = p3 := upd2_int e58 r_p3
              have e88 : vi V73 x 32 = vi V60 x 32 := vi_up e72 (Or.inr (by decide))
              have e90 : vi V73 x 36 = 0 := upd2_int e72 (ir_c rfl)
              refine GO.useFR (fun hFs => ?_)
              have hT0 : ∀ src, SRM V x (p3).toNat src → TP V73 x src (p3).toNat := fun src h => TP.of hFs h_x hW_0 (by decide +kernel) (by decide +kernel) (by omega) h
              refine GO.aload_n dX12_reading_81 rfl rfl ?_
              refine GO.callV (ci := 11) (N := mX12_readsCondition) dX12_reading_82 (RX12, TX12, 151) rfl gV_RX12_529 h_x (t_X12_readsCondition h_x (by omega) (⟨rfl, fun _ _ => rfl⟩)) rfl [] rfl rfl (Nat.le_of_ble_eq_true rfl) rfl (k_is fun X91 V95 r92 h93 hF94 => ?_)
              refine GO.useWT (fun hW96 => ?_)
              have aq97 := hW96.aq h_x
              have ak98 := tk_fr hF94 ak78.1 h_x (by decide +kernel) (by decide +kernel) ak78.2
              clear ak78
              have ak99 := tk_fr hF94 ak79.1 h_x (by decide +kernel) (by decide +kernel) ak79.2
              clear ak79
              have ak100 := tk_fr hF94 ak80.1 h_x (by decide +kernel) (by decide +kernel) ak80.2
              clear ak80
              have ak101 := tk_fr hF94 ak81.1 h_x (by decide +kernel) (by decide +kernel) ak81.2
              clear ak81
              have ak102 := tk_fr hF94 ak82.1 h_x (by decide +kernel) (by decide +kernel) ak82.2
              clear ak82
              have ak103 := tk_fr hF94 ak83.1 h_x (by decide +kernel) (by decide +kernel) ak83.2
              clear ak83
              have ak104 := tk_fr hF94 ak84.1 h_x (by decide +kernel) (by decide +kernel) ak84.2
              clear ak84
              refine GO.useWT (fun hW105 => ?_)
              have ak106 := hW105.arr h_x 39 32 (by decide) rfl (by decide)
              have raw_readsCondition := h93.2.2.2.1
              have rq0_82 := h93.2.2.2.2
              have rw82 := h93.2.2.2.1
              refine GO.if_eq (tgt := 115) dX12_reading_85 (by decide) r92 (fun c108 => ?_) (fun c108 => ?_)
              ·
                refine GO.iconst dX12_reading_115 ?_
                refine GO.istore (ls1 := [some (.ref x), some (ti p0), some (ti p1), some (ti p2), some (ti p3), some (ti 0), none]) dX12_reading_116 rfl rfl ?_
                refine GO.aload_n dX12_reading_118 rfl rfl ?_
                refine GO.iconst dX12_reading_119 ?_
                refine GO.putI h_x fp_RX12_436 rfl (by decide +kernel) (ir_c rfl) (by decide) (by decide) dX12_reading_120 (fun V111 e110 => ?_)
                have k112 := st_fld e110 aq97 h_x (by decide) (by decide)
                have sS113 : sd V111 x = sd V95 x := k112.2.1.trans (rfl : sd V95 x = sd V95 x)
                have sQ114 : wt V111 x = wt V95 x := k112.2.2.trans (rfl : wt V95 x = wt V95 x)
                clear k112
                have ak115 := tk_fld e110 ak106 h_x (by decide) (rfl : ar 39 V95 x = ar 39 V95 x)
                clear ak106 ak115
                have ak116 := tk_fld e110 ak98.1 h_x (by decide) ak98.2
                clear ak98
                have ak117 := tk_fld e110 ak99.1 h_x (by decide) ak99.2
                clear ak99
                have ak118 := tk_fld e110 ak100.1 h_x (by decide) ak100.2
                clear ak100
                have ak119 := tk_fld e110 ak101.1 h_x (by decide) ak101.2
                clear ak101
                have ak120 := tk_fld e110 ak102.1 h_x (by decide) ak102.2
                clear ak102
                have ak121 := tk_fld e110 ak103.1 h_x (by decide) ak103.2
                clear ak103
                have ak122 := tk_fld e110 ak104.1 h_x (by decide) ak104.2
                clear ak104
                refine GO.iload dX12_reading_123 rfl ?_
                refine GO.if_ne (tgt := 133) dX12_reading_125 (by decide) (ir_c rfl) (fun h => by exfalso; omega) (fun c123 => ?_)
                refine GO.aload_n dX12_reading_128 rfl rfl ?_
                refine GO.getI h_x fl_RX12_453 rfl rfl dX12_reading_129 (fun _ _ => ?_)
                have e124 : vi V111 x 33 = vi V95 x 33 := vi_up e110 (Or.inr (by decide))
                have q125 : -2147483648 ≤ vi V111 x 33 ∧ vi V111 x 33 ≤ 2147483647 := vi_ir
                have q126 : -2147483648 ≤ vi V95 x 33 ∧ vi V95 x 33 ≤ 2147483647 := vi_ir
                have e131 : vi V46 x 47 = vi V x 47 := vi_up e45 (Or.inr (by decide))
                have e130 : vi V60 x 47 = vi V46 x 47 := vi_up e58 (Or.inr (by decide))
                have e129 : vi V73 x 47 = vi V60 x 47 := vi_up e72 (Or.inr (by decide))
                have e128 : vi V95 x 47 = vi V73 x 47 := vi_fr hF94 h_x h_x (by decide +kernel)
                have e127 : vi V111 x 47 = vi V95 x 47 := vi_up e110 (Or.inr (by decide))
                have e136 : vi V46 x 48 = vi V x 48 := vi_up e45 (Or.inr (by decide))
                have e135 : vi V60 x 48 = vi V46 x 48 := vi_up e58 (Or.inr (by decide))
                have e134 : vi V73 x 48 = vi V60 x 48 := vi_up e72 (Or.inr (by decide))
                have e133 : vi V95 x 48 = vi V73 x 48 := vi_fr hF94 h_x h_x (by decide +kernel)
                have e132 : vi V111 x 48 = vi V95 x 48 := vi_up e110 (Or.inr (by decide))
                have e137 : vi V111 x 30 = 0 := upd2_int e110 (ir_c rfl)
                have e138 : vi V111 x 31 = vi V95 x 31 := vi_up e110 (Or.inr (by decide))
                have e140 : vi V95 x 32 = vi V73 x 32 := vi_fr hF94 h_x h_x (by decide +kernel)
                have e139 : vi V111 x 32 = vi V95 x 32 := vi_up e110 (Or.inr (by decide))
                exact GO.reti rfl rfl dX12_reading_132 ⟨rfl, _, rfl, vi_ir, ⟨(by first | exact trivial | omega), (by first | exact w_0 | exact GX.mk w_0 (by omega) (by omega) ak116.2 ak117.2 ak118.2 ak119.2 ak120.2 ak121.2 ak122.2), (by first | exact MRX.no (MRC.ni rw11 (by omega)) rfl | exact MRX.no (MRC.na rw28 (by omega) (by omega)) rfl | exact MRX.no (MRC.nn (by omega)) rfl | exact MRX.e1 hmc hT0 (by omega) (by omega) rq0_82 (by omega) (by omega) (by omega) (by omega) | exact MRX.e2 hmc hT0 (by omega) (by omega) rq0_82 (by omega) (by omega) (by omega) (by omega) (by omega) (by omega) | exact MRX.ok hmc hT0 (by omega) (by omega) rq0_82 (by omega) (by omega) rfl (by omega) (by omega))⟩⟩
              ·
                have q143 := h93.2.1 (by omega)
                have e145 : vi V95 x 32 = vi V73 x 32 := vi_fr hF94 h_x h_x (by decide +kernel)
                have hgs := RF.gs (raw_readsCondition (by omega))
                have hgs1 := hgs.2.2.2.1
                have hgs2 := hgs.2.2.1
                refine GO.aload_n dX12_reading_88 rfl rfl ?_
                refine GO.getI h_x fl_RX12_443 rfl rfl dX12_reading_89 (fun l146 u147 => ?_)
                refine GO.aload_n dX12_reading_92 rfl rfl ?_
                refine GO.getI h_x fl_RX12_446 rfl rfl dX12_reading_93 (fun l148 u149 => ?_)
                refine GO.icmp_eq (tgt := 111) dX12_reading_96 (by decide) vi_ir vi_ir (fun c150 => ?_) (fun c150 => ?_)
                ·
                  refine GO.iconst dX12_reading_111 ?_
                  refine GO.goto (tgt := 116) dX12_reading_112 (by decide) ?_
                  refine GO.istore (ls1 := [some (.ref x), some (ti p0), some (ti p1), some (ti p2), some (ti p3), some (ti 1), none]) dX12_reading_116 rfl rfl ?_
                  refine GO.aload_n dX12_reading_118 rfl rfl ?_
                  refine GO.iconst dX12_reading_119 ?_
                  refine GO.putI h_x fp_RX12_436 rfl (by decide +kernel) (ir_c rfl) (by decide) (by decide) dX12_reading_120 (fun V152 e151 => ?_)
                  have k153 := st_fld e151 aq97 h_x (by decide) (by decide)
                  have sS154 : sd V152 x = sd V95 x := k153.2.1.trans (rfl : sd V95 x = sd V95 x)
                  have sQ155 : wt V152 x = wt V95 x := k153.2.2.trans (rfl : wt V95 x = wt V95 x)
                  have ak156 := tk_fld e151 ak106 h_x (by decide) (rfl : ar 39 V95 x = ar 39 V95 x)
                  clear ak106
                  have ak157 := tk_fld e151 ak98.1 h_x (by decide) ak98.2
                  clear ak98
                  have ak158 := tk_fld e151 ak99.1 h_x (by decide) ak99.2
                  clear ak99
                  have ak159 := tk_fld e151 ak100.1 h_x (by decide) ak100.2
                  clear ak100
                  have ak160 := tk_fld e151 ak101.1 h_x (by decide) ak101.2
                  clear ak101
                  have ak161 := tk_fld e151 ak102.1 h_x (by decide) ak102.2
                  clear ak102
                  have ak162 := tk_fld e151 ak103.1 h_x (by decide) ak103.2
                  clear ak103
                  have ak163 := tk_fld e151 ak104.1 h_x (by decide) ak104.2
                  clear ak104
                  refine GO.iload dX12_reading_123 rfl ?_
                  refine GO.if_ne (tgt := 133) dX12_reading_125 (by decide) (ir_c rfl) (fun c164 => ?_) (fun h => by exfalso; omega)
                  have e165 : vi V152 x 36 = vi V95 x 36 := vi_up e151 (Or.inr (by decide))
                  have e170 : vi V46 x 48 = vi V x 48 := vi_up e45 (Or.inr (by decide))
                  have e169 : vi V60 x 48 = vi V46 x 48 := vi_up e58 (Or.inr (by decide))
                  have e168 : vi V73 x 48 = vi V60 x 48 := vi_up e72 (Or.inr (by decide))
                  have e167 : vi V95 x 48 = vi V73 x 48 := vi_fr hF94 h_x h_x (by decide +kernel)
                  have e166 : vi V152 x 48 = vi V95 x 48 := vi_up e151 (Or.inr (by decide))
                  have e175 : vi V46 x 47 = vi V x 47 := vi_up e45 (Or.inr (by decide))
                  have e174 : vi V60 x 47 = vi V46 x 47 := vi_up e58 (Or.inr (by decide))
                  have e173 : vi V73 x 47 = vi V60 x 47 := vi_up e72 (Or.inr (by decide))
                  have e172 : vi V95 x 47 = vi V73 x 47 := vi_fr hF94 h_x h_x (by decide +kernel)
                  have e171 : vi V152 x 47 = vi V95 x 47 := vi_up e151 (Or.inr (by decide))
                  have e176 : vi V152 x 30 = 0 := upd2_int e151 (ir_c rfl)
                  have e177 : vi V152 x 31 = vi V95 x 31 := vi_up e151 (Or.inr (by decide))
                  have e178 : vi V152 x 32 = vi V95 x 32 := vi_up e151 (Or.inr (by decide))
                  have hm39 := ak156.2
                  have hg1 := (hgs.1.eq (a1 := 0) (by omega) rfl).cong (fun j _ _ => (congrFun ak156.2 j).symm)
                  refine GO.aload_n dX12_reading_133 rfl rfl ?_
                  refine GO.getA (n := 20) h_x fl_RX12_151 rfl rfl rfl rfl dX12_reading_134 (fun hv180 h179 => ?_)
                  refine GO.aload_n dX12_reading_137 rfl rfl ?_
                  refine GO.getI h_x fl_RX12_547 rfl rfl dX12_reading_138 (fun l181 u182 => ?_)
                  refine GO.iload_n dX12_reading_141 rfl rfl ?_
                  have q183 : -2147483648 ≤ vi V x 48 ∧ vi V x 48 ≤ 2147483647 := vi_ir
                  refine GO.iast (t := 53) rfl rfl (by decide +kernel) h179 vi_ir (by omega) (by omega) r_p0 (r_p0).1 (r_p0).2 dX12_reading_142 (fun V185 e184 => ?_)
                  have k186 := st_oth e184 k153.1 h_x h179 (by decide) (by decide)
                  clear k153
                  have sS187 : sd V185 x = sd V95 x := k186.2.1.trans sS154
                  have sQ188 : wt V185 x = wt V95 x := k186.2.2.trans sQ155
                  have ak189 := tk_oth e184 ak156.1 h_x h179 (by decide) (by decide) ak156.2
                  clear ak156
                  have ak190 := tk_oth e184 ak157.1 h_x h179 (by decide) (by decide) ak157.2
                  clear ak157
                  have ak191 := tk_oth e184 ak158.1 h_x h179 (by decide) (by decide) ak158.2
                  clear ak158
                  have ak192 := tk_oth e184 ak159.1 h_x h179 (by decide) (by decide) ak159.2
                  clear ak159
                  have ak193 := tk_oth e184 ak160.1 h_x h179 (by decide) (by decide) ak160.2
                  clear ak160
                  have ak194 := tk_oth e184 ak161.1 h_x h179 (by decide) (by decide) ak161.2
                  clear ak161
                  have ak195 := tk_oth e184 ak162.1 h_x h179 (by decide) (by decide) ak162.2
                  clear ak162
                  have ak196 := tk_oth e184 ak163.1 h_x h179 (by decide) (by decide) ak163.2
                  clear ak163
                  refine GO.aload_n dX12_reading_143 rfl rfl ?_
                  refine GO.getA (n := 20) h_x fl_RX12_154 rfl rfl rfl rfl dX12_reading_144 (fun hv198 h197 => ?_)
                  refine GO.aload_n dX12_reading_147 rfl rfl ?_
                  refine GO.getI h_x fl_RX12_547 rfl rfl dX12_reading_148 (fun l199 u200 => ?_)
                  have e201 : vi V185 x 48 = vi V152 x 48 := vi_up e184 (Or.inl (K_ne h_x h179 (by decide)))
                  refine GO.bipush dX12_reading_151 rfl ?_
                  refine GO.iload_n dX12_reading_153 rfl rfl ?_
                  refine GO.imul dX12_reading_154 ?_
                  refine GO.iload_n dX12_reading_155 rfl rfl ?_
                  refine GO.iadd dX12_reading_156 ?_
                  refine GO.iast (t := 54) rfl rfl (by decide +kernel) h197 vi_ir (by omega) (by omega) ⟨by omega, by omega⟩ (by omega) (by omega) dX12_reading_157 (fun V203 e202 => ?_)
                  have k204 := st_oth e202 k186.1 h_x h197 (by decide) (by decide)
                  clear k186
                  have sS205 : sd V203 x = sd V95 x := k204.2.1.trans sS187
                  have sQ206 : wt V203 x = wt V95 x := k204.2.2.trans sQ188
                  have ak207 := tk_oth e202 ak189.1 h_x h197 (by decide) (by decide) ak189.2
                  clear ak189
                  have ak208 := tk_oth e202 ak190.1 h_x h197 (by decide) (by decide) ak190.2
                  clear ak190
                  have ak209 := tk_oth e202 ak191.1 h_x h197 (by decide) (by decide) ak191.2
                  clear ak191
                  have ak210 := tk_oth e202 ak192.1 h_x h197 (by decide) (by decide) ak192.2
                  clear ak192
                  have ak211 := tk_oth e202 ak193.1 h_x h197 (by decide) (by decide) ak193.2
                  clear ak193
                  have ak212 := tk_oth e202 ak194.1 h_x h197 (by decide) (by decide) ak194.2
                  clear ak194
                  have ak213 := tk_oth e202 ak195.1 h_x h197 (by decide) (by decide) ak195.2
                  clear ak195
                  have ak214 := tk_oth e202 ak196.1 h_x h197 (by decide) (by decide) ak196.2
                  clear ak196
                  refine GO.aload_n dX12_reading_158 rfl rfl ?_
                  refine GO.getA (n := 20) h_x fl_RX12_148 rfl rfl rfl rfl dX12_reading_159 (fun hv216 h215 => ?_)
                  refine GO.aload_n dX12_reading_162 rfl rfl ?_
                  refine GO.getI h_x fl_RX12_547 rfl rfl dX12_reading_163 (fun l217 u218 => ?_)
                  have e219 : vi V203 x 48 = vi V185 x 48 := vi_up e202 (Or.inl (K_ne h_x h197 (by decide)))
                  refine GO.aload_n dX12_reading_166 rfl rfl ?_
                  refine GO.getI h_x fl_RX12_466 rfl rfl dX12_reading_167 (fun l220 u221 => ?_)
                  have e223 : vi V185 x 36 = vi V152 x 36 := vi_up e184 (Or.inl (K_ne h_x h179 (by decide)))
                  have e222 : vi V203 x 36 = vi V185 x 36 := vi_up e202 (Or.inl (K_ne h_x h197 (by decide)))
                  have q225 : -2147483648 ≤ vi V95 x 36 ∧ vi V95 x 36 ≤ 2147483647 := vi_ir
                  have q226 : -2147483648 ≤ vi V95 x 31 ∧ vi V95 x 31 ≤ 2147483647 := vi_ir
                  refine GO.iast (t := 52) rfl rfl (by decide +kernel) h215 vi_ir (by omega) (by omega) vi_ir (by omega) (by omega) dX12_reading_170 (fun V227 e224 => ?_)
                  have k228 := st_oth e224 k204.1 h_x h215 (by decide) (by decide)
                  clear k204
                  have sS229 : sd V227 x = sd V95 x := k228.2.1.trans sS205
                  have sQ230 : wt V227 x = wt V95 x := k228.2.2.trans sQ206
                  clear k228
                  have ak231 := tk_oth e224 ak207.1 h_x h215 (by decide) (by decide) ak207.2
                  clear ak207
                  have ak232 := tk_oth e224 ak208.1 h_x h215 (by decide) (by decide) ak208.2
                  clear ak208
                  have ak233 := tk_oth e224 ak209.1 h_x h215 (by decide) (by decide) ak209.2
                  clear ak209
                  have ak234 := tk_oth e224 ak210.1 h_x h215 (by decide) (by decide) ak210.2
                  clear ak210
                  have ak235 := tk_oth e224 ak211.1 h_x h215 (by decide) (by decide) ak211.2
                  clear ak211
                  have ak236 := tk_oth e224 ak212.1 h_x h215 (by decide) (by decide) ak212.2
                  clear ak212
                  have ak237 := tk_oth e224 ak213.1 h_x h215 (by decide) (by decide) ak213.2
                  clear ak213
                  have ak238 := tk_put e224 ak214.1 h_x (vq_of hv216) vi_ir ak214.2
                  clear ak214
                  refine GO.iconst dX12_reading_171 ?_
                  refine GO.istore (ls1 := [some (.ref x), some (ti p0), some (ti p1), some (ti p2), some (ti p3), some (ti 1), some (ti 0)]) dX12_reading_172 rfl rfl ?_
                  have e242 : vi V185 x 47 = vi V152 x 47 := vi_up e184 (Or.inl (K_ne h_x h179 (by decide)))
                  have e241 : vi V203 x 47 = vi V185 x 47 := vi_up e202 (Or.inl (K_ne h_x h197 (by decide)))
                  have e240 : vi V227 x 47 = vi V203 x 47 := vi_up e224 (Or.inl (K_ne h_x h215 (by decide)))
                  have q243 : -2147483648 ≤ vi V x 47 ∧ vi V x 47 ≤ 2147483647 := vi_ir
                  have e244 : vi V227 x 48 = vi V203 x 48 := vi_up e224 (Or.inl (K_ne h_x h215 (by decide)))
                  have e245 : vi V227 x 36 = vi V203 x 36 := vi_up e224 (Or.inl (K_ne h_x h215 (by decide)))
                  have e248 : vi V185 x 30 = vi V152 x 30 := vi_up e184 (Or.inl (K_ne h_x h179 (by decide)))
                  have e247 : vi V203 x 30 = vi V185 x 30 := vi_up e202 (Or.inl (K_ne h_x h197 (by decide)))
                  have e246 : vi V227 x 30 = vi V203 x 30 := vi_up e224 (Or.inl (K_ne h_x h215 (by decide)))
                  refine GO.loop1 (fun i239 W => 0 ≤ i239 ∧ i239 ≤ 100 ∧ (vi W x 47 = vi V227 x 47 ∧ vi W x 48 = vi V227 x 48 ∧ vi W x 36 = vi V152 x 36 ∧ vi W x 30 = 0) ∧ (CPf (ar 60 V x) (ar 39 V152 x) (ar 60 W x) (110 * vi V x 48) 0 i239) ∧ ar 39 W x = ar 39 V95 x ∧ ar 49 W x = ar 49 V x ∧ ar 50 W x = ar 50 V x ∧ ar 53 W x = ar 53 V x ∧ ar 54 W x = ar 54 V x ∧ ar 55 W x = ar 55 V x ∧ ar 61 W x = updf (ar 61 V x) (vi V203 x 48).toNat (vi V203 x 36) ∧ True) (fun i239 => [some (.ref x), some (ti p0), some (ti p1), some (ti p2), some (ti p3), some (ti 1), some (ti i239)]) (fun i239 W => (2147483647 - i239).toNat) 0 ⟨by omega, by omega, by omega, (by first | exact CPf.rf.at ak237.2), ak231.2, ak232.2, ak233.2, ak234.2, ak235.2, ak236.2, ak238.2, trivial⟩ rfl (fun i239 Wi239 hp691 ih690 => ?_)
                  clear ak231 ak232 ak233 ak234 ak235 ak236 ak237 ak238
                  obtain ⟨l_i239, u_i239, n_i239, h60, kp692, kp693, kp694, kp695, kp696, kp697, kp698, -⟩ := hp691
                  have r_i239 : ir i239 := ⟨by omega, by omega⟩
                  show GO mX12_reading K V (IS K (fun X V1 => (X ≥ (-2147483648) ∧ X ≤ 2147483647) ∧ (GX V1 x) ∧ (MRX V V1 x p0 p1 p2 p3 X))) K Wi239 0 0 174 [some (.ref x), some (ti p0), some (ti p1), some (ti p2), some (ti p3), some (ti 1), some (ti i239)] []
                  refine GO.useWT (fun hW699 => ?_)
                  have aq700 := hW699.aq h_x
                  refine GO.useWT (fun hW701 => ?_)
                  have ak702 := hW701.arr h_x 39 32 (by decide) rfl (by decide)
                  have ak703 := hW701.arr h_x 49 40 (by decide) rfl (by decide)
                  have ak704 := hW701.arr h_x 50 41 (by decide) rfl (by decide)
                  have ak705 := hW701.arr h_x 53 44 (by decide) rfl (by decide)
                  have ak706 := hW701.arr h_x 54 45 (by decide) rfl (by decide)
                  have ak707 := hW701.arr h_x 55 46 (by decide) rfl (by decide)
                  have ak708 := hW701.arr h_x 60 51 (by decide) rfl (by decide)
                  have ak709 := hW701.arr h_x 61 52 (by decide) rfl (by decide)
                  refine GO.iload dX12_reading_174 rfl ?_
                  refine GO.aload_n dX12_reading_176 rfl rfl ?_
                  refine GO.getI h_x fl_RX12_466 rfl rfl dX12_reading_177 (fun l710 u711 => ?_)
                  refine GO.icmp_ge (tgt := 211) dX12_reading_180 (by decide) r_i239 vi_ir (fun c712 => ?_) (fun c712 => ?_)
                  ·
                    refine GO.aload_n dX12_reading_211 rfl rfl ?_
                    refine GO.aload_n dX12_reading_212 rfl rfl ?_
                    refine GO.getI h_x fl_RX12_547 rfl rfl dX12_reading_213 (fun l713 u714 => ?_)
                    refine GO.iconst dX12_reading_216 ?_
                    refine GO.iadd dX12_reading_217 ?_
                    have q716 : -2147483648 ≤ vi Wi239 x 48 ∧ vi Wi239 x 48 ≤ 2147483647 := vi_ir
                    refine GO.putI h_x fp_RX12_547 rfl (by decide +kernel) ⟨by omega, by omega⟩ (by omega) (by omega) dX12_reading_218 (fun V717 e715 => ?_)
                    have k718 := st_fld e715 aq700 h_x (by decide) (by decide)
                    have sS719 : sd V717 x = sd Wi239 x := k718.2.1.trans (rfl : sd Wi239 x = sd Wi239 x)
                    have sQ720 : wt V717 x = wt Wi239 x := k718.2.2.trans (rfl : wt Wi239 x = wt Wi239 x)
                    clear k718
                    have ak721 := tk_fld e715 ak702 h_x (by decide) kp692
                    clear kp692 ak702 ak721
                    have ak722 := tk_fld e715 ak703 h_x (by decide) kp693
                    clear kp693 ak703
                    have ak723 := tk_fld e715 ak704 h_x (by decide) kp694
                    clear kp694 ak704
                    have ak724 := tk_fld e715 ak705 h_x (by decide) kp695
                    clear kp695 ak705
                    have ak725 := tk_fld e715 ak706 h_x (by decide) kp696
                    clear kp696 ak706
                    have ak726 := tk_fld e715 ak707 h_x (by decide) kp697
                    clear kp697 ak707
                    have ak727 := tk_fld e715 ak708 h_x (by decide) (rfl : ar 60 Wi239 x = ar 60 Wi239 x)
                    clear ak708
                    have ak728 := tk_fld e715 ak709 h_x (by decide) kp698
                    clear kp698 ak709
                    refine GO.iconst dX12_reading_221 ?_
                    have e729 : vi V717 x 47 = vi Wi239 x 47 := vi_up e715 (Or.inr (by decide))
                    have e730 : vi V717 x 48 = (vi Wi239 x 48) + 1 := upd2_int e715 ⟨by omega, by omega⟩
                    have e731 : vi V717 x 30 = vi Wi239 x 30 := vi_up e715 (Or.inr (by decide))
                    have e735 : vi V717 x 36 = vi Wi239 x 36 := vi_up e715 (Or.inr (by decide))
                    exact GO.reti rfl rfl dX12_reading_222 ⟨rfl, _, rfl, (ir_c rfl), ⟨(by first | exact trivial | omega), (by first | exact w_0 | exact GX.mk w_0 (by omega) (by omega) ak722.2 ak723.2 ak724.2 ak725.2 ak726.2 ak727.2 ak728.2 | exact GX.reading hW_0 h_x w_0 (hg1.eq rfl (by omega)) (by omega) (by omega) (by omega) (by omega) ak728.2 (by omega) ak727.2 h60 (by omega) ak722.2 ak723.2 ak724.2 ak725.2 ak726.2), (by first | exact MRX.no (MRC.ni rw11 (by omega)) rfl | exact MRX.no (MRC.na rw28 (by omega) (by omega)) rfl | exact MRX.no (MRC.nn (by omega)) rfl | exact MRX.e1 hmc hT0 (by omega) (by omega) rq0_82 (by omega) (by omega) (by omega) (by omega) | exact MRX.e2 hmc hT0 (by omega) (by omega) rq0_82 (by omega) (by omega) (by omega) (by omega) (by omega) (by omega) | exact MRX.ok hmc hT0 (by omega) (by omega) rq0_82 (by omega) (by omega) rfl (by omega) (by omega))⟩⟩
                  ·
                    refine GO.aload_n dX12_reading_183 rfl rfl ?_
                    refine GO.getA (n := 2200) h_x fl_RX12_145 rfl rfl rfl rfl dX12_reading_184 (fun hv737 h736 => ?_)
                    refine GO.bipush dX12_reading_187 rfl ?_
                    refine GO.aload_n dX12_reading_189 rfl rfl ?_
                    refine GO.getI h_x fl_RX12_547 rfl rfl dX12_reading_190 (fun l738 u739 => ?_)
                    refine GO.imul dX12_reading_193 ?_
                    refine GO.iload dX12_reading_194 rfl ?_
                    refine GO.iadd dX12_reading_196 ?_
                    refine GO.aload_n dX12_reading_197 rfl rfl ?_
                    refine GO.getA (n := 220) h_x fl_RX12_88 rfl rfl rfl rfl dX12_reading_198 (fun hv741 h740 => ?_)
                    refine GO.iload dX12_reading_201 rfl ?_
                    have hl39 : vi Wi239 (vq Wi239 x 39) (i239).toNat = ar 39 V152 x (i239).toNat := (congrFun kp692 (i239).toNat).trans (congrFun hm39 (i239).toNat).symm
                    have q742 : -2147483648 ≤ vi Wi239 x 36 ∧ vi Wi239 x 36 ≤ 2147483647 := vi_ir
                    refine GO.iald (t := 32) rfl rfl h740 r_i239 (by omega) (by omega) dX12_reading_203 (fun l743 u744 => ?_)
                    have q745 : -2147483648 ≤ vi Wi239 x 48 ∧ vi Wi239 x 48 ≤ 2147483647 := vi_ir
                    refine GO.iast (t := 51) rfl rfl (by decide +kernel) h736 ⟨by omega, by omega⟩ (by omega) (by omega) vi_ir (by omega) (by omega) dX12_reading_204 (fun V747 e746 => ?_)
                    have k748 := st_oth e746 aq700 h_x h736 (by decide) (by decide)
                    have sS749 : sd V747 x = sd Wi239 x := k748.2.1.trans (rfl : sd Wi239 x = sd Wi239 x)
                    have sQ750 : wt V747 x = wt Wi239 x := k748.2.2.trans (rfl : wt Wi239 x = wt Wi239 x)
                    clear k748
                    have ak751 := tk_oth e746 ak702 h_x h736 (by decide) (by decide) kp692
                    clear kp692 ak702
                    have ak752 := tk_oth e746 ak703 h_x h736 (by decide) (by decide) kp693
                    clear kp693 ak703
                    have ak753 := tk_oth e746 ak704 h_x h736 (by decide) (by decide) kp694
                    clear kp694 ak704
                    have ak754 := tk_oth e746 ak705 h_x h736 (by decide) (by decide) kp695
                    clear kp695 ak705
                    have ak755 := tk_oth e746 ak706 h_x h736 (by decide) (by decide) kp696
                    clear kp696 ak706
                    have ak756 := tk_oth e746 ak707 h_x h736 (by decide) (by decide) kp697
                    clear kp697 ak707
                    have ak757 := tk_put e746 ak708 h_x (vq_of hv737) vi_ir (rfl : ar 60 Wi239 x = ar 60 Wi239 x)
                    clear ak708
                    have ak758 := tk_oth e746 ak709 h_x h736 (by decide) (by decide) kp698
                    clear kp698 ak709
                    refine GO.iinc (X := i239) (n := 1) (Y := i239 + 1) (ls1 := [some (.ref x), some (ti p0), some (ti p1), some (ti p2), some (ti p3), some (ti 1), some (ti (i239 + 1))]) dX12_reading_205 rfl rfl rfl rfl ?_
                    refine GO.goto (tgt := 174) dX12_reading_208 (by decide) ?_
                    have e759 : vi V747 x 47 = vi Wi239 x 47 := vi_up e746 (Or.inl (K_ne h_x h736 (by decide)))
                    have q760 : -2147483648 ≤ vi Wi239 x 47 ∧ vi Wi239 x 47 ≤ 2147483647 := vi_ir
                    have e761 : vi V747 x 48 = vi Wi239 x 48 := vi_up e746 (Or.inl (K_ne h_x h736 (by decide)))
                    have e762 : vi V747 x 36 = vi Wi239 x 36 := vi_up e746 (Or.inl (K_ne h_x h736 (by decide)))
                    have e763 : vi V747 x 30 = vi Wi239 x 30 := vi_up e746 (Or.inl (K_ne h_x h736 (by decide)))
                    have q764 : -2147483648 ≤ vi Wi239 x 30 ∧ vi Wi239 x 30 ≤ 2147483647 := vi_ir
                    exact ih690 (i239 + 1) V747 ⟨by omega, by omega, by omega, (by first | exact CPf.rf.at ak757.2 | exact CPf.put h60 (by omega) (by omega) ak757.2 (by omega) (by omega) (by omega)), ak751.2, ak752.2, ak753.2, ak754.2, ak755.2, ak756.2, ak758.2, trivial⟩ (by show (2147483647 - (i239 + 1)).toNat < (2147483647 - i239).toNat; omega)
                ·
                  refine GO.aload_n dX12_reading_99 rfl rfl ?_
                  refine GO.iconst dX12_reading_100 ?_
                  refine GO.aload_n dX12_reading_101 rfl rfl ?_
                  refine GO.getI h_x fl_RX12_443 rfl rfl dX12_reading_102 (fun l765 u766 => ?_)
                  have q767 : -2147483648 ≤ vi V95 x 31 ∧ vi V95 x 31 ≤ 2147483647 := vi_ir
                  have q768 : -2147483648 ≤ vi V95 x 36 ∧ vi V95 x 36 ≤ 2147483647 := vi_ir
                  refine GO.callV (ci := 11) (N := mX12_wrong) dX12_reading_105 (RX12, TX12, 151) rfl gV_RX12_456 h_x (t_X12_wrong h_x (ir_c rfl) vi_ir (by omega) (by omega) (by omega) (by omega)) rfl [] rfl rfl (Nat.le_of_ble_eq_true rfl) rfl (k_is fun X769 V773 r770 h771 hF772 => ?_)
                  have k774 := st_fr hF772 aq97 h_x (by decide +kernel) (by decide +kernel) (by decide +kernel) (by decide +kernel)
                  have sS775 : sd V773 x = sd V95 x := k774.2.1.trans (rfl : sd V95 x = sd V95 x)
                  have sQ776 : wt V773 x = wt V95 x := k774.2.2.trans (rfl : wt V95 x = wt V95 x)
                  have ak777 := tk_fr hF772 ak106 h_x (by decide +kernel) (by decide +kernel) (rfl : ar 39 V95 x = ar 39 V95 x)
                  clear ak106
                  have ak778 := tk_fr hF772 ak98.1 h_x (by decide +kernel) (by decide +kernel) ak98.2
                  clear ak98
                  have ak779 := tk_fr hF772 ak99.1 h_x (by decide +kernel) (by decide +kernel) ak99.2
                  clear ak99
                  have ak780 := tk_fr hF772 ak100.1 h_x (by decide +kernel) (by decide +kernel) ak100.2
                  clear ak100
                  have ak781 := tk_fr hF772 ak101.1 h_x (by decide +kernel) (by decide +kernel) ak101.2
                  clear ak101
                  have ak782 := tk_fr hF772 ak102.1 h_x (by decide +kernel) (by decide +kernel) ak102.2
                  clear ak102
                  have ak783 := tk_fr hF772 ak103.1 h_x (by decide +kernel) (by decide +kernel) ak103.2
                  clear ak103
                  have ak784 := tk_fr hF772 ak104.1 h_x (by decide +kernel) (by decide +kernel) ak104.2
                  clear ak104
                  refine GO.if_eq (tgt := 115) dX12_reading_108 (by decide) r770 (fun c786 => ?_) (fun h => by exfalso; omega)
                  refine GO.iconst dX12_reading_115 ?_
                  refine GO.istore (ls1 := [some (.ref x), some (ti p0), some (ti p1), some (ti p2), some (ti p3), some (ti 0), none]) dX12_reading_116 rfl rfl ?_
                  refine GO.aload_n dX12_reading_118 rfl rfl ?_
                  refine GO.iconst dX12_reading_119 ?_
                  refine GO.putI h_x fp_RX12_436 rfl (by decide +kernel) (ir_c rfl) (by decide) (by decide) dX12_reading_120 (fun V788 e787 => ?_)
                  have k789 := st_fld e787 k774.1 h_x (by decide) (by decide)
                  clear k774
                  have sS790 : sd V788 x = sd V95 x := k789.2.1.trans sS775
                  have sQ791 : wt V788 x = wt V95 x := k789.2.2.trans sQ776
                  clear k789
                  have ak792 := tk_fld e787 ak777.1 h_x (by decide) ak777.2
                  clear ak777 ak792
                  have ak793 := tk_fld e787 ak778.1 h_x (by decide) ak778.2
                  clear ak778
                  have ak794 := tk_fld e787 ak779.1 h_x (by decide) ak779.2
                  clear ak779
                  have ak795 := tk_fld e787 ak780.1 h_x (by decide) ak780.2
                  clear ak780
                  have ak796 := tk_fld e787 ak781.1 h_x (by decide) ak781.2
                  clear ak781
                  have ak797 := tk_fld e787 ak782.1 h_x (by decide) ak782.2
                  clear ak782
                  have ak798 := tk_fld e787 ak783.1 h_x (by decide) ak783.2
                  clear ak783
                  have ak799 := tk_fld e787 ak784.1 h_x (by decide) ak784.2
                  clear ak784
                  refine GO.iload dX12_reading_123 rfl ?_
                  refine GO.if_ne (tgt := 133) dX12_reading_125 (by decide) (ir_c rfl) (fun h => by exfalso; omega) (fun c800 => ?_)
                  refine GO.aload_n dX12_reading_128 rfl rfl ?_
                  refine GO.getI h_x fl_RX12_453 rfl rfl dX12_reading_129 (fun _ _ => ?_)
                  have e801 : vi V788 x 33 = vi V773 x 33 := vi_up e787 (Or.inr (by decide))
                  have q802 : -2147483648 ≤ vi V788 x 33 ∧ vi V788 x 33 ≤ 2147483647 := vi_ir
                  have q803 : -2147483648 ≤ vi V773 x 33 ∧ vi V773 x 33 ≤ 2147483647 := vi_ir
                  have e809 : vi V46 x 47 = vi V x 47 := vi_up e45 (Or.inr (by decide))
                  have e808 : vi V60 x 47 = vi V46 x 47 := vi_up e58 (Or.inr (by decide))
                  have e807 : vi V73 x 47 = vi V60 x 47 := vi_up e72 (Or.inr (by decide))
                  have e806 : vi V95 x 47 = vi V73 x 47 := vi_fr hF94 h_x h_x (by decide +kernel)
                  have e805 : vi V773 x 47 = vi V95 x 47 := vi_fr hF772 h_x h_x (by decide +kernel)
                  have e804 : vi V788 x 47 = vi V773 x 47 := vi_up e787 (Or.inr (by decide))
                  have e815 : vi V46 x 48 = vi V x 48 := vi_up e45 (Or.inr (by decide))
                  have e814 : vi V60 x 48 = vi V46 x 48 := vi_up e58 (Or.inr (by decide))
                  have e813 : vi V73 x 48 = vi V60 x 48 := vi_up e72 (Or.inr (by decide))
                  have e812 : vi V95 x 48 = vi V73 x 48 := vi_fr hF94 h_x h_x (by decide +kernel)
                  have e811 : vi V773 x 48 = vi V95 x 48 := vi_fr hF772 h_x h_x (by decide +kernel)
                  have e810 : vi V788 x 48 = vi V773 x 48 := vi_up e787 (Or.inr (by decide))
                  have e816 : vi V788 x 30 = 0 := upd2_int e787 (ir_c rfl)
                  have e818 : vi V773 x 31 = vi V95 x 31 := vi_fr hF772 h_x h_x (by decide +kernel)
                  have e817 : vi V788 x 31 = vi V773 x 31 := vi_up e787 (Or.inr (by decide))
                  have e820 : vi V773 x 32 = vi V95 x 32 := vi_fr hF772 h_x h_x (by decide +kernel)
                  have e819 : vi V788 x 32 = vi V773 x 32 := vi_up e787 (Or.inr (by decide))
                  have e822 : vi V773 x 36 = vi V95 x 36 := vi_fr hF772 h_x h_x (by decide +kernel)
                  have e821 : vi V788 x 36 = vi V773 x 36 := vi_up e787 (Or.inr (by decide))
                  exact GO.reti rfl rfl dX12_reading_132 ⟨rfl, _, rfl, vi_ir, ⟨(by first | exact trivial | omega), (by first | exact w_0 | exact GX.mk w_0 (by omega) (by omega) ak793.2 ak794.2 ak795.2 ak796.2 ak797.2 ak798.2 ak799.2), (by first | exact MRX.no (MRC.ni rw11 (by omega)) rfl | exact MRX.no (MRC.na rw28 (by omega) (by omega)) rfl | exact MRX.no (MRC.nn (by omega)) rfl | exact MRX.e1 hmc hT0 (by omega) (by omega) rq0_82 (by omega) (by omega) (by omega) (by omega) | exact MRX.e2 hmc hT0 (by omega) (by omega) rq0_82 (by omega) (by omega) (by omega) (by omega) (by omega) (by omega) | exact MRX.ok hmc hT0 (by omega) (by omega) rq0_82 (by omega) (by omega) rfl (by omega) (by omega))⟩⟩
            ·
              clear ak4 ak5 ak6 ak7 ak8 ak9 ak10 ak11
              refine GO.iconst dX12_reading_63 ?_
              exact GO.reti rfl rfl dX12_reading_64 ⟨rfl, _, rfl, (ir_c rfl), ⟨(by first | exact trivial | omega), (by first | exact w_0 | exact GX.mk w_0 (by omega) (by omega) (rfl : ar 49 V x = ar 49 V x) (rfl : ar 50 V x = ar 50 V x) (rfl : ar 53 V x = ar 53 V x) (rfl : ar 54 V x = ar 54 V x) (rfl : ar 55 V x = ar 55 V x) (rfl : ar 60 V x = ar 60 V x) (rfl : ar 61 V x = ar 61 V x)), (by first | exact MRX.no (MRC.ni rw11 (by omega)) rfl | exact MRX.no (MRC.na rw28 (by omega) (by omega)) rfl | exact MRX.no (MRC.nn (by omega)) rfl)⟩⟩
