def mX4_fill : MRec := (RX4, cX4_fill, 3, (none : Option Jvm.ClassFile.FieldType), yX4_fill, 0, 0, 0, 0, 3794275180128377091639574036764685364535950857523710002444946112771297432041422848)
def mX0_lay : MRec := (RX0, cX0_lay, 3, (none : Option Jvm.ClassFile.FieldType), yX0_lay, 1, 22, 0, 0, 3794275180128377091639574036764685364535950857523710002444946112771297432041422872)
def mX0_isCell : MRec := (RX0, cX0_isCell, 2, (some .boolean), yX0_isCell, 0, 0, 0, 0, 0)
def mX0_isFirm : MRec := (RX0, cX0_isFirm, 3, (some .boolean), yX0_isFirm, 1, 21, 0, 0, 0)
def mX0_rowOf : MRec := (RX0, cX0_rowOf, 2, (some .int), yX0_rowOf, 0, 0, 0, 0, 0)
def mX0_columnOf : MRec := (RX0, cX0_columnOf, 2, (some .int), yX0_columnOf, 0, 0, 0, 0, 0)
def mJ9_abs_0f7a4 : MRec := (RJ9, cJ9_abs_0f7a4, 1, (some .int), yJ9_abs_0f7a4, 0, 0, 0, 0, 0)
def mX0_far : MRec := (RX0, cX0_far, 3, (some .int), yX0_far, 1, 21, 0, 0, 0)
def mX0_isRectangle : MRec := (RX0, cX0_isRectangle, 3, (some .boolean), yX0_isRectangle, 1, 21, 0, 0, 0)
def mX0_isWithin : MRec := (RX0, cX0_isWithin, 4, (some .boolean), yX0_isWithin, 2, 43, 0, 0, 0)
def mX0_beside : MRec := (RX0, cX0_beside, 6, (some .int), yX0_beside, 1, 21, 0, 0, 0)
def mX0_isNearSea : MRec := (RX0, cX0_isNearSea, 4, (some .boolean), yX0_isNearSea, 2, 46, 0, 0, 0)
def mX0_isDark : MRec := (RX0, cX0_isDark, 3, (some .boolean), yX0_isDark, 0, 0, 0, 0, 0)
def mX0_coverOn : MRec := (RX0, cX0_coverOn, 3, (some .int), yX0_coverOn, 1, 21, 0, 0, 0)
def mX0_carries : MRec := (RX0, cX0_carries, 4, (some .boolean), yX0_carries, 1, 21, 0, 0, 0)
def mX4_put : MRec := (RX4, cX4_put, 3, (none : Option Jvm.ClassFile.FieldType), yX4_put, 0, 0, 0, 0, 3794275180128377091639574036764685364535950857523710002444946112771297432041422848)
def mX0_nearestOpen : MRec := (RX0, cX0_nearestOpen, 5, (some .int), yX0_nearestOpen, 1, 21, 0, 0, 0)
def mX0_step : MRec := (RX0, cX0_step, 5, (none : Option Jvm.ClassFile.FieldType), yX0_step, 2, 43, 0, 0, 3794275180128377091639574036764685364535950857523710002444946112771297432041422848)
def mX0_leastDays : MRec := (RX0, cX0_leastDays, 6, (some .int), yX0_leastDays, 3, 67, 0, 0, 3794275180128377091639574036764685364535950857523710002444946112771297432041422848)
set_option maxHeartbeats 1000000 in
theorem t_X4_fill {K : Kmap} {V : Vmap} {p0 n_p0 : Nat} {p1 : Int} (h_p0 : K p0 = some (1, n_p0)) (r_p1 : ir p1) : MC mX4_fill K V [.ref p0, ti p1] (VS K (fun V1 => (True))) := by
  refine MC.start 1 (by decide +kernel) rfl rfl rfl (ls0 := [some (.ref p0), some (ti p1), none]) rfl ?_
  refine GO.aload_n dX4_fill_0 rfl rfl ?_
  refine GO.ifnonnull (tgt := 5) dX4_fill_1 (by decide) ?_
  refine GO.iconst dX4_fill_5 ?_
  refine GO.istore_n (ls1 := [some (.ref p0), some (ti p1), some (ti 0)]) dX4_fill_6 rfl rfl rfl ?_
  refine GO.loop1 (fun i1 W => 0 ≤ i1 ∧ i1 ≤ 5000 ∧ True) (fun i1 => [some (.ref p0), some (ti p1), some (ti i1)]) (fun i1 W => (2147483647 - i1).toNat) 0 ⟨by omega, by omega, trivial⟩ rfl (fun i1 Wi1 hp39 ih38 => ?_)
  obtain ⟨l_i1, u_i1, -⟩ := hp39
  have r_i1 : ir i1 := ⟨by omega, by omega⟩
  show GO mX4_fill K V (VS K (fun V1 => (True))) K Wi1 0 0 7 [some (.ref p0), some (ti p1), some (ti i1)] []
  refine GO.iload_n dX4_fill_7 rfl rfl ?_
  refine GO.aload_n dX4_fill_8 rfl rfl ?_
  refine GO.alen h_p0 dX4_fill_9 (fun h40 => ?_)
  refine GO.icmp_ge (tgt := 23) dX4_fill_10 (by decide) r_i1 ⟨by omega, by omega⟩ (fun c41 => ?_) (fun c41 => ?_)
  ·
    exact GO.retv rfl rfl dX4_fill_23 ⟨rfl, rfl, trivial⟩
  ·
    refine GO.aload_n dX4_fill_13 rfl rfl ?_
    refine GO.iload_n dX4_fill_14 rfl rfl ?_
    refine GO.iload_n dX4_fill_15 rfl rfl ?_
    refine GO.iast (t := 0) rfl rfl (by decide +kernel) h_p0 r_i1 (by omega) (by omega) r_p1 (r_p1).1 (r_p1).2 dX4_fill_16 (fun V43 e42 => ?_)
    refine GO.iinc (X := i1) (n := 1) (Y := i1 + 1) (ls1 := [some (.ref p0), some (ti p1), some (ti (i1 + 1))]) dX4_fill_17 rfl rfl rfl rfl ?_
    refine GO.goto (tgt := 7) dX4_fill_20 (by decide) ?_
    exact ih38 (i1 + 1) V43 ⟨by omega, by omega, trivial⟩ (by show (2147483647 - (i1 + 1)).toNat < (2147483647 - i1).toNat; omega)

set_option maxHeartbeats 1000000 in
theorem t_X0_lay {K : Kmap} {V : Vmap} {x : Nat} {p0 : Int} {p1 : Int} (h_x : K x = some (0, 0)) (r_p0 : ir p0) (r_p1 : ir p1) : MC mX0_lay K V [.ref x, ti p0, ti p1] (VS K (fun V1 => (True))) := by
  refine MC.start 0 (by decide +kernel) rfl rfl rfl (ls0 := [some (.ref x), some (ti p0), some (ti p1)]) rfl ?_
  refine GO.aload_n dX0_lay_0 rfl rfl ?_
  refine GO.iload_n dX0_lay_1 rfl rfl ?_
  refine GO.putI h_x fp_RX0_21 rfl (by decide +kernel) r_p0 (r_p0).1 (r_p0).2 dX0_lay_2 (fun V2 e1 => ?_)
  refine GO.aload_n dX0_lay_5 rfl rfl ?_
  refine GO.iload_n dX0_lay_6 rfl rfl ?_
  refine GO.putI h_x fp_RX0_24 rfl (by decide +kernel) r_p1 (r_p1).1 (r_p1).2 dX0_lay_7 (fun V4 e3 => ?_)
  refine GO.aload_n dX0_lay_10 rfl rfl ?_
  refine GO.getB h_x fl_RX0_27 rfl rfl dX0_lay_11 (fun n7 hv6 h5 b8 => ?_)
  refine GO.iconst dX0_lay_14 ?_
  refine GO.callS (N := mX4_fill) dX0_lay_15 gS_RX0_52 (t_X4_fill h5 (ir_c rfl)) rfl [] rfl rfl (Nat.le_of_ble_eq_true rfl) rfl (k_vs fun V11 h10 hF9 => ?_)
  refine GO.aload_n dX0_lay_18 rfl rfl ?_
  refine GO.getB h_x fl_RX0_31 rfl rfl dX0_lay_19 (fun n14 hv13 h12 b15 => ?_)
  refine GO.iconst dX0_lay_22 ?_
  refine GO.callS (N := mX4_fill) dX0_lay_23 gS_RX0_52 (t_X4_fill h12 (ir_c rfl)) rfl [] rfl rfl (Nat.le_of_ble_eq_true rfl) rfl (k_vs fun V18 h17 hF16 => ?_)
  refine GO.aload_n dX0_lay_26 rfl rfl ?_
  refine GO.getB h_x fl_RX0_34 rfl rfl dX0_lay_27 (fun n21 hv20 h19 b22 => ?_)
  refine GO.iconst dX0_lay_30 ?_
  refine GO.callS (N := mX4_fill) dX0_lay_31 gS_RX0_52 (t_X4_fill h19 (ir_c rfl)) rfl [] rfl rfl (Nat.le_of_ble_eq_true rfl) rfl (k_vs fun V25 h24 hF23 => ?_)
  refine GO.aload_n dX0_lay_34 rfl rfl ?_
  refine GO.getB h_x fl_RX0_37 rfl rfl dX0_lay_35 (fun n28 hv27 h26 b29 => ?_)
  refine GO.iconst dX0_lay_38 ?_
  refine GO.callS (N := mX4_fill) dX0_lay_39 gS_RX0_52 (t_X4_fill h26 (ir_c rfl)) rfl [] rfl rfl (Nat.le_of_ble_eq_true rfl) rfl (k_vs fun V32 h31 hF30 => ?_)
  exact GO.retv rfl rfl dX0_lay_42 ⟨rfl, rfl, trivial⟩

set_option maxHeartbeats 1000000 in
theorem t_X0_isCell {K : Kmap} {V : Vmap} {x : Nat} {p0 : Int} (h_x : K x = some (0, 0)) (r_p0 : ir p0) : MC mX0_isCell K V [.ref x, ti p0] (IP K V (fun X => (X = 0 ∨ X = 1) ∧ (X ≠ 0 → True) ∧ (X = 0 → True))) := by
  refine MC.start 0 (by decide +kernel) rfl rfl rfl (ls0 := [some (.ref x), some (ti p0)]) rfl ?_
  refine GO.iload_n dX0_isCell_0 rfl rfl ?_
  refine GO.if_lt (tgt := 21) dX0_isCell_1 (by decide) r_p0 (fun c1 => ?_) (fun c1 => ?_)
  ·
    refine GO.iconst dX0_isCell_21 ?_
    exact GO.retz rfl rfl dX0_isCell_22 (Or.inl rfl) ⟨rfl, rfl, _, rfl, (ir_c rfl), ⟨Or.inl rfl, fun _ => trivial, fun _ => trivial⟩⟩
  ·
    refine GO.iload_n dX0_isCell_4 rfl rfl ?_
    refine GO.aload_n dX0_isCell_5 rfl rfl ?_
    refine GO.getI h_x fl_RX0_21 rfl rfl dX0_isCell_6 (fun _ _ => ?_)
    refine GO.aload_n dX0_isCell_9 rfl rfl ?_
    refine GO.getI h_x fl_RX0_24 rfl rfl dX0_isCell_10 (fun _ _ => ?_)
    refine GO.imul dX0_isCell_13 ?_
    refine GO.norm (fun z2 r3 _ => ?_)
    refine GO.icmp_ge (tgt := 21) dX0_isCell_14 (by decide) r_p0 r3 (fun c4 => ?_) (fun c4 => ?_)
    ·
      refine GO.iconst dX0_isCell_21 ?_
      exact GO.retz rfl rfl dX0_isCell_22 (Or.inl rfl) ⟨rfl, rfl, _, rfl, (ir_c rfl), ⟨Or.inl rfl, fun _ => trivial, fun _ => trivial⟩⟩
    ·
      refine GO.iconst dX0_isCell_17 ?_
      refine GO.goto (tgt := 22) dX0_isCell_18 (by decide) ?_
      exact GO.retz rfl rfl dX0_isCell_22 (Or.inr rfl) ⟨rfl, rfl, _, rfl, (ir_c rfl), ⟨Or.inr rfl, fun _ => trivial, fun _ => trivial⟩⟩

set_option maxHeartbeats 1000000 in
theorem t_X0_isFirm {K : Kmap} {V : Vmap} {x : Nat} {p0 : Int} (h_x : K x = some (0, 0)) (r_p0 : ir p0) : MC mX0_isFirm K V [.ref x, ti p0] (IP K V (fun X => (X = 0 ∨ X = 1) ∧ (X ≠ 0 → True) ∧ (X = 0 → True))) := by
  refine MC.start 1 (by decide +kernel) rfl rfl rfl (ls0 := [some (.ref x), some (ti p0), none]) rfl ?_
  refine GO.aload_n dX0_isFirm_0 rfl rfl ?_
  refine GO.getB h_x fl_RX0_31 rfl rfl dX0_isFirm_1 (fun n3 hv2 h1 b4 => ?_)
  refine GO.iload_n dX0_isFirm_4 rfl rfl ?_
  refine GO.callS (N := mX4_get) dX0_isFirm_5 gS_RX0_58 (t_X4_get rfl h1 r_p0) rfl [] rfl rfl (Nat.le_of_ble_eq_true rfl) rfl (k_ip fun X5 r6 h7 => ?_)
  refine GO.istore_n (ls1 := [some (.ref x), some (ti p0), some (ti X5)]) dX0_isFirm_8 rfl rfl rfl ?_
  refine GO.aload_n dX0_isFirm_9 rfl rfl ?_
  refine GO.iload_n dX0_isFirm_10 rfl rfl ?_
  refine GO.callV (ci := 0) (N := mX0_isCell) dX0_isFirm_11 (RX0, TX0, 13) rfl gV_RX0_62 h_x (t_X0_isCell h_x r_p0) rfl [] rfl rfl (Nat.le_of_ble_eq_true rfl) rfl (k_ip fun X8 r9 h10 => ?_)
  refine GO.if_eq (tgt := 30) dX0_isFirm_14 (by decide) r9 (fun c11 => ?_) (fun c11 => ?_)
  ·
    refine GO.iconst dX0_isFirm_30 ?_
    exact GO.retz rfl rfl dX0_isFirm_31 (Or.inl rfl) ⟨rfl, rfl, _, rfl, (ir_c rfl), ⟨Or.inl rfl, fun _ => trivial, fun _ => trivial⟩⟩
  ·
    refine GO.iload_n dX0_isFirm_17 rfl rfl ?_
    refine GO.if_eq (tgt := 26) dX0_isFirm_18 (by decide) r6 (fun c12 => ?_) (fun c12 => ?_)
    ·
      refine GO.iconst dX0_isFirm_26 ?_
      refine GO.goto (tgt := 31) dX0_isFirm_27 (by decide) ?_
      exact GO.retz rfl rfl dX0_isFirm_31 (Or.inr rfl) ⟨rfl, rfl, _, rfl, (ir_c rfl), ⟨Or.inr rfl, fun _ => trivial, fun _ => trivial⟩⟩
    ·
      refine GO.iload_n dX0_isFirm_21 rfl rfl ?_
      refine GO.iconst dX0_isFirm_22 ?_
      refine GO.icmp_ne (tgt := 30) dX0_isFirm_23 (by decide) r6 (ir_c rfl) (fun c13 => ?_) (fun c13 => ?_)
      ·
        refine GO.iconst dX0_isFirm_30 ?_
        exact GO.retz rfl rfl dX0_isFirm_31 (Or.inl rfl) ⟨rfl, rfl, _, rfl, (ir_c rfl), ⟨Or.inl rfl, fun _ => trivial, fun _ => trivial⟩⟩
      ·
        refine GO.iconst dX0_isFirm_26 ?_
        refine GO.goto (tgt := 31) dX0_isFirm_27 (by decide) ?_
        exact GO.retz rfl rfl dX0_isFirm_31 (Or.inr rfl) ⟨rfl, rfl, _, rfl, (ir_c rfl), ⟨Or.inr rfl, fun _ => trivial, fun _ => trivial⟩⟩

set_option maxHeartbeats 1000000 in
theorem t_X0_rowOf {K : Kmap} {V : Vmap} {x : Nat} {p0 : Int} (h_x : K x = some (0, 0)) (r_p0 : ir p0) : MC mX0_rowOf K V [.ref x, ti p0] (IP K V (fun X => True)) := by
  refine MC.start 0 (by decide +kernel) rfl rfl rfl (ls0 := [some (.ref x), some (ti p0)]) rfl ?_
  refine GO.aload_n dX0_rowOf_0 rfl rfl ?_
  refine GO.getI h_x fl_RX0_21 rfl rfl dX0_rowOf_1 (fun _ _ => ?_)
  refine GO.if_le (tgt := 16) dX0_rowOf_4 (by decide) vi_ir (fun c1 => ?_) (fun c1 => ?_)
  ·
    refine GO.iconst dX0_rowOf_16 ?_
    exact GO.reti rfl rfl dX0_rowOf_17 ⟨rfl, rfl, _, rfl, (ir_c rfl), trivial⟩
  ·
    refine GO.iload_n dX0_rowOf_7 rfl rfl ?_
    refine GO.aload_n dX0_rowOf_8 rfl rfl ?_
    refine GO.getI h_x fl_RX0_21 rfl rfl dX0_rowOf_9 (fun _ _ => ?_)
    have q2 : -2147483648 ≤ vi V x 3 ∧ vi V x 3 ≤ 2147483647 := vi_ir
    refine GO.idiv dX0_rowOf_12 vi_ir (by omega) ?_
    refine GO.goto (tgt := 17) dX0_rowOf_13 (by decide) ?_
    have q3 : -2147483648 ≤ wdiv p0 (vi V x 3) ∧ wdiv p0 (vi V x 3) ≤ 2147483647 := wdiv_ir
    exact GO.reti rfl rfl dX0_rowOf_17 ⟨rfl, rfl, _, rfl, wdiv_ir, trivial⟩

set_option maxHeartbeats 1000000 in
theorem t_X0_columnOf {K : Kmap} {V : Vmap} {x : Nat} {p0 : Int} (h_x : K x = some (0, 0)) (r_p0 : ir p0) : MC mX0_columnOf K V [.ref x, ti p0] (IP K V (fun X => True)) := by
  refine MC.start 0 (by decide +kernel) rfl rfl rfl (ls0 := [some (.ref x), some (ti p0)]) rfl ?_
  refine GO.aload_n dX0_columnOf_0 rfl rfl ?_
  refine GO.getI h_x fl_RX0_21 rfl rfl dX0_columnOf_1 (fun _ _ => ?_)
  refine GO.if_le (tgt := 16) dX0_columnOf_4 (by decide) vi_ir (fun c1 => ?_) (fun c1 => ?_)
  ·
    refine GO.iconst dX0_columnOf_16 ?_
    exact GO.reti rfl rfl dX0_columnOf_17 ⟨rfl, rfl, _, rfl, (ir_c rfl), trivial⟩
  ·
    refine GO.iload_n dX0_columnOf_7 rfl rfl ?_
    refine GO.aload_n dX0_columnOf_8 rfl rfl ?_
    refine GO.getI h_x fl_RX0_21 rfl rfl dX0_columnOf_9 (fun _ _ => ?_)
    have q2 : -2147483648 ≤ vi V x 3 ∧ vi V x 3 ≤ 2147483647 := vi_ir
    refine GO.irem dX0_columnOf_12 vi_ir (by omega) ?_
    refine GO.goto (tgt := 17) dX0_columnOf_13 (by decide) ?_
    have q3 : -2147483648 ≤ wrem p0 (vi V x 3) ∧ wrem p0 (vi V x 3) ≤ 2147483647 := wrem_ir
    exact GO.reti rfl rfl dX0_columnOf_17 ⟨rfl, rfl, _, rfl, wrem_ir, trivial⟩

set_option maxHeartbeats 1000000 in
theorem t_J9_abs_0f7a4 {K : Kmap} {V : Vmap} {p0 : Int} (r_p0 : ir p0) : MC mJ9_abs_0f7a4 K V [ti p0] (IP K V (fun X => True)) := by
  refine MC.start 0 (by decide +kernel) rfl rfl rfl (ls0 := [some (ti p0)]) rfl ?_
  refine GO.iload_n dJ9_abs_0f7a4_0 rfl rfl ?_
  refine GO.if_ge (tgt := 9) dJ9_abs_0f7a4_1 (by decide) r_p0 (fun c1 => ?_) (fun c1 => ?_)
  ·
    refine GO.iload_n dJ9_abs_0f7a4_9 rfl rfl ?_
    have q2 : -2147483648 ≤ p0 ∧ p0 ≤ 2147483647 := r_p0
    exact GO.reti rfl rfl dJ9_abs_0f7a4_10 ⟨rfl, rfl, _, rfl, r_p0, trivial⟩
  ·
    refine GO.iload_n dJ9_abs_0f7a4_4 rfl rfl ?_
    refine GO.ineg dJ9_abs_0f7a4_5 ?_
    refine GO.norm (fun z3 r4 _ => ?_)
    refine GO.goto (tgt := 10) dJ9_abs_0f7a4_6 (by decide) ?_
    have q5 : -2147483648 ≤ z3 ∧ z3 ≤ 2147483647 := r4
    exact GO.reti rfl rfl dJ9_abs_0f7a4_10 ⟨rfl, rfl, _, rfl, r4, trivial⟩

set_option maxHeartbeats 1000000 in
theorem t_X0_far {K : Kmap} {V : Vmap} {x : Nat} {p0 : Int} {p1 : Int} (h_x : K x = some (0, 0)) (r_p0 : ir p0) (r_p1 : ir p1) : MC mX0_far K V [.ref x, ti p0, ti p1] (IP K V (fun X => True)) := by
  refine MC.start 0 (by decide +kernel) rfl rfl rfl (ls0 := [some (.ref x), some (ti p0), some (ti p1)]) rfl ?_
  refine GO.aload_n dX0_far_0 rfl rfl ?_
  refine GO.iload_n dX0_far_1 rfl rfl ?_
  refine GO.callV (ci := 0) (N := mX0_rowOf) dX0_far_2 (RX0, TX0, 13) rfl gV_RX0_66 h_x (t_X0_rowOf h_x r_p0) rfl [] rfl rfl (Nat.le_of_ble_eq_true rfl) rfl (k_ip fun X1 r2 h3 => ?_)
  refine GO.aload_n dX0_far_5 rfl rfl ?_
  refine GO.iload_n dX0_far_6 rfl rfl ?_
  refine GO.callV (ci := 0) (N := mX0_rowOf) dX0_far_7 (RX0, TX0, 13) rfl gV_RX0_66 h_x (t_X0_rowOf h_x r_p1) rfl [ti X1] rfl rfl (Nat.le_of_ble_eq_true rfl) rfl (k_ip fun X4 r5 h6 => ?_)
  refine GO.isub dX0_far_10 ?_
  refine GO.norm (fun z7 r8 _ => ?_)
  refine GO.callS (N := mJ9_abs_0f7a4) dX0_far_11 gS_RX0_70 (t_J9_abs_0f7a4 r8) rfl [] rfl rfl (Nat.le_of_ble_eq_true rfl) rfl (k_ip fun X9 r10 h11 => ?_)
  refine GO.aload_n dX0_far_14 rfl rfl ?_
  refine GO.iload_n dX0_far_15 rfl rfl ?_
  refine GO.callV (ci := 0) (N := mX0_columnOf) dX0_far_16 (RX0, TX0, 13) rfl gV_RX0_75 h_x (t_X0_columnOf h_x r_p0) rfl [ti X9] rfl rfl (Nat.le_of_ble_eq_true rfl) rfl (k_ip fun X12 r13 h14 => ?_)
  refine GO.aload_n dX0_far_19 rfl rfl ?_
  refine GO.iload_n dX0_far_20 rfl rfl ?_
  refine GO.callV (ci := 0) (N := mX0_columnOf) dX0_far_21 (RX0, TX0, 13) rfl gV_RX0_75 h_x (t_X0_columnOf h_x r_p1) rfl [ti X12, ti X9] rfl rfl (Nat.le_of_ble_eq_true rfl) rfl (k_ip fun X15 r16 h17 => ?_)
  refine GO.isub dX0_far_24 ?_
  refine GO.norm (fun z18 r19 _ => ?_)
  refine GO.callS (N := mJ9_abs_0f7a4) dX0_far_25 gS_RX0_70 (t_J9_abs_0f7a4 r19) rfl [ti X9] rfl rfl (Nat.le_of_ble_eq_true rfl) rfl (k_ip fun X20 r21 h22 => ?_)
  refine GO.callS (N := mJ9_max_7cf53) dX0_far_28 gS_RX0_78 (t_J9_max_7cf53 r10 r21) rfl [] rfl rfl (Nat.le_of_ble_eq_true rfl) rfl (k_ip fun X23 r24 h25 => ?_)
  have q26 : -2147483648 ≤ X20 ∧ X20 ≤ 2147483647 := r21
  have q27 : -2147483648 ≤ X23 ∧ X23 ≤ 2147483647 := r24
  have q28 : -2147483648 ≤ X9 ∧ X9 ≤ 2147483647 := r10
  exact GO.reti rfl rfl dX0_far_31 ⟨rfl, rfl, _, rfl, r24, trivial⟩

set_option maxHeartbeats 1000000 in
theorem t_X0_isRectangle {K : Kmap} {V : Vmap} {x : Nat} {p0 : Int} {p1 : Int} (h_x : K x = some (0, 0)) (r_p0 : ir p0) (r_p1 : ir p1) : MC mX0_isRectangle K V [.ref x, ti p0, ti p1] (IP K V (fun X => (X = 0 ∨ X = 1) ∧ (X ≠ 0 → True) ∧ (X = 0 → True))) := by
  refine MC.start 0 (by decide +kernel) rfl rfl rfl (ls0 := [some (.ref x), some (ti p0), some (ti p1)]) rfl ?_
  refine GO.aload_n dX0_isRectangle_0 rfl rfl ?_
  refine GO.iload_n dX0_isRectangle_1 rfl rfl ?_
  refine GO.callV (ci := 0) (N := mX0_isCell) dX0_isRectangle_2 (RX0, TX0, 13) rfl gV_RX0_62 h_x (t_X0_isCell h_x r_p0) rfl [] rfl rfl (Nat.le_of_ble_eq_true rfl) rfl (k_ip fun X1 r2 h3 => ?_)
  refine GO.if_eq (tgt := 46) dX0_isRectangle_5 (by decide) r2 (fun c4 => ?_) (fun c4 => ?_)
  ·
    refine GO.iconst dX0_isRectangle_46 ?_
    exact GO.retz rfl rfl dX0_isRectangle_47 (Or.inl rfl) ⟨rfl, rfl, _, rfl, (ir_c rfl), ⟨Or.inl rfl, fun _ => trivial, fun _ => trivial⟩⟩
  ·
    refine GO.aload_n dX0_isRectangle_8 rfl rfl ?_
    refine GO.iload_n dX0_isRectangle_9 rfl rfl ?_
    refine GO.callV (ci := 0) (N := mX0_isCell) dX0_isRectangle_10 (RX0, TX0, 13) rfl gV_RX0_62 h_x (t_X0_isCell h_x r_p1) rfl [] rfl rfl (Nat.le_of_ble_eq_true rfl) rfl (k_ip fun X5 r6 h7 => ?_)
    refine GO.if_eq (tgt := 46) dX0_isRectangle_13 (by decide) r6 (fun c8 => ?_) (fun c8 => ?_)
    ·
      refine GO.iconst dX0_isRectangle_46 ?_
      exact GO.retz rfl rfl dX0_isRectangle_47 (Or.inl rfl) ⟨rfl, rfl, _, rfl, (ir_c rfl), ⟨Or.inl rfl, fun _ => trivial, fun _ => trivial⟩⟩
    ·
      refine GO.aload_n dX0_isRectangle_16 rfl rfl ?_
      refine GO.iload_n dX0_isRectangle_17 rfl rfl ?_
      refine GO.callV (ci := 0) (N := mX0_rowOf) dX0_isRectangle_18 (RX0, TX0, 13) rfl gV_RX0_66 h_x (t_X0_rowOf h_x r_p0) rfl [] rfl rfl (Nat.le_of_ble_eq_true rfl) rfl (k_ip fun X9 r10 h11 => ?_)
      refine GO.aload_n dX0_isRectangle_21 rfl rfl ?_
      refine GO.iload_n dX0_isRectangle_22 rfl rfl ?_
      refine GO.callV (ci := 0) (N := mX0_rowOf) dX0_isRectangle_23 (RX0, TX0, 13) rfl gV_RX0_66 h_x (t_X0_rowOf h_x r_p1) rfl [ti X9] rfl rfl (Nat.le_of_ble_eq_true rfl) rfl (k_ip fun X12 r13 h14 => ?_)
      refine GO.icmp_gt (tgt := 46) dX0_isRectangle_26 (by decide) r10 r13 (fun c15 => ?_) (fun c15 => ?_)
      ·
        refine GO.iconst dX0_isRectangle_46 ?_
        exact GO.retz rfl rfl dX0_isRectangle_47 (Or.inl rfl) ⟨rfl, rfl, _, rfl, (ir_c rfl), ⟨Or.inl rfl, fun _ => trivial, fun _ => trivial⟩⟩
      ·
        refine GO.aload_n dX0_isRectangle_29 rfl rfl ?_
        refine GO.iload_n dX0_isRectangle_30 rfl rfl ?_
        refine GO.callV (ci := 0) (N := mX0_columnOf) dX0_isRectangle_31 (RX0, TX0, 13) rfl gV_RX0_75 h_x (t_X0_columnOf h_x r_p0) rfl [] rfl rfl (Nat.le_of_ble_eq_true rfl) rfl (k_ip fun X16 r17 h18 => ?_)
        refine GO.aload_n dX0_isRectangle_34 rfl rfl ?_
        refine GO.iload_n dX0_isRectangle_35 rfl rfl ?_
        refine GO.callV (ci := 0) (N := mX0_columnOf) dX0_isRectangle_36 (RX0, TX0, 13) rfl gV_RX0_75 h_x (t_X0_columnOf h_x r_p1) rfl [ti X16] rfl rfl (Nat.le_of_ble_eq_true rfl) rfl (k_ip fun X19 r20 h21 => ?_)
        refine GO.icmp_gt (tgt := 46) dX0_isRectangle_39 (by decide) r17 r20 (fun c22 => ?_) (fun c22 => ?_)
        ·
          refine GO.iconst dX0_isRectangle_46 ?_
          exact GO.retz rfl rfl dX0_isRectangle_47 (Or.inl rfl) ⟨rfl, rfl, _, rfl, (ir_c rfl), ⟨Or.inl rfl, fun _ => trivial, fun _ => trivial⟩⟩
        ·
          refine GO.iconst dX0_isRectangle_42 ?_
          refine GO.goto (tgt := 47) dX0_isRectangle_43 (by decide) ?_
          exact GO.retz rfl rfl dX0_isRectangle_47 (Or.inr rfl) ⟨rfl, rfl, _, rfl, (ir_c rfl), ⟨Or.inr rfl, fun _ => trivial, fun _ => trivial⟩⟩

set_option maxHeartbeats 1000000 in
theorem t_X0_isWithin {K : Kmap} {V : Vmap} {x : Nat} {p0 : Int} {p1 : Int} {p2 : Int} (h_x : K x = some (0, 0)) (r_p0 : ir p0) (r_p1 : ir p1) (r_p2 : ir p2) : MC mX0_isWithin K V [.ref x, ti p0, ti p1, ti p2] (IP K V (fun X => (X = 0 ∨ X = 1) ∧ (X ≠ 0 → True) ∧ (X = 0 → True))) := by
  refine MC.start 0 (by decide +kernel) rfl rfl rfl (ls0 := [some (.ref x), some (ti p0), some (ti p1), some (ti p2)]) rfl ?_
  refine GO.aload_n dX0_isWithin_0 rfl rfl ?_
  refine GO.iload_n dX0_isWithin_1 rfl rfl ?_
  refine GO.iload_n dX0_isWithin_2 rfl rfl ?_
  refine GO.callV (ci := 0) (N := mX0_isRectangle) dX0_isWithin_3 (RX0, TX0, 13) rfl gV_RX0_82 h_x (t_X0_isRectangle h_x r_p1 r_p0) rfl [] rfl rfl (Nat.le_of_ble_eq_true rfl) rfl (k_ip fun X1 r2 h3 => ?_)
  refine GO.if_eq (tgt := 22) dX0_isWithin_6 (by decide) r2 (fun c4 => ?_) (fun c4 => ?_)
  ·
    refine GO.iconst dX0_isWithin_22 ?_
    exact GO.retz rfl rfl dX0_isWithin_23 (Or.inl rfl) ⟨rfl, rfl, _, rfl, (ir_c rfl), ⟨Or.inl rfl, fun _ => trivial, fun _ => trivial⟩⟩
  ·
    refine GO.aload_n dX0_isWithin_9 rfl rfl ?_
    refine GO.iload_n dX0_isWithin_10 rfl rfl ?_
    refine GO.iload_n dX0_isWithin_11 rfl rfl ?_
    refine GO.callV (ci := 0) (N := mX0_isRectangle) dX0_isWithin_12 (RX0, TX0, 13) rfl gV_RX0_82 h_x (t_X0_isRectangle h_x r_p0 r_p2) rfl [] rfl rfl (Nat.le_of_ble_eq_true rfl) rfl (k_ip fun X5 r6 h7 => ?_)
    refine GO.if_eq (tgt := 22) dX0_isWithin_15 (by decide) r6 (fun c8 => ?_) (fun c8 => ?_)
    ·
      refine GO.iconst dX0_isWithin_22 ?_
      exact GO.retz rfl rfl dX0_isWithin_23 (Or.inl rfl) ⟨rfl, rfl, _, rfl, (ir_c rfl), ⟨Or.inl rfl, fun _ => trivial, fun _ => trivial⟩⟩
    ·
      refine GO.iconst dX0_isWithin_18 ?_
      refine GO.goto (tgt := 23) dX0_isWithin_19 (by decide) ?_
      exact GO.retz rfl rfl dX0_isWithin_23 (Or.inr rfl) ⟨rfl, rfl, _, rfl, (ir_c rfl), ⟨Or.inr rfl, fun _ => trivial, fun _ => trivial⟩⟩

set_option maxHeartbeats 1000000 in
theorem t_X0_beside {K : Kmap} {V : Vmap} {x : Nat} {p0 : Int} {p1 : Int} (h_x : K x = some (0, 0)) (r_p0 : ir p0) (r_p1 : ir p1) : MC mX0_beside K V [.ref x, ti p0, ti p1] (IP K V (fun X => True)) := by
  refine MC.start 3 (by decide +kernel) rfl rfl rfl (ls0 := [some (.ref x), some (ti p0), some (ti p1), none, none, none]) rfl ?_
  refine GO.aload_n dX0_beside_0 rfl rfl ?_
  refine GO.iload_n dX0_beside_1 rfl rfl ?_
  refine GO.callV (ci := 0) (N := mX0_isCell) dX0_beside_2 (RX0, TX0, 13) rfl gV_RX0_62 h_x (t_X0_isCell h_x r_p0) rfl [] rfl rfl (Nat.le_of_ble_eq_true rfl) rfl (k_ip fun X1 r2 h3 => ?_)
  refine GO.if_eq (tgt := 18) dX0_beside_5 (by decide) r2 (fun c4 => ?_) (fun c4 => ?_)
  ·
    refine GO.iconst dX0_beside_18 ?_
    exact GO.reti rfl rfl dX0_beside_19 ⟨rfl, rfl, _, rfl, (ir_c rfl), trivial⟩
  ·
    refine GO.iload_n dX0_beside_8 rfl rfl ?_
    refine GO.if_lt (tgt := 18) dX0_beside_9 (by decide) r_p1 (fun c5 => ?_) (fun c5 => ?_)
    ·
      refine GO.iconst dX0_beside_18 ?_
      exact GO.reti rfl rfl dX0_beside_19 ⟨rfl, rfl, _, rfl, (ir_c rfl), trivial⟩
    ·
      refine GO.iload_n dX0_beside_12 rfl rfl ?_
      refine GO.bipush dX0_beside_13 rfl ?_
      refine GO.icmp_lt (tgt := 20) dX0_beside_15 (by decide) r_p1 (ir_c rfl) (fun c6 => ?_) (fun c6 => ?_)
      ·
        refine GO.aload_n dX0_beside_20 rfl rfl ?_
        refine GO.iload_n dX0_beside_21 rfl rfl ?_
        refine GO.callV (ci := 0) (N := mX0_rowOf) dX0_beside_22 (RX0, TX0, 13) rfl gV_RX0_66 h_x (t_X0_rowOf h_x r_p0) rfl [] rfl rfl (Nat.le_of_ble_eq_true rfl) rfl (k_ip fun X7 r8 h9 => ?_)
        refine GO.stepGet (nm := "ROW_STEPS") dX0_beside_25 dX0_beside_28 dX0_beside_29 (by decide) gw_1121 gS_RX0_58 rfl rfl (Nat.le_of_ble_eq_true rfl) rfl rfl r_p1 (fun z10 r11 => ?_)
        refine GO.iadd dX0_beside_32 ?_
        refine GO.norm (fun z12 r13 _ => ?_)
        refine GO.istore_n (ls1 := [some (.ref x), some (ti p0), some (ti p1), some (ti z12), none, none]) dX0_beside_33 rfl rfl rfl ?_
        refine GO.aload_n dX0_beside_34 rfl rfl ?_
        refine GO.iload_n dX0_beside_35 rfl rfl ?_
        refine GO.callV (ci := 0) (N := mX0_columnOf) dX0_beside_36 (RX0, TX0, 13) rfl gV_RX0_75 h_x (t_X0_columnOf h_x r_p0) rfl [] rfl rfl (Nat.le_of_ble_eq_true rfl) rfl (k_ip fun X14 r15 h16 => ?_)
        refine GO.stepGet (nm := "COLUMN_STEPS") dX0_beside_39 dX0_beside_42 dX0_beside_43 (by decide) gw_1123 gS_RX0_58 rfl rfl (Nat.le_of_ble_eq_true rfl) rfl rfl r_p1 (fun z17 r18 => ?_)
        refine GO.iadd dX0_beside_46 ?_
        refine GO.norm (fun z19 r20 _ => ?_)
        refine GO.istore (ls1 := [some (.ref x), some (ti p0), some (ti p1), some (ti z12), some (ti z19), none]) dX0_beside_47 rfl rfl ?_
        refine GO.iload_n dX0_beside_49 rfl rfl ?_
        have hj31 : GO mX0_beside K V (IP K V (fun X => True)) K V 0 0 75 [some (.ref x), some (ti p0), some (ti p1), some (ti z12), some (ti z19), none] [] := by
          skip
          refine GO.iconst dX0_beside_75 ?_
          refine GO.goto (tgt := 80) dX0_beside_76 (by decide) ?_
          refine GO.istore (ls1 := [some (.ref x), some (ti p0), some (ti p1), some (ti z12), some (ti z19), some (ti 1)]) dX0_beside_80 rfl rfl ?_
          refine GO.iload dX0_beside_82 rfl ?_
          refine GO.if_eq (tgt := 91) dX0_beside_84 (by decide) (ir_c rfl) (fun h => by exfalso; omega) (fun c32 => ?_)
          refine GO.iconst dX0_beside_87 ?_
          refine GO.goto (tgt := 100) dX0_beside_88 (by decide) ?_
          exact GO.reti rfl rfl dX0_beside_100 ⟨rfl, rfl, _, rfl, (ir_c rfl), trivial⟩
        refine GO.if_lt (tgt := 75) dX0_beside_50 (by decide) r13 (fun c33 => ?_) (fun c33 => ?_)
        ·
          exact hj31 
        ·
          refine GO.iload_n dX0_beside_53 rfl rfl ?_
          refine GO.aload_n dX0_beside_54 rfl rfl ?_
          refine GO.getI h_x fl_RX0_24 rfl rfl dX0_beside_55 (fun _ _ => ?_)
          refine GO.icmp_ge (tgt := 75) dX0_beside_58 (by decide) r13 vi_ir (fun c34 => ?_) (fun c34 => ?_)
          ·
            exact hj31 
          ·
            refine GO.iload dX0_beside_61 rfl ?_
            refine GO.if_lt (tgt := 75) dX0_beside_63 (by decide) r20 (fun c35 => ?_) (fun c35 => ?_)
            ·
              exact hj31 
            ·
              refine GO.iload dX0_beside_66 rfl ?_
              refine GO.aload_n dX0_beside_68 rfl rfl ?_
              refine GO.getI h_x fl_RX0_21 rfl rfl dX0_beside_69 (fun _ _ => ?_)
              refine GO.icmp_lt (tgt := 79) dX0_beside_72 (by decide) r20 vi_ir (fun c36 => ?_) (fun c36 => ?_)
              ·
                refine GO.iconst dX0_beside_79 ?_
                refine GO.istore (ls1 := [some (.ref x), some (ti p0), some (ti p1), some (ti z12), some (ti z19), some (ti 0)]) dX0_beside_80 rfl rfl ?_
                refine GO.iload dX0_beside_82 rfl ?_
                refine GO.if_eq (tgt := 91) dX0_beside_84 (by decide) (ir_c rfl) (fun c37 => ?_) (fun h => by exfalso; omega)
                refine GO.iload_n dX0_beside_91 rfl rfl ?_
                refine GO.aload_n dX0_beside_92 rfl rfl ?_
                refine GO.getI h_x fl_RX0_21 rfl rfl dX0_beside_93 (fun _ _ => ?_)
                refine GO.imul dX0_beside_96 ?_
                refine GO.norm (fun z38 r39 _ => ?_)
                refine GO.iload dX0_beside_97 rfl ?_
                refine GO.iadd dX0_beside_99 ?_
                refine GO.norm (fun z40 r41 _ => ?_)
                have q42 : -2147483648 ≤ z40 ∧ z40 ≤ 2147483647 := r41
                exact GO.reti rfl rfl dX0_beside_100 ⟨rfl, rfl, _, rfl, r41, trivial⟩
              ·
                exact hj31 
      ·
        refine GO.iconst dX0_beside_18 ?_
        exact GO.reti rfl rfl dX0_beside_19 ⟨rfl, rfl, _, rfl, (ir_c rfl), trivial⟩

set_option maxHeartbeats 1000000 in
theorem t_X0_isNearSea {K : Kmap} {V : Vmap} {x : Nat} {p0 : Int} (h_x : K x = some (0, 0)) (r_p0 : ir p0) : MC mX0_isNearSea K V [.ref x, ti p0] (IP K V (fun X => (X = 0 ∨ X = 1) ∧ (X ≠ 0 → True) ∧ (X = 0 → True))) := by
  refine MC.start 2 (by decide +kernel) rfl rfl rfl (ls0 := [some (.ref x), some (ti p0), none, none]) rfl ?_
  refine GO.aload_n dX0_isNearSea_0 rfl rfl ?_
  refine GO.iload_n dX0_isNearSea_1 rfl rfl ?_
  refine GO.callV (ci := 0) (N := mX0_isCell) dX0_isNearSea_2 (RX0, TX0, 13) rfl gV_RX0_62 h_x (t_X0_isCell h_x r_p0) rfl [] rfl rfl (Nat.le_of_ble_eq_true rfl) rfl (k_ip fun X1 r2 h3 => ?_)
  have hj13 : GO mX0_isNearSea K V (IP K V (fun X => (X = 0 ∨ X = 1) ∧ (X ≠ 0 → True) ∧ (X = 0 → True))) K V 0 0 22 [some (.ref x), some (ti p0), none, none] [] := by
    skip
    refine GO.iconst dX0_isNearSea_22 ?_
    refine GO.istore_n (ls1 := [some (.ref x), some (ti p0), some (ti 0), none]) dX0_isNearSea_23 rfl rfl rfl ?_
    refine GO.loop1 (fun i14 W => 0 ≤ i14 ∧ i14 ≤ 8 ∧ V = W) (fun i14 => [some (.ref x), some (ti p0), some (ti i14), none]) (fun i14 W => (2147483647 - i14).toNat) 0 ⟨by omega, by omega, rfl⟩ rfl (fun i14 V80 hp82 ih81 => ?_)
    obtain ⟨l_i14, u_i14, rfl⟩ := hp82
    have r_i14 : ir i14 := ⟨by omega, by omega⟩
    show GO mX0_isNearSea K V (IP K V (fun X => (X = 0 ∨ X = 1) ∧ (X ≠ 0 → True) ∧ (X = 0 → True))) K V 0 0 24 [some (.ref x), some (ti p0), some (ti i14), none] []
    refine GO.iload_n dX0_isNearSea_24 rfl rfl ?_
    refine GO.bipush dX0_isNearSea_25 rfl ?_
    refine GO.icmp_ge (tgt := 62) dX0_isNearSea_27 (by decide) r_i14 (ir_c rfl) (fun c83 => ?_) (fun c83 => ?_)
    ·
      refine GO.iconst dX0_isNearSea_62 ?_
      exact GO.retz rfl rfl dX0_isNearSea_63 (Or.inl rfl) ⟨rfl, rfl, _, rfl, (ir_c rfl), ⟨Or.inl rfl, fun _ => trivial, fun _ => trivial⟩⟩
    ·
      refine GO.aload_n dX0_isNearSea_30 rfl rfl ?_
      refine GO.iload_n dX0_isNearSea_31 rfl rfl ?_
      refine GO.iload_n dX0_isNearSea_32 rfl rfl ?_
      refine GO.callV (ci := 0) (N := mX0_beside) dX0_isNearSea_33 (RX0, TX0, 13) rfl gV_RX0_92 h_x (t_X0_beside h_x r_p0 r_i14) rfl [] rfl rfl (Nat.le_of_ble_eq_true rfl) rfl (k_ip fun X84 r85 h86 => ?_)
      refine GO.istore_n (ls1 := [some (.ref x), some (ti p0), some (ti i14), some (ti X84)]) dX0_isNearSea_36 rfl rfl rfl ?_
      refine GO.iload_n dX0_isNearSea_37 rfl rfl ?_
      refine GO.iconst dX0_isNearSea_38 ?_
      refine GO.icmp_eq (tgt := 56) dX0_isNearSea_39 (by decide) r85 (ir_c rfl) (fun c87 => ?_) (fun c87 => ?_)
      ·
        refine GO.iinc (X := i14) (n := 1) (Y := i14 + 1) (ls1 := [some (.ref x), some (ti p0), some (ti (i14 + 1)), some (ti X84)]) dX0_isNearSea_56 rfl rfl rfl rfl ?_
        refine GO.goto (tgt := 24) dX0_isNearSea_59 (by decide) ?_
        refine GO.drop [true, true, true, false] rfl ?_
        exact ih81 (i14 + 1) V ⟨by omega, by omega, rfl⟩ (by show (2147483647 - (i14 + 1)).toNat < (2147483647 - i14).toNat; omega)
      ·
        refine GO.aload_n dX0_isNearSea_42 rfl rfl ?_
        refine GO.getB h_x fl_RX0_31 rfl rfl dX0_isNearSea_43 (fun n90 hv89 h88 b91 => ?_)
        refine GO.iload_n dX0_isNearSea_46 rfl rfl ?_
        refine GO.callS (N := mX4_get) dX0_isNearSea_47 gS_RX0_58 (t_X4_get rfl h88 r85) rfl [] rfl rfl (Nat.le_of_ble_eq_true rfl) rfl (k_ip fun X92 r93 h94 => ?_)
        refine GO.iconst dX0_isNearSea_50 ?_
        refine GO.icmp_ne (tgt := 56) dX0_isNearSea_51 (by decide) r93 (ir_c rfl) (fun c95 => ?_) (fun c95 => ?_)
        ·
          refine GO.iinc (X := i14) (n := 1) (Y := i14 + 1) (ls1 := [some (.ref x), some (ti p0), some (ti (i14 + 1)), some (ti X84)]) dX0_isNearSea_56 rfl rfl rfl rfl ?_
          refine GO.goto (tgt := 24) dX0_isNearSea_59 (by decide) ?_
          refine GO.drop [true, true, true, false] rfl ?_
          exact ih81 (i14 + 1) V ⟨by omega, by omega, rfl⟩ (by show (2147483647 - (i14 + 1)).toNat < (2147483647 - i14).toNat; omega)
        ·
          refine GO.iconst dX0_isNearSea_54 ?_
          exact GO.retz rfl rfl dX0_isNearSea_55 (Or.inr rfl) ⟨rfl, rfl, _, rfl, (ir_c rfl), ⟨Or.inr rfl, fun _ => trivial, fun _ => trivial⟩⟩
  refine GO.if_eq (tgt := 22) dX0_isNearSea_5 (by decide) r2 (fun c96 => ?_) (fun c96 => ?_)
  ·
    exact hj13 
  ·
    refine GO.aload_n dX0_isNearSea_8 rfl rfl ?_
    refine GO.getB h_x fl_RX0_31 rfl rfl dX0_isNearSea_9 (fun n99 hv98 h97 b100 => ?_)
    refine GO.iload_n dX0_isNearSea_12 rfl rfl ?_
    refine GO.callS (N := mX4_get) dX0_isNearSea_13 gS_RX0_58 (t_X4_get rfl h97 r_p0) rfl [] rfl rfl (Nat.le_of_ble_eq_true rfl) rfl (k_ip fun X101 r102 h103 => ?_)
    refine GO.iconst dX0_isNearSea_16 ?_
    refine GO.icmp_ne (tgt := 22) dX0_isNearSea_17 (by decide) r102 (ir_c rfl) (fun c104 => ?_) (fun c104 => ?_)
    ·
      exact hj13 
    ·
      refine GO.iconst dX0_isNearSea_20 ?_
      exact GO.retz rfl rfl dX0_isNearSea_21 (Or.inr rfl) ⟨rfl, rfl, _, rfl, (ir_c rfl), ⟨Or.inr rfl, fun _ => trivial, fun _ => trivial⟩⟩

set_option maxHeartbeats 1000000 in
theorem t_X0_isDark {K : Kmap} {V : Vmap} {x : Nat} {p0 : Int} (h_x : K x = some (0, 0)) (r_p0 : ir p0) : MC mX0_isDark K V [.ref x, ti p0] (IP K V (fun X => (X = 0 ∨ X = 1) ∧ (X ≠ 0 → True) ∧ (X = 0 → True))) := by
  refine MC.start 1 (by decide +kernel) rfl rfl rfl (ls0 := [some (.ref x), some (ti p0), none]) rfl ?_
  refine GO.iload_n dX0_isDark_0 rfl rfl ?_
  refine GO.sipush dX0_isDark_1 rfl ?_
  refine GO.irem dX0_isDark_4 (ir_c rfl) (by omega) ?_
  refine GO.name (fun z1 hz2 => ?_)
  have r3 : ir z1 := hz2 ▸ wrem_ir
  refine GO.istore_n (ls1 := [some (.ref x), some (ti p0), some (ti z1)]) dX0_isDark_5 rfl rfl rfl ?_
  refine GO.iload_n dX0_isDark_6 rfl rfl ?_
  refine GO.aload_n dX0_isDark_7 rfl rfl ?_
  refine GO.getI h_x fl_RX0_15 rfl rfl dX0_isDark_8 (fun _ _ => ?_)
  refine GO.icmp_lt (tgt := 26) dX0_isDark_11 (by decide) r3 vi_ir (fun c4 => ?_) (fun c4 => ?_)
  ·
    refine GO.iconst dX0_isDark_26 ?_
    exact GO.retz rfl rfl dX0_isDark_27 (Or.inl rfl) ⟨rfl, rfl, _, rfl, (ir_c rfl), ⟨Or.inl rfl, fun _ => trivial, fun _ => trivial⟩⟩
  ·
    refine GO.iload_n dX0_isDark_14 rfl rfl ?_
    refine GO.aload_n dX0_isDark_15 rfl rfl ?_
    refine GO.getI h_x fl_RX0_18 rfl rfl dX0_isDark_16 (fun _ _ => ?_)
    refine GO.icmp_gt (tgt := 26) dX0_isDark_19 (by decide) r3 vi_ir (fun c5 => ?_) (fun c5 => ?_)
    ·
      refine GO.iconst dX0_isDark_26 ?_
      exact GO.retz rfl rfl dX0_isDark_27 (Or.inl rfl) ⟨rfl, rfl, _, rfl, (ir_c rfl), ⟨Or.inl rfl, fun _ => trivial, fun _ => trivial⟩⟩
    ·
      refine GO.iconst dX0_isDark_22 ?_
      refine GO.goto (tgt := 27) dX0_isDark_23 (by decide) ?_
      exact GO.retz rfl rfl dX0_isDark_27 (Or.inr rfl) ⟨rfl, rfl, _, rfl, (ir_c rfl), ⟨Or.inr rfl, fun _ => trivial, fun _ => trivial⟩⟩

set_option maxHeartbeats 1000000 in
theorem t_X0_coverOn {K : Kmap} {V : Vmap} {x : Nat} {p0 : Int} {p1 : Int} (h_x : K x = some (0, 0)) (r_p0 : ir p0) (r_p1 : ir p1) : MC mX0_coverOn K V [.ref x, ti p0, ti p1] (IP K V (fun X => True)) := by
  refine MC.start 0 (by decide +kernel) rfl rfl rfl (ls0 := [some (.ref x), some (ti p0), some (ti p1)]) rfl ?_
  refine GO.aload_n dX0_coverOn_0 rfl rfl ?_
  refine GO.getB h_x fl_RX0_40 rfl rfl dX0_coverOn_1 (fun n3 hv2 h1 b4 => ?_)
  refine GO.iload_n dX0_coverOn_4 rfl rfl ?_
  refine GO.bipush dX0_coverOn_5 rfl ?_
  refine GO.imul dX0_coverOn_7 ?_
  refine GO.norm (fun z5 r6 _ => ?_)
  refine GO.iload_n dX0_coverOn_8 rfl rfl ?_
  refine GO.sipush dX0_coverOn_9 rfl ?_
  refine GO.irem dX0_coverOn_12 (ir_c rfl) (by omega) ?_
  refine GO.bipush dX0_coverOn_13 rfl ?_
  refine GO.idiv dX0_coverOn_15 (ir_c rfl) (by omega) ?_
  refine GO.iadd dX0_coverOn_16 ?_
  refine GO.norm (fun z7 r8 _ => ?_)
  refine GO.callS (N := mX4_get) dX0_coverOn_17 gS_RX0_58 (t_X4_get rfl h1 r8) rfl [] rfl rfl (Nat.le_of_ble_eq_true rfl) rfl (k_ip fun X9 r10 h11 => ?_)
  have q12 : -2147483648 ≤ X9 ∧ X9 ≤ 2147483647 := r10
  exact GO.reti rfl rfl dX0_coverOn_20 ⟨rfl, rfl, _, rfl, r10, trivial⟩

set_option maxHeartbeats 1000000 in
theorem t_X0_carries {K : Kmap} {V : Vmap} {x : Nat} {p0 : Int} {p1 : Int} (h_x : K x = some (0, 0)) (r_p0 : ir p0) (r_p1 : ir p1) : MC mX0_carries K V [.ref x, ti p0, ti p1] (IP K V (fun X => (X = 0 ∨ X = 1) ∧ (X ≠ 0 → True) ∧ (X = 0 → True))) := by
  refine MC.start 1 (by decide +kernel) rfl rfl rfl (ls0 := [some (.ref x), some (ti p0), some (ti p1), none]) rfl ?_
  refine GO.aload_n dX0_carries_0 rfl rfl ?_
  refine GO.getB h_x fl_RX0_31 rfl rfl dX0_carries_1 (fun n3 hv2 h1 b4 => ?_)
  refine GO.iload_n dX0_carries_4 rfl rfl ?_
  refine GO.callS (N := mX4_get) dX0_carries_5 gS_RX0_58 (t_X4_get rfl h1 r_p0) rfl [] rfl rfl (Nat.le_of_ble_eq_true rfl) rfl (k_ip fun X5 r6 h7 => ?_)
  have hj18 : ∀ (z17 : Int), ∀ (l19 : 0 ≤ z17), ∀ (u20 : z17 ≤ 1), GO mX0_carries K V (IP K V (fun X => (X = 0 ∨ X = 1) ∧ (X ≠ 0 → True) ∧ (X = 0 → True))) K V 0 0 28 [some (.ref x), some (ti p0), some (ti p1), none] [ti z17] := by
    intro z17 l19 u20
    have r21 : ir z17 := ⟨by omega, by omega⟩
    refine GO.istore_n (ls1 := [some (.ref x), some (ti p0), some (ti p1), some (ti z17)]) dX0_carries_28 rfl rfl rfl ?_
    refine GO.iload_n dX0_carries_29 rfl rfl ?_
    refine GO.if_eq (tgt := 49) dX0_carries_30 (by decide) r21 (fun c22 => ?_) (fun c22 => ?_)
    ·
      refine GO.iconst dX0_carries_49 ?_
      exact GO.retz rfl rfl dX0_carries_50 (Or.inl rfl) ⟨rfl, rfl, _, rfl, (ir_c rfl), ⟨Or.inl rfl, fun _ => trivial, fun _ => trivial⟩⟩
    ·
      refine GO.iload_n dX0_carries_33 rfl rfl ?_
      refine GO.aload_n dX0_carries_34 rfl rfl ?_
      refine GO.getB h_x fl_RX0_37 rfl rfl dX0_carries_35 (fun n25 hv24 h23 b26 => ?_)
      refine GO.iload_n dX0_carries_38 rfl rfl ?_
      refine GO.callS (N := mX4_get) dX0_carries_39 gS_RX0_58 (t_X4_get rfl h23 r_p0) rfl [ti p1] rfl rfl (Nat.le_of_ble_eq_true rfl) rfl (k_ip fun X27 r28 h29 => ?_)
      refine GO.icmp_lt (tgt := 49) dX0_carries_42 (by decide) r_p1 r28 (fun c30 => ?_) (fun c30 => ?_)
      ·
        refine GO.iconst dX0_carries_49 ?_
        exact GO.retz rfl rfl dX0_carries_50 (Or.inl rfl) ⟨rfl, rfl, _, rfl, (ir_c rfl), ⟨Or.inl rfl, fun _ => trivial, fun _ => trivial⟩⟩
      ·
        refine GO.iconst dX0_carries_45 ?_
        refine GO.goto (tgt := 50) dX0_carries_46 (by decide) ?_
        exact GO.retz rfl rfl dX0_carries_50 (Or.inr rfl) ⟨rfl, rfl, _, rfl, (ir_c rfl), ⟨Or.inr rfl, fun _ => trivial, fun _ => trivial⟩⟩
  have hj40 : GO mX0_carries K V (IP K V (fun X => (X = 0 ∨ X = 1) ∧ (X ≠ 0 → True) ∧ (X = 0 → True))) K V 0 0 27 [some (.ref x), some (ti p0), some (ti p1), none] [] := by
    skip
    refine GO.iconst dX0_carries_27 ?_
    exact hj18 0 (by omega) (by omega)
  refine GO.if_ne (tgt := 27) dX0_carries_8 (by decide) r6 (fun c41 => ?_) (fun c41 => ?_)
  ·
    exact hj40 
  ·
    refine GO.aload_n dX0_carries_11 rfl rfl ?_
    refine GO.getB h_x fl_RX0_34 rfl rfl dX0_carries_12 (fun n44 hv43 h42 b45 => ?_)
    refine GO.iload_n dX0_carries_15 rfl rfl ?_
    refine GO.callS (N := mX4_get) dX0_carries_16 gS_RX0_58 (t_X4_get rfl h42 r_p0) rfl [] rfl rfl (Nat.le_of_ble_eq_true rfl) rfl (k_ip fun X46 r47 h48 => ?_)
    refine GO.iconst dX0_carries_19 ?_
    refine GO.icmp_eq (tgt := 27) dX0_carries_20 (by decide) r47 (ir_c rfl) (fun c49 => ?_) (fun c49 => ?_)
    ·
      exact hj40 
    ·
      refine GO.iconst dX0_carries_23 ?_
      refine GO.goto (tgt := 28) dX0_carries_24 (by decide) ?_
      exact hj18 1 (by omega) (by omega)

set_option maxHeartbeats 1000000 in
theorem t_X4_put {K : Kmap} {V : Vmap} {p0 n_p0 : Nat} {p1 : Int} {p2 : Int} (h_p0 : K p0 = some (1, n_p0)) (r_p1 : ir p1) (r_p2 : ir p2) : MC mX4_put K V [.ref p0, ti p1, ti p2] (VS K (fun V1 => (True))) := by
  refine MC.start 0 (by decide +kernel) rfl rfl rfl (ls0 := [some (.ref p0), some (ti p1), some (ti p2)]) rfl ?_
  refine GO.aload_n dX4_put_0 rfl rfl ?_
  refine GO.ifnull dX4_put_1 ?_
  refine GO.iload_n dX4_put_4 rfl rfl ?_
  refine GO.if_lt (tgt := 18) dX4_put_5 (by decide) r_p1 (fun c1 => ?_) (fun c1 => ?_)
  ·
    exact GO.retv rfl rfl dX4_put_18 ⟨rfl, rfl, trivial⟩
  ·
    refine GO.iload_n dX4_put_8 rfl rfl ?_
    refine GO.aload_n dX4_put_9 rfl rfl ?_
    refine GO.alen h_p0 dX4_put_10 (fun h2 => ?_)
    refine GO.icmp_ge (tgt := 18) dX4_put_11 (by decide) r_p1 ⟨by omega, by omega⟩ (fun c3 => ?_) (fun c3 => ?_)
    ·
      exact GO.retv rfl rfl dX4_put_18 ⟨rfl, rfl, trivial⟩
    ·
      refine GO.aload_n dX4_put_14 rfl rfl ?_
      refine GO.iload_n dX4_put_15 rfl rfl ?_
      refine GO.iload_n dX4_put_16 rfl rfl ?_
      have q4 : -2147483648 ≤ p1 ∧ p1 ≤ 2147483647 := r_p1
      refine GO.iast (t := 0) rfl rfl (by decide +kernel) h_p0 r_p1 (by omega) (by omega) r_p2 (r_p2).1 (r_p2).2 dX4_put_17 (fun V6 e5 => ?_)
      exact GO.retv rfl rfl dX4_put_18 ⟨rfl, rfl, trivial⟩

set_option maxHeartbeats 1000000 in
theorem t_X0_nearestOpen {K : Kmap} {V : Vmap} {x : Nat} (h_x : K x = some (0, 0)) : MC mX0_nearestOpen K V [.ref x] (IP K V (fun X => True)) := by
  refine MC.start 4 (by decide +kernel) rfl rfl rfl (ls0 := [some (.ref x), none, none, none, none]) rfl ?_
  refine GO.iconst dX0_nearestOpen_0 ?_
  refine GO.istore_n (ls1 := [some (.ref x), some (ti (-1)), none, none, none]) dX0_nearestOpen_1 rfl rfl rfl ?_
  refine GO.iconst dX0_nearestOpen_2 ?_
  refine GO.istore_n (ls1 := [some (.ref x), some (ti (-1)), some (ti 0), none, none]) dX0_nearestOpen_3 rfl rfl rfl ?_
  refine GO.loop2 (fun i1 i2 W => (-1) ≤ i1 ∧ i1 ≤ 2147483646 ∧ 0 ≤ i2 ∧ i2 ≤ 2147483647 ∧ V = W) (fun i1 i2 => [some (.ref x), some (ti i1), some (ti i2), none, none]) (fun i1 i2 W => (2147483647 - i2).toNat) (-1) 0 ⟨by omega, by omega, by omega, by omega, rfl⟩ rfl (fun i1 i2 V1425 hp1427 ih1426 => ?_)
  obtain ⟨l_i1, u_i1, l_i2, u_i2, rfl⟩ := hp1427
  have r_i1 : ir i1 := ⟨by omega, by omega⟩
  have r_i2 : ir i2 := ⟨by omega, by omega⟩
  show GO mX0_nearestOpen K V (IP K V (fun X => True)) K V 0 0 4 [some (.ref x), some (ti i1), some (ti i2), none, none] []
  refine GO.iload_n dX0_nearestOpen_4 rfl rfl ?_
  refine GO.aload_n dX0_nearestOpen_5 rfl rfl ?_
  refine GO.getI h_x fl_RX0_21 rfl rfl dX0_nearestOpen_6 (fun _ _ => ?_)
  refine GO.aload_n dX0_nearestOpen_9 rfl rfl ?_
  refine GO.getI h_x fl_RX0_24 rfl rfl dX0_nearestOpen_10 (fun _ _ => ?_)
  refine GO.imul dX0_nearestOpen_13 ?_
  refine GO.norm (fun z1428 r1429 _ => ?_)
  refine GO.icmp_ge (tgt := 79) dX0_nearestOpen_14 (by decide) r_i2 r1429 (fun c1430 => ?_) (fun c1430 => ?_)
  ·
    refine GO.iload_n dX0_nearestOpen_79 rfl rfl ?_
    exact GO.reti rfl rfl dX0_nearestOpen_80 ⟨rfl, rfl, _, rfl, r_i1, trivial⟩
  ·
    refine GO.aload_n dX0_nearestOpen_17 rfl rfl ?_
    refine GO.getB h_x fl_RX0_46 rfl rfl dX0_nearestOpen_18 (fun n1433 hv1432 h1431 b1434 => ?_)
    refine GO.iload_n dX0_nearestOpen_21 rfl rfl ?_
    refine GO.callS (N := mX4_get) dX0_nearestOpen_22 gS_RX0_58 (t_X4_get rfl h1431 r_i2) rfl [] rfl rfl (Nat.le_of_ble_eq_true rfl) rfl (k_ip fun X1435 r1436 h1437 => ?_)
    refine GO.istore_n (ls1 := [some (.ref x), some (ti i1), some (ti i2), some (ti X1435), none]) dX0_nearestOpen_25 rfl rfl rfl ?_
    refine GO.iload_n dX0_nearestOpen_26 rfl rfl ?_
    refine GO.iconst dX0_nearestOpen_27 ?_
    have hj1448 : ∀ (z1447 : Int), ∀ (l1449 : 0 ≤ z1447), ∀ (u1450 : z1447 ≤ 1), GO mX0_nearestOpen K V (IP K V (fun X => True)) K V 0 0 47 [some (.ref x), some (ti i1), some (ti i2), some (ti X1435), none] [ti z1447] := by
      intro z1447 l1449 u1450
      have r1451 : ir z1447 := ⟨by omega, by omega⟩
      refine GO.istore (ls1 := [some (.ref x), some (ti i1), some (ti i2), some (ti X1435), some (ti z1447)]) dX0_nearestOpen_47 rfl rfl ?_
      refine GO.iload dX0_nearestOpen_49 rfl ?_
      refine GO.if_eq (tgt := 73) dX0_nearestOpen_51 (by decide) r1451 (fun c1452 => ?_) (fun c1452 => ?_)
      ·
        refine GO.iinc (X := i2) (n := 1) (Y := i2 + 1) (ls1 := [some (.ref x), some (ti i1), some (ti (i2 + 1)), some (ti X1435), some (ti z1447)]) dX0_nearestOpen_73 rfl rfl rfl rfl ?_
        refine GO.goto (tgt := 4) dX0_nearestOpen_76 (by decide) ?_
        refine GO.drop [true, true, true, false, false] rfl ?_
        have q1453 : -2147483648 ≤ z1428 ∧ z1428 ≤ 2147483647 := r1429
        exact ih1426 i1 (i2 + 1) V ⟨by omega, by omega, by omega, by omega, rfl⟩ (by show (2147483647 - (i2 + 1)).toNat < (2147483647 - i2).toNat; omega)
      ·
        refine GO.iload_n dX0_nearestOpen_54 rfl rfl ?_
        refine GO.iconst dX0_nearestOpen_55 ?_
        refine GO.icmp_eq (tgt := 71) dX0_nearestOpen_56 (by decide) r_i1 (ir_c rfl) (fun c1454 => ?_) (fun c1454 => ?_)
        ·
          refine GO.iload_n dX0_nearestOpen_71 rfl rfl ?_
          refine GO.istore_n (ls1 := [some (.ref x), some (ti i2), some (ti i2), some (ti X1435), some (ti z1447)]) dX0_nearestOpen_72 rfl rfl rfl ?_
          refine GO.iinc (X := i2) (n := 1) (Y := i2 + 1) (ls1 := [some (.ref x), some (ti i2), some (ti (i2 + 1)), some (ti X1435), some (ti z1447)]) dX0_nearestOpen_73 rfl rfl rfl rfl ?_
          refine GO.goto (tgt := 4) dX0_nearestOpen_76 (by decide) ?_
          refine GO.drop [true, true, true, false, false] rfl ?_
          have q1455 : -2147483648 ≤ z1428 ∧ z1428 ≤ 2147483647 := r1429
          exact ih1426 i2 (i2 + 1) V ⟨by omega, by omega, by omega, by omega, rfl⟩ (by show (2147483647 - (i2 + 1)).toNat < (2147483647 - i2).toNat; omega)
        ·
          refine GO.iload_n dX0_nearestOpen_59 rfl rfl ?_
          refine GO.aload_n dX0_nearestOpen_60 rfl rfl ?_
          refine GO.getRaw h_x fl_RX0_46 hv1432 dX0_nearestOpen_61 ?_
          refine GO.iload_n dX0_nearestOpen_64 rfl rfl ?_
          refine GO.callS (N := mX4_get) dX0_nearestOpen_65 gS_RX0_58 (t_X4_get rfl h1431 r_i1) rfl [ti X1435] rfl rfl (Nat.le_of_ble_eq_true rfl) rfl (k_ip fun X1458 r1459 h1460 => ?_)
          refine GO.icmp_ge (tgt := 73) dX0_nearestOpen_68 (by decide) r1436 r1459 (fun c1461 => ?_) (fun c1461 => ?_)
          ·
            refine GO.iinc (X := i2) (n := 1) (Y := i2 + 1) (ls1 := [some (.ref x), some (ti i1), some (ti (i2 + 1)), some (ti X1435), some (ti z1447)]) dX0_nearestOpen_73 rfl rfl rfl rfl ?_
            refine GO.goto (tgt := 4) dX0_nearestOpen_76 (by decide) ?_
            refine GO.drop [true, true, true, false, false] rfl ?_
            have q1462 : -2147483648 ≤ z1428 ∧ z1428 ≤ 2147483647 := r1429
            exact ih1426 i1 (i2 + 1) V ⟨by omega, by omega, by omega, by omega, rfl⟩ (by show (2147483647 - (i2 + 1)).toNat < (2147483647 - i2).toNat; omega)
          ·
            refine GO.iload_n dX0_nearestOpen_71 rfl rfl ?_
            refine GO.istore_n (ls1 := [some (.ref x), some (ti i2), some (ti i2), some (ti X1435), some (ti z1447)]) dX0_nearestOpen_72 rfl rfl rfl ?_
            refine GO.iinc (X := i2) (n := 1) (Y := i2 + 1) (ls1 := [some (.ref x), some (ti i2), some (ti (i2 + 1)), some (ti X1435), some (ti z1447)]) dX0_nearestOpen_73 rfl rfl rfl rfl ?_
            refine GO.goto (tgt := 4) dX0_nearestOpen_76 (by decide) ?_
            refine GO.drop [true, true, true, false, false] rfl ?_
            have q1463 : -2147483648 ≤ z1428 ∧ z1428 ≤ 2147483647 := r1429
            exact ih1426 i2 (i2 + 1) V ⟨by omega, by omega, by omega, by omega, rfl⟩ (by show (2147483647 - (i2 + 1)).toNat < (2147483647 - i2).toNat; omega)
    have hj1473 : GO mX0_nearestOpen K V (IP K V (fun X => True)) K V 0 0 46 [some (.ref x), some (ti i1), some (ti i2), some (ti X1435), none] [] := by
      skip
      refine GO.iconst dX0_nearestOpen_46 ?_
      exact hj1448 0 (by omega) (by omega)
    refine GO.icmp_eq (tgt := 46) dX0_nearestOpen_28 (by decide) r1436 (ir_c rfl) (fun c1474 => ?_) (fun c1474 => ?_)
    ·
      exact hj1473 
    ·
      refine GO.aload_n dX0_nearestOpen_31 rfl rfl ?_
      refine GO.getB h_x fl_RX0_49 rfl rfl dX0_nearestOpen_32 (fun n1477 hv1476 h1475 b1478 => ?_)
      refine GO.iload_n dX0_nearestOpen_35 rfl rfl ?_
      refine GO.callS (N := mX4_get) dX0_nearestOpen_36 gS_RX0_58 (t_X4_get rfl h1475 r_i2) rfl [] rfl rfl (Nat.le_of_ble_eq_true rfl) rfl (k_ip fun X1479 r1480 h1481 => ?_)
      refine GO.if_ne (tgt := 46) dX0_nearestOpen_39 (by decide) r1480 (fun c1482 => ?_) (fun c1482 => ?_)
      ·
        exact hj1473 
      ·
        refine GO.iconst dX0_nearestOpen_42 ?_
        refine GO.goto (tgt := 47) dX0_nearestOpen_43 (by decide) ?_
        exact hj1448 1 (by omega) (by omega)

set_option maxHeartbeats 1000000 in
theorem t_X0_step {K : Kmap} {V : Vmap} {x : Nat} {p0 : Int} {p1 : Int} (h_x : K x = some (0, 0)) (r_p0 : ir p0) (r_p1 : ir p1) : MC mX0_step K V [.ref x, ti p0, ti p1] (VS K (fun V1 => (True))) := by
  refine MC.start 2 (by decide +kernel) rfl rfl rfl (ls0 := [some (.ref x), some (ti p0), some (ti p1), none, none]) rfl ?_
  refine GO.aload_n dX0_step_0 rfl rfl ?_
  refine GO.iload_n dX0_step_1 rfl rfl ?_
  refine GO.callV (ci := 0) (N := mX0_isFirm) dX0_step_2 (RX0, TX0, 13) rfl gV_RX0_107 h_x (t_X0_isFirm h_x r_p1) rfl [] rfl rfl (Nat.le_of_ble_eq_true rfl) rfl (k_ip fun X1 r2 h3 => ?_)
  refine GO.if_ne (tgt := 9) dX0_step_5 (by decide) r2 (fun c4 => ?_) (fun c4 => ?_)
  ·
    refine GO.aload_n dX0_step_9 rfl rfl ?_
    refine GO.getB h_x fl_RX0_27 rfl rfl dX0_step_10 (fun n7 hv6 h5 b8 => ?_)
    refine GO.iload_n dX0_step_13 rfl rfl ?_
    refine GO.callS (N := mX4_get) dX0_step_14 gS_RX0_58 (t_X4_get rfl h5 r_p0) rfl [] rfl rfl (Nat.le_of_ble_eq_true rfl) rfl (k_ip fun X9 r10 h11 => ?_)
    refine GO.aload_n dX0_step_17 rfl rfl ?_
    refine GO.getRaw h_x fl_RX0_27 hv6 dX0_step_18 ?_
    refine GO.iload_n dX0_step_21 rfl rfl ?_
    refine GO.callS (N := mX4_get) dX0_step_22 gS_RX0_58 (t_X4_get rfl h5 r_p1) rfl [ti X9] rfl rfl (Nat.le_of_ble_eq_true rfl) rfl (k_ip fun X14 r15 h16 => ?_)
    refine GO.isub dX0_step_25 ?_
    refine GO.norm (fun z17 r18 _ => ?_)
    refine GO.callS (N := mJ9_abs_0f7a4) dX0_step_26 gS_RX0_70 (t_J9_abs_0f7a4 r18) rfl [] rfl rfl (Nat.le_of_ble_eq_true rfl) rfl (k_ip fun X19 r20 h21 => ?_)
    refine GO.istore_n (ls1 := [some (.ref x), some (ti p0), some (ti p1), some (ti X19), none]) dX0_step_29 rfl rfl rfl ?_
    refine GO.aload_n dX0_step_30 rfl rfl ?_
    refine GO.getB h_x fl_RX0_46 rfl rfl dX0_step_31 (fun n24 hv23 h22 b25 => ?_)
    refine GO.iload_n dX0_step_34 rfl rfl ?_
    refine GO.callS (N := mX4_get) dX0_step_35 gS_RX0_58 (t_X4_get rfl h22 r_p0) rfl [] rfl rfl (Nat.le_of_ble_eq_true rfl) rfl (k_ip fun X26 r27 h28 => ?_)
    refine GO.iconst dX0_step_38 ?_
    refine GO.iadd dX0_step_39 ?_
    refine GO.norm (fun z29 r30 _ => ?_)
    refine GO.iload_n dX0_step_40 rfl rfl ?_
    refine GO.iadd dX0_step_41 ?_
    refine GO.norm (fun z31 r32 _ => ?_)
    refine GO.istore (ls1 := [some (.ref x), some (ti p0), some (ti p1), some (ti X19), some (ti z31)]) dX0_step_42 rfl rfl ?_
    refine GO.aload_n dX0_step_44 rfl rfl ?_
    refine GO.getRaw h_x fl_RX0_46 hv23 dX0_step_45 ?_
    refine GO.iload_n dX0_step_48 rfl rfl ?_
    refine GO.callS (N := mX4_get) dX0_step_49 gS_RX0_58 (t_X4_get rfl h22 r_p1) rfl [] rfl rfl (Nat.le_of_ble_eq_true rfl) rfl (k_ip fun X35 r36 h37 => ?_)
    refine GO.iconst dX0_step_52 ?_
    refine GO.icmp_eq (tgt := 69) dX0_step_53 (by decide) r36 (ir_c rfl) (fun c38 => ?_) (fun c38 => ?_)
    ·
      refine GO.aload_n dX0_step_69 rfl rfl ?_
      refine GO.getRaw h_x fl_RX0_46 hv23 dX0_step_70 ?_
      refine GO.iload_n dX0_step_73 rfl rfl ?_
      refine GO.iload dX0_step_74 rfl ?_
      refine GO.callS (N := mX4_put) dX0_step_76 gS_RX0_95 (t_X4_put h22 r_p1 r32) rfl [] rfl rfl (Nat.le_of_ble_eq_true rfl) rfl (k_vs fun V43 h42 hF41 => ?_)
      exact GO.retv rfl rfl dX0_step_79 ⟨rfl, rfl, trivial⟩
    ·
      refine GO.iload dX0_step_56 rfl ?_
      refine GO.aload_n dX0_step_58 rfl rfl ?_
      refine GO.getRaw h_x fl_RX0_46 hv23 dX0_step_59 ?_
      refine GO.iload_n dX0_step_62 rfl rfl ?_
      refine GO.callS (N := mX4_get) dX0_step_63 gS_RX0_58 (t_X4_get rfl h22 r_p1) rfl [ti z31] rfl rfl (Nat.le_of_ble_eq_true rfl) rfl (k_ip fun X46 r47 h48 => ?_)
      refine GO.icmp_ge (tgt := 79) dX0_step_66 (by decide) r32 r47 (fun c49 => ?_) (fun c49 => ?_)
      ·
        exact GO.retv rfl rfl dX0_step_79 ⟨rfl, rfl, trivial⟩
      ·
        refine GO.aload_n dX0_step_69 rfl rfl ?_
        refine GO.getRaw h_x fl_RX0_46 hv23 dX0_step_70 ?_
        refine GO.iload_n dX0_step_73 rfl rfl ?_
        refine GO.iload dX0_step_74 rfl ?_
        refine GO.callS (N := mX4_put) dX0_step_76 gS_RX0_95 (t_X4_put h22 r_p1 r32) rfl [] rfl rfl (Nat.le_of_ble_eq_true rfl) rfl (k_vs fun V54 h53 hF52 => ?_)
        exact GO.retv rfl rfl dX0_step_79 ⟨rfl, rfl, trivial⟩
  ·
    exact GO.retv rfl rfl dX0_step_8 ⟨rfl, rfl, trivial⟩

set_option maxHeartbeats 1000000 in
theorem t_X0_leastDays {K : Kmap} {V : Vmap} {x : Nat} {p0 : Int} {p1 : Int} (h_x : K x = some (0, 0)) (r_p0 : ir p0) (r_p1 : ir p1) : MC mX0_leastDays K V [.ref x, ti p0, ti p1] (IS K (fun X V1 => True)) := by
  refine MC.start 3 (by decide +kernel) rfl rfl rfl (ls0 := [some (.ref x), some (ti p0), some (ti p1), none, none, none]) rfl ?_
  refine GO.aload_n dX0_leastDays_0 rfl rfl ?_
  refine GO.getB h_x fl_RX0_46 rfl rfl dX0_leastDays_1 (fun n3 hv2 h1 b4 => ?_)
  refine GO.iconst dX0_leastDays_4 ?_
  refine GO.callS (N := mX4_fill) dX0_leastDays_5 gS_RX0_52 (t_X4_fill h1 (ir_c rfl)) rfl [] rfl rfl (Nat.le_of_ble_eq_true rfl) rfl (k_vs fun V7 h6 hF5 => ?_)
  refine GO.aload_n dX0_leastDays_8 rfl rfl ?_
  refine GO.getB h_x fl_RX0_49 rfl rfl dX0_leastDays_9 (fun n10 hv9 h8 b11 => ?_)
  refine GO.iconst dX0_leastDays_12 ?_
  refine GO.callS (N := mX4_fill) dX0_leastDays_13 gS_RX0_52 (t_X4_fill h8 (ir_c rfl)) rfl [] rfl rfl (Nat.le_of_ble_eq_true rfl) rfl (k_vs fun V14 h13 hF12 => ?_)
  refine GO.aload_n dX0_leastDays_16 rfl rfl ?_
  refine GO.getRaw h_x fl_RX0_46 (Eq.trans (hF12 _ _ _ h_x h_x (by decide +kernel)) (Eq.trans (hF5 _ _ _ h_x h_x (by decide +kernel)) hv2)) dX0_leastDays_17 ?_
  refine GO.iload_n dX0_leastDays_20 rfl rfl ?_
  refine GO.iconst dX0_leastDays_21 ?_
  refine GO.callS (N := mX4_put) dX0_leastDays_22 gS_RX0_95 (t_X4_put h1 r_p0 (ir_c rfl)) rfl [] rfl rfl (Nat.le_of_ble_eq_true rfl) rfl (k_vs fun V19 h18 hF17 => ?_)
  refine GO.iconst dX0_leastDays_25 ?_
  refine GO.istore_n (ls1 := [some (.ref x), some (ti p0), some (ti p1), some (ti 0), none, none]) dX0_leastDays_26 rfl rfl rfl ?_
  refine GO.loop1 (fun i20 W => 0 ≤ i20 ∧ i20 ≤ 144 ∧ True) (fun i20 => [some (.ref x), some (ti p0), some (ti p1), some (ti i20), none, none]) (fun i20 W => (2147483647 - i20).toNat) 0 ⟨by omega, by omega, trivial⟩ rfl (fun i20 Wi20 hp784 ih783 => ?_)
  obtain ⟨l_i20, u_i20, -⟩ := hp784
  have r_i20 : ir i20 := ⟨by omega, by omega⟩
  show GO mX0_leastDays K V (IS K (fun X V1 => True)) K Wi20 0 0 27 [some (.ref x), some (ti p0), some (ti p1), some (ti i20), none, none] []
  refine GO.iload_n dX0_leastDays_27 rfl rfl ?_
  refine GO.sipush dX0_leastDays_28 rfl ?_
  refine GO.icmp_ge (tgt := 101) dX0_leastDays_31 (by decide) r_i20 (ir_c rfl) (fun c785 => ?_) (fun c785 => ?_)
  ·
    refine GO.aload_n dX0_leastDays_101 rfl rfl ?_
    refine GO.iload_n dX0_leastDays_102 rfl rfl ?_
    refine GO.callV (ci := 0) (N := mX0_isCell) dX0_leastDays_103 (RX0, TX0, 13) rfl gV_RX0_62 h_x (t_X0_isCell h_x r_p1) rfl [] rfl rfl (Nat.le_of_ble_eq_true rfl) rfl (k_ip fun X786 r787 h788 => ?_)
    refine GO.if_eq (tgt := 120) dX0_leastDays_106 (by decide) r787 (fun c789 => ?_) (fun c789 => ?_)
    ·
      refine GO.iconst dX0_leastDays_120 ?_
      exact GO.reti rfl rfl dX0_leastDays_121 ⟨rfl, _, rfl, (ir_c rfl), trivial⟩
    ·
      refine GO.aload_n dX0_leastDays_109 rfl rfl ?_
      refine GO.getB h_x fl_RX0_46 rfl rfl dX0_leastDays_110 (fun n792 hv791 h790 b793 => ?_)
      refine GO.iload_n dX0_leastDays_113 rfl rfl ?_
      refine GO.callS (N := mX4_get) dX0_leastDays_114 gS_RX0_58 (t_X4_get rfl h790 r_p1) rfl [] rfl rfl (Nat.le_of_ble_eq_true rfl) rfl (k_ip fun X794 r795 h796 => ?_)
      refine GO.goto (tgt := 121) dX0_leastDays_117 (by decide) ?_
      have q797 : -2147483648 ≤ X794 ∧ X794 ≤ 2147483647 := r795
      exact GO.reti rfl rfl dX0_leastDays_121 ⟨rfl, _, rfl, r795, trivial⟩
  ·
    refine GO.aload_n dX0_leastDays_34 rfl rfl ?_
    refine GO.callV (ci := 0) (N := mX0_nearestOpen) dX0_leastDays_35 (RX0, TX0, 13) rfl gV_RX0_99 h_x (t_X0_nearestOpen h_x) rfl [] rfl rfl (Nat.le_of_ble_eq_true rfl) rfl (k_ip fun X798 r799 h800 => ?_)
    refine GO.istore (ls1 := [some (.ref x), some (ti p0), some (ti p1), some (ti i20), some (ti X798), none]) dX0_leastDays_38 rfl rfl ?_
    refine GO.iload dX0_leastDays_40 rfl ?_
    refine GO.iconst dX0_leastDays_42 ?_
    refine GO.icmp_eq (tgt := 101) dX0_leastDays_43 (by decide) r799 (ir_c rfl) (fun c801 => ?_) (fun c801 => ?_)
    ·
      refine GO.aload_n dX0_leastDays_101 rfl rfl ?_
      refine GO.iload_n dX0_leastDays_102 rfl rfl ?_
      refine GO.callV (ci := 0) (N := mX0_isCell) dX0_leastDays_103 (RX0, TX0, 13) rfl gV_RX0_62 h_x (t_X0_isCell h_x r_p1) rfl [] rfl rfl (Nat.le_of_ble_eq_true rfl) rfl (k_ip fun X802 r803 h804 => ?_)
      refine GO.if_eq (tgt := 120) dX0_leastDays_106 (by decide) r803 (fun c805 => ?_) (fun c805 => ?_)
      ·
        refine GO.iconst dX0_leastDays_120 ?_
        exact GO.reti rfl rfl dX0_leastDays_121 ⟨rfl, _, rfl, (ir_c rfl), trivial⟩
      ·
        refine GO.aload_n dX0_leastDays_109 rfl rfl ?_
        refine GO.getB h_x fl_RX0_46 rfl rfl dX0_leastDays_110 (fun n808 hv807 h806 b809 => ?_)
        refine GO.iload_n dX0_leastDays_113 rfl rfl ?_
        refine GO.callS (N := mX4_get) dX0_leastDays_114 gS_RX0_58 (t_X4_get rfl h806 r_p1) rfl [] rfl rfl (Nat.le_of_ble_eq_true rfl) rfl (k_ip fun X810 r811 h812 => ?_)
        refine GO.goto (tgt := 121) dX0_leastDays_117 (by decide) ?_
        have q813 : -2147483648 ≤ X810 ∧ X810 ≤ 2147483647 := r811
        exact GO.reti rfl rfl dX0_leastDays_121 ⟨rfl, _, rfl, r811, trivial⟩
    ·
      refine GO.iload dX0_leastDays_46 rfl ?_
      refine GO.iload_n dX0_leastDays_48 rfl rfl ?_
      refine GO.icmp_ne (tgt := 55) dX0_leastDays_49 (by decide) r799 r_p1 (fun c814 => ?_) (fun c814 => ?_)
      ·
        refine GO.aload_n dX0_leastDays_55 rfl rfl ?_
        refine GO.getB h_x fl_RX0_49 rfl rfl dX0_leastDays_56 (fun n817 hv816 h815 b818 => ?_)
        refine GO.iload dX0_leastDays_59 rfl ?_
        refine GO.iconst dX0_leastDays_61 ?_
        refine GO.callS (N := mX4_put) dX0_leastDays_62 gS_RX0_95 (t_X4_put h815 r799 (ir_c rfl)) rfl [] rfl rfl (Nat.le_of_ble_eq_true rfl) rfl (k_vs fun V821 h820 hF819 => ?_)
        refine GO.iconst dX0_leastDays_65 ?_
        refine GO.istore (ls1 := [some (.ref x), some (ti p0), some (ti p1), some (ti i20), some (ti X798), some (ti 0)]) dX0_leastDays_66 rfl rfl ?_
        refine GO.loop1 (fun i822 W => 0 ≤ i822 ∧ i822 ≤ 8 ∧ True) (fun i822 => [some (.ref x), some (ti p0), some (ti p1), some (ti i20), some (ti X798), some (ti i822)]) (fun i822 W => (2147483647 - i822).toNat) 0 ⟨by omega, by omega, trivial⟩ rfl (fun i822 Wi822 hp859 ih858 => ?_)
        obtain ⟨l_i822, u_i822, -⟩ := hp859
        have r_i822 : ir i822 := ⟨by omega, by omega⟩
        show GO mX0_leastDays K V (IS K (fun X V1 => True)) K Wi822 0 0 68 [some (.ref x), some (ti p0), some (ti p1), some (ti i20), some (ti X798), some (ti i822)] []
        refine GO.iload dX0_leastDays_68 rfl ?_
        refine GO.bipush dX0_leastDays_70 rfl ?_
        refine GO.icmp_ge (tgt := 95) dX0_leastDays_72 (by decide) r_i822 (ir_c rfl) (fun c860 => ?_) (fun c860 => ?_)
        ·
          refine GO.iinc (X := i20) (n := 1) (Y := i20 + 1) (ls1 := [some (.ref x), some (ti p0), some (ti p1), some (ti (i20 + 1)), some (ti X798), some (ti i822)]) dX0_leastDays_95 rfl rfl rfl rfl ?_
          refine GO.goto (tgt := 27) dX0_leastDays_98 (by decide) ?_
          refine GO.drop [true, true, true, true, false, false] rfl ?_
          exact ih783 (i20 + 1) Wi822 ⟨by omega, by omega, trivial⟩ (by show (2147483647 - (i20 + 1)).toNat < (2147483647 - i20).toNat; omega)
        ·
          refine GO.aload_n dX0_leastDays_75 rfl rfl ?_
          refine GO.iload dX0_leastDays_76 rfl ?_
          refine GO.aload_n dX0_leastDays_78 rfl rfl ?_
          refine GO.iload dX0_leastDays_79 rfl ?_
          refine GO.iload dX0_leastDays_81 rfl ?_
          refine GO.callV (ci := 0) (N := mX0_beside) dX0_leastDays_83 (RX0, TX0, 13) rfl gV_RX0_92 h_x (t_X0_beside h_x r799 r_i822) rfl [ti X798, .ref x] rfl rfl (Nat.le_of_ble_eq_true rfl) rfl (k_ip fun X861 r862 h863 => ?_)
          refine GO.callV (ci := 0) (N := mX0_step) dX0_leastDays_86 (RX0, TX0, 13) rfl gV_RX0_103 h_x (t_X0_step h_x r799 r862) rfl [] rfl rfl (Nat.le_of_ble_eq_true rfl) rfl (k_vs fun V866 h865 hF864 => ?_)
          refine GO.iinc (X := i822) (n := 1) (Y := i822 + 1) (ls1 := [some (.ref x), some (ti p0), some (ti p1), some (ti i20), some (ti X798), some (ti (i822 + 1))]) dX0_leastDays_89 rfl rfl rfl rfl ?_
          refine GO.goto (tgt := 68) dX0_leastDays_92 (by decide) ?_
          exact ih858 (i822 + 1) V866 ⟨by omega, by omega, trivial⟩ (by show (2147483647 - (i822 + 1)).toNat < (2147483647 - i822).toNat; omega)
      ·
        refine GO.goto (tgt := 101) dX0_leastDays_52 (by decide) ?_
        refine GO.aload_n dX0_leastDays_101 rfl rfl ?_
        refine GO.iload_n dX0_leastDays_102 rfl rfl ?_
        refine GO.callV (ci := 0) (N := mX0_isCell) dX0_leastDays_103 (RX0, TX0, 13) rfl gV_RX0_62 h_x (t_X0_isCell h_x r_p1) rfl [] rfl rfl (Nat.le_of_ble_eq_true rfl) rfl (k_ip fun X867 r868 h869 => ?_)
        refine GO.if_eq (tgt := 120) dX0_leastDays_106 (by decide) r868 (fun c870 => ?_) (fun c870 => ?_)
        ·
          refine GO.iconst dX0_leastDays_120 ?_
          exact GO.reti rfl rfl dX0_leastDays_121 ⟨rfl, _, rfl, (ir_c rfl), trivial⟩
        ·
          refine GO.aload_n dX0_leastDays_109 rfl rfl ?_
          refine GO.getB h_x fl_RX0_46 rfl rfl dX0_leastDays_110 (fun n873 hv872 h871 b874 => ?_)
          refine GO.iload_n dX0_leastDays_113 rfl rfl ?_
          refine GO.callS (N := mX4_get) dX0_leastDays_114 gS_RX0_58 (t_X4_get rfl h871 r_p1) rfl [] rfl rfl (Nat.le_of_ble_eq_true rfl) rfl (k_ip fun X875 r876 h877 => ?_)
          refine GO.goto (tgt := 121) dX0_leastDays_117 (by decide) ?_
          have q878 : -2147483648 ≤ X875 ∧ X875 ≤ 2147483647 := r876
          exact GO.reti rfl rfl dX0_leastDays_121 ⟨rfl, _, rfl, r876, trivial⟩
