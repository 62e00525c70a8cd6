def mX8_isFull_k25 : MRec := (RX8, cX8_isFull, 1, (some .boolean), yX8_isFull, 0, 0, 0, 0, 0)
def mX8_put_k25 : MRec := (RX8, cX8_put, 6, (none : Option Jvm.ClassFile.FieldType), yX8_put, 0, 0, 0, 0, 3794275180128377091639574036764685364535950857523710002444946112771297432041422848)
def mX8_append_k25 : MRec := (RX8, cX8_append, 7, (some .int), yX8_append, 1, 25, 0, 0, 1353842624082429130653522550851115089568572794505123117223337824361557097216651000785938360504246905812812914998545269848539136)
def mX11_word : MRec := (RX11, cX11_word, 2, (some .int), yX11_word, 2, 51, 0, 0, 1353842624082429130653522550851115089568572794505123117223337824361557097216651000785938360504246905812812914998545269848539136)
def mX8_has_k25 : MRec := (RX8, cX8_has, 2, (some .boolean), yX8_has, 0, 0, 0, 0, 0)
def mX11_asks : MRec := (RX11, cX11_asks, 7, (some .boolean), yX11_asks, 1, 22, 0, 0, 3794275180128377091639574036764685364535950857523710002444946112771297432309858304)
def mX11_blockers : MRec := (RX11, cX11_blockers, 5, (some .int), yX11_blockers, 2, 43, 0, 0, 0)
def mX11_blocks : MRec := (RX11, cX11_blocks, 2, (some .int), yX11_blocks, 3, 67, 0, 0, 0)
def mX8_get_k25 : MRec := (RX8, cX8_get, 5, (some .int), yX8_get, 0, 0, 0, 0, 0)
def mX11_worthOf : MRec := (RX11, cX11_worthOf, 4, (some .int), yX11_worthOf, 1, 24, 0, 0, 0)
def mX11_best : MRec := (RX11, cX11_best, 7, (some .int), yX11_best, 3, 67, 0, 0, 0)
def mX8_isFull_k24 : MRec := (RX8, cX8_isFull, 1, (some .boolean), yX8_isFull, 0, 0, 0, 0, 0)
def mX8_put_k24 : MRec := (RX8, cX8_put, 6, (none : Option Jvm.ClassFile.FieldType), yX8_put, 0, 0, 0, 0, 3794275180128377091639574036764685364535950857523710002444946112771297432041422848)
set_option maxHeartbeats 1000000 in
theorem t_X8_isFull_k25 {K : Kmap} {V : Vmap} {x : Nat} (h_x : K x = some (0, 25)) : MC mX8_isFull_k25 K V [.ref x] (IP K V (fun X => (X = 0 ∨ X = 1) ∧ (X ≠ 0 → vi V x 3 ≥ 7) ∧ (X = 0 → vi V x 3 ≤ 6))) := by
  refine MC.start 0 (by decide +kernel) rfl rfl rfl (ls0 := [some (.ref x)]) rfl ?_
  refine GO.aload_n dX8_isFull_0 rfl rfl ?_
  refine GO.getI h_x fl_RX8_9_k25 rfl rfl dX8_isFull_1 (fun l1 u2 => ?_)
  refine GO.aload_n dX8_isFull_4 rfl rfl ?_
  refine GO.getI h_x fl_RX8_18_k25 rfl rfl dX8_isFull_5 (fun l3 u4 => ?_)
  refine GO.icmp_lt (tgt := 15) dX8_isFull_8 (by decide) vi_ir vi_ir (fun c5 => ?_) (fun c5 => ?_)
  ·
    refine GO.iconst dX8_isFull_15 ?_
    exact GO.retz rfl rfl dX8_isFull_16 (by omega) ⟨rfl, rfl, _, rfl, (ir_c rfl), ⟨by omega, fun h => by omega, fun h => by omega⟩⟩
  ·
    refine GO.iconst dX8_isFull_11 ?_
    refine GO.goto (tgt := 16) dX8_isFull_12 (by decide) ?_
    exact GO.retz rfl rfl dX8_isFull_16 (by omega) ⟨rfl, rfl, _, rfl, (ir_c rfl), ⟨by omega, fun h => by omega, fun h => by omega⟩⟩

set_option maxHeartbeats 1000000 in
theorem t_X8_put_k25 {K : Kmap} {V : Vmap} {x : Nat} {p0 : Int} {p1 : Int} {p2 : Int} (h_x : K x = some (0, 25)) (r_p0 : ir p0) (r_p1 : ir p1) (r_p2 : ir p2) : MC mX8_put_k25 K V [.ref x, ti p0, ti p1, ti p2] (VS K (fun V1 => (True))) := by
  refine MC.start 2 (by decide +kernel) rfl rfl rfl (ls0 := [some (.ref x), some (ti p0), some (ti p1), some (ti p2), none, none]) rfl ?_
  refine GO.iload_n dX8_put_0 rfl rfl ?_
  refine GO.aload_n dX8_put_1 rfl rfl ?_
  refine GO.getI h_x fl_RX8_15_k25 rfl rfl dX8_put_2 (fun l1 u2 => ?_)
  refine GO.imul dX8_put_5 ?_
  refine GO.norm (fun z3 r4 _ => ?_)
  refine GO.iload_n dX8_put_6 rfl rfl ?_
  refine GO.iadd dX8_put_7 ?_
  refine GO.norm (fun z5 r6 _ => ?_)
  refine GO.istore (ls1 := [some (.ref x), some (ti p0), some (ti p1), some (ti p2), some (ti z5), none]) dX8_put_8 rfl rfl ?_
  refine GO.iload_n dX8_put_10 rfl rfl ?_
  have hj16 : ∀ (z15 : Int), ∀ (l17 : 0 ≤ z15), ∀ (u18 : z15 ≤ 1), GO mX8_put_k25 K V (VS K (fun V1 => (True))) K V 0 0 39 [some (.ref x), some (ti p0), some (ti p1), some (ti p2), some (ti z5), none] [ti z15] := by
    intro z15 l17 u18
    have r19 : ir z15 := ⟨by omega, by omega⟩
    refine GO.istore (ls1 := [some (.ref x), some (ti p0), some (ti p1), some (ti p2), some (ti z5), some (ti z15)]) dX8_put_39 rfl rfl ?_
    refine GO.iload dX8_put_41 rfl ?_
    refine GO.if_eq (tgt := 69) dX8_put_43 (by decide) r19 (fun c20 => ?_) (fun c20 => ?_)
    ·
      exact GO.retv rfl rfl dX8_put_69 ⟨rfl, rfl, trivial⟩
    ·
      refine GO.iload dX8_put_46 rfl ?_
      refine GO.if_lt (tgt := 69) dX8_put_48 (by decide) r6 (fun c21 => ?_) (fun c21 => ?_)
      ·
        exact GO.retv rfl rfl dX8_put_69 ⟨rfl, rfl, trivial⟩
      ·
        refine GO.iload dX8_put_51 rfl ?_
        refine GO.aload_n dX8_put_53 rfl rfl ?_
        refine GO.getB h_x fl_RX8_27_k25 rfl rfl dX8_put_54 (fun n24 hv23 h22 b25 => ?_)
        refine GO.alen h22 dX8_put_57 (fun h26 => ?_)
        refine GO.icmp_ge (tgt := 69) dX8_put_58 (by decide) r6 ⟨by omega, by omega⟩ (fun c27 => ?_) (fun c27 => ?_)
        ·
          exact GO.retv rfl rfl dX8_put_69 ⟨rfl, rfl, trivial⟩
        ·
          refine GO.aload_n dX8_put_61 rfl rfl ?_
          refine GO.getRaw h_x fl_RX8_27_k25 hv23 dX8_put_62 ?_
          refine GO.iload dX8_put_65 rfl ?_
          refine GO.iload_n dX8_put_67 rfl rfl ?_
          have q30 : -2147483648 ≤ z5 ∧ z5 ≤ 2147483647 := r6
          refine GO.iast (t := 0) rfl rfl (by decide +kernel) h22 r6 (by omega) (by omega) r_p2 (r_p2).1 (r_p2).2 dX8_put_68 (fun V32 e31 => ?_)
          exact GO.retv rfl rfl dX8_put_69 ⟨rfl, rfl, trivial⟩
  have hj41 : GO mX8_put_k25 K V (VS K (fun V1 => (True))) K V 0 0 38 [some (.ref x), some (ti p0), some (ti p1), some (ti p2), some (ti z5), none] [] := by
    skip
    refine GO.iconst dX8_put_38 ?_
    exact hj16 0 (by omega) (by omega)
  refine GO.if_lt (tgt := 38) dX8_put_11 (by decide) r_p0 (fun c42 => ?_) (fun c42 => ?_)
  ·
    exact hj41 
  ·
    refine GO.iload_n dX8_put_14 rfl rfl ?_
    refine GO.aload_n dX8_put_15 rfl rfl ?_
    refine GO.getI h_x fl_RX8_9_k25 rfl rfl dX8_put_16 (fun l43 u44 => ?_)
    refine GO.icmp_ge (tgt := 38) dX8_put_19 (by decide) r_p0 vi_ir (fun c45 => ?_) (fun c45 => ?_)
    ·
      exact hj41 
    ·
      refine GO.iload_n dX8_put_22 rfl rfl ?_
      refine GO.if_lt (tgt := 38) dX8_put_23 (by decide) r_p1 (fun c46 => ?_) (fun c46 => ?_)
      ·
        exact hj41 
      ·
        refine GO.iload_n dX8_put_26 rfl rfl ?_
        refine GO.aload_n dX8_put_27 rfl rfl ?_
        refine GO.getI h_x fl_RX8_15_k25 rfl rfl dX8_put_28 (fun l47 u48 => ?_)
        refine GO.icmp_ge (tgt := 38) dX8_put_31 (by decide) r_p1 vi_ir (fun c49 => ?_) (fun c49 => ?_)
        ·
          exact hj41 
        ·
          refine GO.iconst dX8_put_34 ?_
          refine GO.goto (tgt := 39) dX8_put_35 (by decide) ?_
          exact hj16 1 (by omega) (by omega)

set_option maxHeartbeats 1000000 in
theorem t_X8_append_k25 {K : Kmap} {V : Vmap} {x : Nat} {p0 : Int} {p1 : Int} {p2 : Int} {p3 : Int} {p4 : Int} (h_x : K x = some (0, 25)) (r_p0 : ir p0) (r_p1 : ir p1) (r_p2 : ir p2) (r_p3 : ir p3) (r_p4 : ir p4) : MC mX8_append_k25 K V [.ref x, ti p0, ti p1, ti p2, ti p3, ti p4] (IS K (fun X V1 => ((X = (-1) ∧ vi V1 x 3 = vi V x 3 ∧ vi V x 3 ≥ 7) ∨ (X = vi V x 3 ∧ vi V1 x 3 = (vi V x 3 + 1) ∧ vi V x 3 < 7)))) := by
  refine MC.start 1 (by decide +kernel) rfl rfl rfl (ls0 := [some (.ref x), some (ti p0), some (ti p1), some (ti p2), some (ti p3), some (ti p4), none]) rfl ?_
  refine GO.aload_n dX8_append_0 rfl rfl ?_
  refine GO.callV (ci := 25) (N := mX8_isFull_k25) dX8_append_1 (RX8, TX8, 4) rfl gV_RX8_31 h_x (t_X8_isFull_k25 h_x) rfl [] rfl rfl (Nat.le_of_ble_eq_true rfl) rfl (k_ip fun X1 r2 h3 => ?_)
  refine GO.if_eq (tgt := 9) dX8_append_4 (by decide) r2 (fun c4 => ?_) (fun c4 => ?_)
  ·
    have q5 := h3.2.2 (by omega)
    refine GO.aload_n dX8_append_9 rfl rfl ?_
    refine GO.getI h_x fl_RX8_9_k25 rfl rfl dX8_append_10 (fun l6 u7 => ?_)
    refine GO.name (fun z8 hz9 => ?_)
    have r10 : ir z8 := hz9 ▸ vi_ir
    refine GO.istore (ls1 := [some (.ref x), some (ti p0), some (ti p1), some (ti p2), some (ti p3), some (ti p4), some (ti z8)]) dX8_append_13 rfl rfl ?_
    refine GO.aload_n dX8_append_15 rfl rfl ?_
    refine GO.dup dX8_append_16 rfl ?_
    refine GO.getI h_x fl_RX8_9_k25 rfl rfl dX8_append_17 (fun l11 u12 => ?_)
    refine GO.iconst dX8_append_20 ?_
    refine GO.iadd dX8_append_21 ?_
    have q14 : -2147483648 ≤ vi V x 3 ∧ vi V x 3 ≤ 2147483647 := vi_ir
    have q15 : -2147483648 ≤ z8 ∧ z8 ≤ 2147483647 := r10
    refine GO.putI h_x fp_RX8_9_k25 rfl (by decide +kernel) ⟨by omega, by omega⟩ (by omega) (by omega) dX8_append_22 (fun V16 e13 => ?_)
    refine GO.aload_n dX8_append_25 rfl rfl ?_
    refine GO.iload dX8_append_26 rfl ?_
    refine GO.iconst dX8_append_28 ?_
    refine GO.iload_n dX8_append_29 rfl rfl ?_
    refine GO.callV (ci := 25) (N := mX8_put_k25) dX8_append_30 (RX8, TX8, 4) rfl gV_RX8_35 h_x (t_X8_put_k25 h_x r10 (ir_c rfl) r_p0) rfl [] rfl rfl (Nat.le_of_ble_eq_true rfl) rfl (k_vs fun V19 h18 hF17 => ?_)
    refine GO.aload_n dX8_append_33 rfl rfl ?_
    refine GO.iload dX8_append_34 rfl ?_
    refine GO.iconst dX8_append_36 ?_
    refine GO.iload_n dX8_append_37 rfl rfl ?_
    refine GO.callV (ci := 25) (N := mX8_put_k25) dX8_append_38 (RX8, TX8, 4) rfl gV_RX8_35 h_x (t_X8_put_k25 h_x r10 (ir_c rfl) r_p1) rfl [] rfl rfl (Nat.le_of_ble_eq_true rfl) rfl (k_vs fun V22 h21 hF20 => ?_)
    refine GO.aload_n dX8_append_41 rfl rfl ?_
    refine GO.iload dX8_append_42 rfl ?_
    refine GO.iconst dX8_append_44 ?_
    refine GO.iload_n dX8_append_45 rfl rfl ?_
    refine GO.callV (ci := 25) (N := mX8_put_k25) dX8_append_46 (RX8, TX8, 4) rfl gV_RX8_35 h_x (t_X8_put_k25 h_x r10 (ir_c rfl) r_p2) rfl [] rfl rfl (Nat.le_of_ble_eq_true rfl) rfl (k_vs fun V25 h24 hF23 => ?_)
    refine GO.aload_n dX8_append_49 rfl rfl ?_
    refine GO.iload dX8_append_50 rfl ?_
    refine GO.iconst dX8_append_52 ?_
    refine GO.iload dX8_append_53 rfl ?_
    refine GO.callV (ci := 25) (N := mX8_put_k25) dX8_append_55 (RX8, TX8, 4) rfl gV_RX8_35 h_x (t_X8_put_k25 h_x r10 (ir_c rfl) r_p3) rfl [] rfl rfl (Nat.le_of_ble_eq_true rfl) rfl (k_vs fun V28 h27 hF26 => ?_)
    refine GO.aload_n dX8_append_58 rfl rfl ?_
    refine GO.iload dX8_append_59 rfl ?_
    refine GO.iconst dX8_append_61 ?_
    refine GO.iload dX8_append_62 rfl ?_
    refine GO.callV (ci := 25) (N := mX8_put_k25) dX8_append_64 (RX8, TX8, 4) rfl gV_RX8_35 h_x (t_X8_put_k25 h_x r10 (ir_c rfl) r_p4) rfl [] rfl rfl (Nat.le_of_ble_eq_true rfl) rfl (k_vs fun V31 h30 hF29 => ?_)
    refine GO.iload dX8_append_67 rfl ?_
    have e37 : vi V16 x 3 = (vi V x 3) + 1 := upd2_int e13 ⟨by omega, by omega⟩
    have e36 : vi V19 x 3 = vi V16 x 3 := vi_fr hF17 h_x h_x (by decide +kernel)
    have e35 : vi V22 x 3 = vi V19 x 3 := vi_fr hF20 h_x h_x (by decide +kernel)
    have e34 : vi V25 x 3 = vi V22 x 3 := vi_fr hF23 h_x h_x (by decide +kernel)
    have e33 : vi V28 x 3 = vi V25 x 3 := vi_fr hF26 h_x h_x (by decide +kernel)
    have e32 : vi V31 x 3 = vi V28 x 3 := vi_fr hF29 h_x h_x (by decide +kernel)
    exact GO.reti rfl rfl dX8_append_69 ⟨rfl, _, rfl, r10, by omega⟩
  ·
    have q38 := h3.2.1 (by omega)
    refine GO.iconst dX8_append_7 ?_
    have q39 : -2147483648 ≤ vi V x 3 ∧ vi V x 3 ≤ 2147483647 := vi_ir
    exact GO.reti rfl rfl dX8_append_8 ⟨rfl, _, rfl, (ir_c rfl), by omega⟩

set_option maxHeartbeats 1000000 in
theorem t_X11_word {K : Kmap} {V : Vmap} {x : Nat} {p0 : Int} (h_x : K x = some (0, 10)) (r_p0 : ir p0) : MC mX11_word K V [.ref x, ti p0] (IS K (fun X V1 => (X ≥ (-2147483648) ∧ X ≤ 2147483647) ∧ (WDC V V1 x p0 X))) := by
  refine MC.start 0 (by decide +kernel) rfl rfl rfl (ls0 := [some (.ref x), some (ti p0)]) rfl ?_
  refine GO.iload_n dX11_word_0 rfl rfl ?_
  refine GO.iconst dX11_word_1 ?_
  refine GO.sipush dX11_word_2 rfl ?_
  refine GO.callS (N := mX11_between) dX11_word_5 gS_RX11_112 (t_X11_between r_p0 (ir_c rfl) (ir_c rfl)) rfl [] rfl rfl (Nat.le_of_ble_eq_true rfl) rfl (k_ip fun X1 r2 h3 => ?_)
  refine GO.if_eq (tgt := 26) dX11_word_8 (by decide) r2 (fun c4 => ?_) (fun c4 => ?_)
  ·
    have q5 := h3.2.2 (by omega)
    refine GO.iconst dX11_word_26 ?_
    exact GO.reti rfl rfl dX11_word_27 ⟨rfl, _, rfl, (ir_c rfl), ⟨by omega, (by first | exact wdc_0 (by omega) | exact wdc_1 (by assumption) h_x (by decide +kernel) (by omega) (by omega) (by assumption))⟩⟩
  ·
    have q6 := h3.2.1 (by omega)
    refine GO.aload_n dX11_word_11 rfl rfl ?_
    refine GO.getR h_x fl_RX11_88 rfl rfl dX11_word_12 (fun hv8 h7 => ?_)
    refine GO.iload_n dX11_word_15 rfl rfl ?_
    refine GO.iconst dX11_word_16 ?_
    refine GO.iconst dX11_word_17 ?_
    refine GO.iconst dX11_word_18 ?_
    refine GO.iconst dX11_word_19 ?_
    refine GO.callV (ci := 25) (N := mX8_append_k25) dX11_word_20 (RX8, TX8, 4) rfl gV_RX11_205 h7 (t_X8_append_k25 h7 r_p0 (ir_c rfl) (ir_c rfl) (ir_c rfl) (ir_c rfl)) rfl [] rfl rfl (Nat.le_of_ble_eq_true rfl) rfl (k_is fun X9 V13 r10 h11 hF12 => ?_)
    refine GO.goto (tgt := 27) dX11_word_23 (by decide) ?_
    have q15 : -2147483648 ≤ X9 ∧ X9 ≤ 2147483647 := r10
    exact GO.reti rfl rfl dX11_word_27 ⟨rfl, _, rfl, r10, ⟨by omega, (by first | exact wdc_0 (by omega) | exact wdc_1 (by assumption) h_x (by decide +kernel) (by omega) (by omega) (by assumption))⟩⟩

set_option maxHeartbeats 1000000 in
theorem t_X8_has_k25 {K : Kmap} {V : Vmap} {x : Nat} {p0 : Int} (h_x : K x = some (0, 25)) (r_p0 : ir p0) : MC mX8_has_k25 K V [.ref x, ti p0] (IP K V (fun X => (X = 0 ∨ X = 1) ∧ (X ≠ 0 → True) ∧ (X = 0 → True))) := by
  refine MC.start 0 (by decide +kernel) rfl rfl rfl (ls0 := [some (.ref x), some (ti p0)]) rfl ?_
  refine GO.iload_n dX8_has_0 rfl rfl ?_
  refine GO.if_lt (tgt := 16) dX8_has_1 (by decide) r_p0 (fun c1 => ?_) (fun c1 => ?_)
  ·
    refine GO.iconst dX8_has_16 ?_
    exact GO.retz rfl rfl dX8_has_17 (by omega) ⟨rfl, rfl, _, rfl, (ir_c rfl), ⟨by omega, fun _ => trivial, fun _ => trivial⟩⟩
  ·
    refine GO.iload_n dX8_has_4 rfl rfl ?_
    refine GO.aload_n dX8_has_5 rfl rfl ?_
    refine GO.getI h_x fl_RX8_9_k25 rfl rfl dX8_has_6 (fun l2 u3 => ?_)
    refine GO.icmp_ge (tgt := 16) dX8_has_9 (by decide) r_p0 vi_ir (fun c4 => ?_) (fun c4 => ?_)
    ·
      refine GO.iconst dX8_has_16 ?_
      exact GO.retz rfl rfl dX8_has_17 (by omega) ⟨rfl, rfl, _, rfl, (ir_c rfl), ⟨by omega, fun _ => trivial, fun _ => trivial⟩⟩
    ·
      refine GO.iconst dX8_has_12 ?_
      refine GO.goto (tgt := 17) dX8_has_13 (by decide) ?_
      exact GO.retz rfl rfl dX8_has_17 (by omega) ⟨rfl, rfl, _, rfl, (ir_c rfl), ⟨by omega, fun _ => trivial, fun _ => trivial⟩⟩

set_option maxHeartbeats 1000000 in
theorem t_X11_asks {K : Kmap} {V : Vmap} {x : Nat} {p0 : Int} {p1 : Int} {p2 : Int} (h_x : K x = some (0, 10)) (r_p0 : ir p0) (r_p1 : ir p1) (r_p2 : ir p2) : MC mX11_asks K V [.ref x, ti p0, ti p1, ti p2] (IS K (fun X V1 => (X = 0 ∨ X = 1) ∧ (X ≠ 0 → True) ∧ (X = 0 → True))) := by
  refine MC.start 3 (by decide +kernel) rfl rfl rfl (ls0 := [some (.ref x), some (ti p0), some (ti p1), some (ti p2), none, none, none]) rfl ?_
  refine GO.aload_n dX11_asks_0 rfl rfl ?_
  refine GO.iload_n dX11_asks_1 rfl rfl ?_
  refine GO.callV (ci := 10) (N := mX11_partyOf) dX11_asks_2 (RX11, TX11, 20) rfl gV_RX11_151 h_x (t_X11_partyOf h_x r_p0) rfl [] rfl rfl (Nat.le_of_ble_eq_true rfl) rfl (k_rp (fun h3 => ?_) (fun o1 h2 h3 => ?_))
  ·
    have hn4 : PN V x → p0 < 0 ∨ vi V x 4 ≤ p0 := h3.2
    refine GO.astoreN (ls1 := [some (.ref x), some (ti p0), some (ti p1), some (ti p2), some (.null), none, none]) dX11_asks_5 rfl rfl ?_
    refine GO.aloadN dX11_asks_7 rfl ?_
    refine GO.ifnullN (tgt := 44) dX11_asks_9 (by decide) ?_
    refine GO.iconst dX11_asks_44 ?_
    exact GO.retz rfl rfl dX11_asks_45 (by omega) ⟨rfl, _, rfl, (ir_c rfl), ⟨by omega, fun _ => trivial, fun _ => trivial⟩⟩
  ·
    have hp5 : p0 ≥ 0 ∧ p0 < vi V x 4 := h3
    refine GO.astore (ls1 := [some (.ref x), some (ti p0), some (ti p1), some (ti p2), some (.ref o1), none, none]) dX11_asks_5 rfl rfl ?_
    refine GO.aload dX11_asks_7 rfl ?_
    refine GO.ifnull dX11_asks_9 ?_
    refine GO.aload_n dX11_asks_12 rfl rfl ?_
    refine GO.getR h_x fl_RX11_88 rfl rfl dX11_asks_13 (fun hv7 h6 => ?_)
    refine GO.iload_n dX11_asks_16 rfl rfl ?_
    refine GO.callV (ci := 25) (N := mX8_has_k25) dX11_asks_17 (RX8, TX8, 4) rfl gV_RX11_431 h6 (t_X8_has_k25 h6 r_p1) rfl [] rfl rfl (Nat.le_of_ble_eq_true rfl) rfl (k_ip fun X8 r9 h10 => ?_)
    refine GO.if_eq (tgt := 44) dX11_asks_20 (by decide) r9 (fun c11 => ?_) (fun c11 => ?_)
    ·
      refine GO.iconst dX11_asks_44 ?_
      exact GO.retz rfl rfl dX11_asks_45 (by omega) ⟨rfl, _, rfl, (ir_c rfl), ⟨by omega, fun _ => trivial, fun _ => trivial⟩⟩
    ·
      refine GO.iload_n dX11_asks_23 rfl rfl ?_
      refine GO.iload_n dX11_asks_24 rfl rfl ?_
      refine GO.icmp_eq (tgt := 44) dX11_asks_25 (by decide) r_p2 r_p1 (fun c12 => ?_) (fun c12 => ?_)
      ·
        refine GO.iconst dX11_asks_44 ?_
        exact GO.retz rfl rfl dX11_asks_45 (by omega) ⟨rfl, _, rfl, (ir_c rfl), ⟨by omega, fun _ => trivial, fun _ => trivial⟩⟩
      ·
        refine GO.iload_n dX11_asks_28 rfl rfl ?_
        refine GO.iconst dX11_asks_29 ?_
        have hj20 : GO mX11_asks K V (IS K (fun X V1 => (X = 0 ∨ X = 1) ∧ (X ≠ 0 → True) ∧ (X = 0 → True))) K V 0 0 46 [some (.ref x), some (ti p0), some (ti p1), some (ti p2), some (.ref o1), none, none] [] := by
          skip
          refine GO.iconst dX11_asks_46 ?_
          refine GO.iload_n dX11_asks_47 rfl rfl ?_
          refine GO.ishl dX11_asks_48 ?_
          refine GO.name (fun z21 hz22 => ?_)
          have r23 : ir z21 := hz22 ▸ wshl_ir
          refine GO.istore (ls1 := [some (.ref x), some (ti p0), some (ti p1), some (ti p2), some (.ref o1), some (ti z21), none]) dX11_asks_49 rfl rfl ?_
          refine GO.iload_n dX11_asks_51 rfl rfl ?_
          refine GO.iconst dX11_asks_52 ?_
          refine GO.icmp_ne (tgt := 89) dX11_asks_53 (by decide) r_p2 (ir_c rfl) (fun c24 => ?_) (fun c24 => ?_)
          ·
            refine GO.aload dX11_asks_89 rfl ?_
            refine GO.getB h2 fl_RX11_578 rfl rfl dX11_asks_91 (fun n27 hv26 h25 b28 => ?_)
            refine GO.iload_n dX11_asks_94 rfl rfl ?_
            refine GO.callS (N := mX4_get) dX11_asks_95 gS_RX11_253 (t_X4_get rfl h25 r_p2) rfl [] rfl rfl (Nat.le_of_ble_eq_true rfl) rfl (k_ip fun X29 r30 h31 => ?_)
            refine GO.istore (ls1 := [some (.ref x), some (ti p0), some (ti p1), some (ti p2), some (.ref o1), some (ti z21), some (ti X29)]) dX11_asks_98 rfl rfl ?_
            refine GO.aload dX11_asks_100 rfl ?_
            refine GO.getRaw h2 fl_RX11_578 hv26 dX11_asks_102 ?_
            refine GO.iload_n dX11_asks_105 rfl rfl ?_
            refine GO.iload dX11_asks_106 rfl ?_
            refine GO.iload dX11_asks_108 rfl ?_
            refine GO.ior dX11_asks_110 ?_
            refine GO.callS (N := mX4_put) dX11_asks_111 gS_RX11_108 (t_X4_put h25 r_p2 wor_ir) rfl [] rfl rfl (Nat.le_of_ble_eq_true rfl) rfl (k_vs fun V36 h35 hF34 => ?_)
            refine GO.iload dX11_asks_114 rfl ?_
            refine GO.iload dX11_asks_116 rfl ?_
            refine GO.iand dX11_asks_118 ?_
            refine GO.if_ne (tgt := 126) dX11_asks_119 (by decide) wand_ir (fun c37 => ?_) (fun c37 => ?_)
            ·
              refine GO.iconst dX11_asks_126 ?_
              exact GO.retz rfl rfl dX11_asks_127 (by omega) ⟨rfl, _, rfl, (ir_c rfl), ⟨by omega, fun _ => trivial, fun _ => trivial⟩⟩
            ·
              refine GO.iconst dX11_asks_122 ?_
              refine GO.goto (tgt := 127) dX11_asks_123 (by decide) ?_
              exact GO.retz rfl rfl dX11_asks_127 (by omega) ⟨rfl, _, rfl, (ir_c rfl), ⟨by omega, fun _ => trivial, fun _ => trivial⟩⟩
          ·
            refine GO.aload dX11_asks_56 rfl ?_
            refine GO.getI h2 fl_RX11_575 rfl rfl dX11_asks_58 (fun _ _ => ?_)
            refine GO.iload dX11_asks_61 rfl ?_
            refine GO.iand dX11_asks_63 ?_
            refine GO.if_ne (tgt := 71) dX11_asks_64 (by decide) wand_ir (fun c38 => ?_) (fun c38 => ?_)
            ·
              refine GO.iconst dX11_asks_71 ?_
              refine GO.istore (ls1 := [some (.ref x), some (ti p0), some (ti p1), some (ti p2), some (.ref o1), some (ti z21), some (ti 0)]) dX11_asks_72 rfl rfl ?_
              refine GO.aload dX11_asks_74 rfl ?_
              refine GO.dup dX11_asks_76 rfl ?_
              refine GO.getI h2 fl_RX11_575 rfl rfl dX11_asks_77 (fun _ _ => ?_)
              refine GO.iload dX11_asks_80 rfl ?_
              refine GO.ior dX11_asks_82 ?_
              refine GO.putI h2 fp_RX11_575 rfl (by decide +kernel) wor_ir (wor_ir).1 (wor_ir).2 dX11_asks_83 (fun V40 e39 => ?_)
              refine GO.iload dX11_asks_86 rfl ?_
              exact GO.retz rfl rfl dX11_asks_88 (by omega) ⟨rfl, _, rfl, (ir_c rfl), ⟨by omega, fun _ => trivial, fun _ => trivial⟩⟩
            ·
              refine GO.iconst dX11_asks_67 ?_
              refine GO.goto (tgt := 72) dX11_asks_68 (by decide) ?_
              refine GO.istore (ls1 := [some (.ref x), some (ti p0), some (ti p1), some (ti p2), some (.ref o1), some (ti z21), some (ti 1)]) dX11_asks_72 rfl rfl ?_
              refine GO.aload dX11_asks_74 rfl ?_
              refine GO.dup dX11_asks_76 rfl ?_
              refine GO.getI h2 fl_RX11_575 rfl rfl dX11_asks_77 (fun _ _ => ?_)
              refine GO.iload dX11_asks_80 rfl ?_
              refine GO.ior dX11_asks_82 ?_
              refine GO.putI h2 fp_RX11_575 rfl (by decide +kernel) wor_ir (wor_ir).1 (wor_ir).2 dX11_asks_83 (fun V42 e41 => ?_)
              refine GO.iload dX11_asks_86 rfl ?_
              exact GO.retz rfl rfl dX11_asks_88 (by omega) ⟨rfl, _, rfl, (ir_c rfl), ⟨by omega, fun _ => trivial, fun _ => trivial⟩⟩
        refine GO.icmp_eq (tgt := 46) dX11_asks_30 (by decide) r_p2 (ir_c rfl) (fun c43 => ?_) (fun c43 => ?_)
        ·
          exact hj20 
        ·
          refine GO.aload_n dX11_asks_33 rfl rfl ?_
          refine GO.getRaw h_x fl_RX11_88 hv7 dX11_asks_34 ?_
          refine GO.iload_n dX11_asks_37 rfl rfl ?_
          refine GO.callV (ci := 25) (N := mX8_has_k25) dX11_asks_38 (RX8, TX8, 4) rfl gV_RX11_431 h6 (t_X8_has_k25 h6 r_p2) rfl [] rfl rfl (Nat.le_of_ble_eq_true rfl) rfl (k_ip fun X46 r47 h48 => ?_)
          refine GO.if_ne (tgt := 46) dX11_asks_41 (by decide) r47 (fun c49 => ?_) (fun c49 => ?_)
          ·
            exact hj20 
          ·
            refine GO.iconst dX11_asks_44 ?_
            exact GO.retz rfl rfl dX11_asks_45 (by omega) ⟨rfl, _, rfl, (ir_c rfl), ⟨by omega, fun _ => trivial, fun _ => trivial⟩⟩

set_option maxHeartbeats 1000000 in
theorem t_X11_blockers {K : Kmap} {V : Vmap} {x : Nat} {p0 : Int} (h_x : K x = some (0, 10)) (r_p0 : ir p0) : MC mX11_blockers K V [.ref x, ti p0] (IP K V (fun X => True)) := by
  refine MC.start 3 (by decide +kernel) rfl rfl rfl (ls0 := [some (.ref x), some (ti p0), none, none, none]) rfl ?_
  refine GO.iconst dX11_blockers_0 ?_
  refine GO.istore_n (ls1 := [some (.ref x), some (ti p0), some (ti 0), none, none]) dX11_blockers_1 rfl rfl rfl ?_
  refine GO.iconst dX11_blockers_2 ?_
  refine GO.istore_n (ls1 := [some (.ref x), some (ti p0), some (ti 0), some (ti 0), none]) dX11_blockers_3 rfl rfl rfl ?_
  refine GO.loop2 (fun i1 i2 W => (-2147483648) ≤ i1 ∧ i1 ≤ 2147483647 ∧ 0 ≤ i2 ∧ i2 ≤ 9 ∧ V = W) (fun i1 i2 => [some (.ref x), some (ti p0), some (ti i1), some (ti i2), none]) (fun i1 i2 W => (2147483647 - i2).toNat) 0 0 ⟨by omega, by omega, by omega, by omega, rfl⟩ rfl (fun i1 i2 V423 hp425 ih424 => ?_)
  obtain ⟨l_i1, u_i1, l_i2, u_i2, rfl⟩ := hp425
  have r_i1 : ir i1 := ⟨by omega, by omega⟩
  have r_i2 : ir i2 := ⟨by omega, by omega⟩
  show GO mX11_blockers K V (IP K V (fun X => True)) K V 0 0 4 [some (.ref x), some (ti p0), some (ti i1), some (ti i2), none] []
  refine GO.iload_n dX11_blockers_4 rfl rfl ?_
  refine GO.aload_n dX11_blockers_5 rfl rfl ?_
  refine GO.getI h_x fl_RX11_36 rfl rfl dX11_blockers_6 (fun l426 u427 => ?_)
  refine GO.icmp_ge (tgt := 45) dX11_blockers_9 (by decide) r_i2 vi_ir (fun c428 => ?_) (fun c428 => ?_)
  ·
    refine GO.iload_n dX11_blockers_45 rfl rfl ?_
    exact GO.reti rfl rfl dX11_blockers_46 ⟨rfl, rfl, _, rfl, r_i1, trivial⟩
  ·
    refine GO.aload_n dX11_blockers_12 rfl rfl ?_
    refine GO.iload_n dX11_blockers_13 rfl rfl ?_
    refine GO.callV (ci := 10) (N := mX11_partyOf) dX11_blockers_14 (RX11, TX11, 20) rfl gV_RX11_151 h_x (t_X11_partyOf h_x r_i2) rfl [] rfl rfl (Nat.le_of_ble_eq_true rfl) rfl (k_rp (fun h431 => ?_) (fun o429 h430 h431 => ?_))
    ·
      have hn432 : PN V x → i2 < 0 ∨ vi V x 4 ≤ i2 := h431.2
      refine GO.astoreN (ls1 := [some (.ref x), some (ti p0), some (ti i1), some (ti i2), some (.null)]) dX11_blockers_17 rfl rfl ?_
      refine GO.aloadN dX11_blockers_19 rfl ?_
      refine GO.ifnullN (tgt := 39) dX11_blockers_21 (by decide) ?_
      refine GO.iinc (X := i2) (n := 1) (Y := i2 + 1) (ls1 := [some (.ref x), some (ti p0), some (ti i1), some (ti (i2 + 1)), some (.null)]) dX11_blockers_39 rfl rfl rfl rfl ?_
      refine GO.goto (tgt := 4) dX11_blockers_42 (by decide) ?_
      refine GO.drop [true, true, true, true, false] rfl ?_
      exact ih424 i1 (i2 + 1) V ⟨by omega, by omega, by omega, by omega, rfl⟩ (by show (2147483647 - (i2 + 1)).toNat < (2147483647 - i2).toNat; omega)
    ·
      have hp433 : i2 ≥ 0 ∧ i2 < vi V x 4 := h431
      refine GO.astore (ls1 := [some (.ref x), some (ti p0), some (ti i1), some (ti i2), some (.ref o429)]) dX11_blockers_17 rfl rfl ?_
      refine GO.aload dX11_blockers_19 rfl ?_
      refine GO.ifnull dX11_blockers_21 ?_
      refine GO.aload dX11_blockers_24 rfl ?_
      refine GO.iload_n dX11_blockers_26 rfl rfl ?_
      refine GO.callV (ci := 2) (N := mX2_blocksWords) dX11_blockers_27 (RX2, TX2, 5) rfl gV_RX11_587 h430 (t_X2_blocksWords h430 r_p0) rfl [] rfl rfl (Nat.le_of_ble_eq_true rfl) rfl (k_ip fun X434 r435 h436 => ?_)
      refine GO.if_eq (tgt := 39) dX11_blockers_30 (by decide) r435 (fun c437 => ?_) (fun c437 => ?_)
      ·
        refine GO.iinc (X := i2) (n := 1) (Y := i2 + 1) (ls1 := [some (.ref x), some (ti p0), some (ti i1), some (ti (i2 + 1)), some (.ref o429)]) dX11_blockers_39 rfl rfl rfl rfl ?_
        refine GO.goto (tgt := 4) dX11_blockers_42 (by decide) ?_
        refine GO.drop [true, true, true, true, false] rfl ?_
        exact ih424 i1 (i2 + 1) V ⟨by omega, by omega, by omega, by omega, rfl⟩ (by show (2147483647 - (i2 + 1)).toNat < (2147483647 - i2).toNat; omega)
      ·
        refine GO.iload_n dX11_blockers_33 rfl rfl ?_
        refine GO.iconst dX11_blockers_34 ?_
        refine GO.iload_n dX11_blockers_35 rfl rfl ?_
        refine GO.ishl dX11_blockers_36 ?_
        refine GO.ior dX11_blockers_37 ?_
        refine GO.name (fun z438 hz439 => ?_)
        have r440 : ir z438 := hz439 ▸ wor_ir
        refine GO.istore_n (ls1 := [some (.ref x), some (ti p0), some (ti z438), some (ti i2), some (.ref o429)]) dX11_blockers_38 rfl rfl rfl ?_
        refine GO.iinc (X := i2) (n := 1) (Y := i2 + 1) (ls1 := [some (.ref x), some (ti p0), some (ti z438), some (ti (i2 + 1)), some (.ref o429)]) dX11_blockers_39 rfl rfl rfl rfl ?_
        refine GO.goto (tgt := 4) dX11_blockers_42 (by decide) ?_
        refine GO.drop [true, true, true, true, false] rfl ?_
        have q441 : -2147483648 ≤ z438 ∧ z438 ≤ 2147483647 := r440
        have q442 : -2147483648 ≤ wor i1 (wshl 1 i2) ∧ wor i1 (wshl 1 i2) ≤ 2147483647 := wor_ir
        exact ih424 z438 (i2 + 1) V ⟨by omega, by omega, by omega, by omega, rfl⟩ (by show (2147483647 - (i2 + 1)).toNat < (2147483647 - i2).toNat; omega)

set_option maxHeartbeats 1000000 in
theorem t_X11_blocks {K : Kmap} {V : Vmap} {x : Nat} {p0 : Int} (h_x : K x = some (0, 10)) (r_p0 : ir p0) : MC mX11_blocks K V [.ref x, ti p0] (IP K V (fun X => True)) := by
  refine MC.start 0 (by decide +kernel) rfl rfl rfl (ls0 := [some (.ref x), some (ti p0)]) rfl ?_
  refine GO.iload_n dX11_blocks_0 rfl rfl ?_
  refine GO.iconst dX11_blocks_1 ?_
  refine GO.iconst dX11_blocks_2 ?_
  refine GO.aload_n dX11_blocks_3 rfl rfl ?_
  refine GO.getR h_x fl_RX11_88 rfl rfl dX11_blocks_4 (fun hv2 h1 => ?_)
  refine GO.getI h1 fl_RX11_199_k25 rfl rfl dX11_blocks_7 (fun l3 u4 => ?_)
  refine GO.ishl dX11_blocks_10 ?_
  refine GO.iconst dX11_blocks_11 ?_
  refine GO.isub dX11_blocks_12 ?_
  refine GO.norm (fun z5 r6 _ => ?_)
  refine GO.callS (N := mX11_between) dX11_blocks_13 gS_RX11_112 (t_X11_between r_p0 (ir_c rfl) r6) rfl [] rfl rfl (Nat.le_of_ble_eq_true rfl) rfl (k_ip fun X7 r8 h9 => ?_)
  refine GO.if_eq (tgt := 27) dX11_blocks_16 (by decide) r8 (fun c10 => ?_) (fun c10 => ?_)
  ·
    have q11 := h9.2.2 (by omega)
    refine GO.iconst dX11_blocks_27 ?_
    exact GO.reti rfl rfl dX11_blocks_28 ⟨rfl, rfl, _, rfl, (ir_c rfl), trivial⟩
  ·
    have q12 := h9.2.1 (by omega)
    refine GO.aload_n dX11_blocks_19 rfl rfl ?_
    refine GO.iload_n dX11_blocks_20 rfl rfl ?_
    refine GO.callV (ci := 10) (N := mX11_blockers) dX11_blocks_21 (RX11, TX11, 20) rfl gV_RX11_581 h_x (t_X11_blockers h_x r_p0) rfl [] rfl rfl (Nat.le_of_ble_eq_true rfl) rfl (k_ip fun X13 r14 h15 => ?_)
    refine GO.goto (tgt := 28) dX11_blocks_24 (by decide) ?_
    have q16 : -2147483648 ≤ X13 ∧ X13 ≤ 2147483647 := r14
    exact GO.reti rfl rfl dX11_blocks_28 ⟨rfl, rfl, _, rfl, r14, trivial⟩

set_option maxHeartbeats 1000000 in
theorem t_X8_get_k25 {K : Kmap} {V : Vmap} {x : Nat} {p0 : Int} {p1 : Int} (h_x : K x = some (0, 25)) (r_p0 : ir p0) (r_p1 : ir p1) : MC mX8_get_k25 K V [.ref x, ti p0, ti p1] (IP K V (fun X => True)) := by
  refine MC.start 2 (by decide +kernel) rfl rfl rfl (ls0 := [some (.ref x), some (ti p0), some (ti p1), none, none]) rfl ?_
  refine GO.iload_n dX8_get_0 rfl rfl ?_
  refine GO.aload_n dX8_get_1 rfl rfl ?_
  refine GO.getI h_x fl_RX8_15_k25 rfl rfl dX8_get_2 (fun l1 u2 => ?_)
  refine GO.imul dX8_get_5 ?_
  refine GO.norm (fun z3 r4 _ => ?_)
  refine GO.iload_n dX8_get_6 rfl rfl ?_
  refine GO.iadd dX8_get_7 ?_
  refine GO.norm (fun z5 r6 _ => ?_)
  refine GO.istore_n (ls1 := [some (.ref x), some (ti p0), some (ti p1), some (ti z5), none]) dX8_get_8 rfl rfl rfl ?_
  refine GO.iload_n dX8_get_9 rfl rfl ?_
  have hj16 : ∀ (z15 : Int), ∀ (l17 : 0 ≤ z15), ∀ (u18 : z15 ≤ 1), GO mX8_get_k25 K V (IP K V (fun X => True)) K V 0 0 38 [some (.ref x), some (ti p0), some (ti p1), some (ti z5), none] [ti z15] := by
    intro z15 l17 u18
    have r19 : ir z15 := ⟨by omega, by omega⟩
    refine GO.istore (ls1 := [some (.ref x), some (ti p0), some (ti p1), some (ti z5), some (ti z15)]) dX8_get_38 rfl rfl ?_
    refine GO.iload dX8_get_40 rfl ?_
    refine GO.if_eq (tgt := 67) dX8_get_42 (by decide) r19 (fun c20 => ?_) (fun c20 => ?_)
    ·
      refine GO.iconst dX8_get_67 ?_
      exact GO.reti rfl rfl dX8_get_68 ⟨rfl, rfl, _, rfl, (ir_c rfl), trivial⟩
    ·
      refine GO.iload_n dX8_get_45 rfl rfl ?_
      refine GO.if_lt (tgt := 67) dX8_get_46 (by decide) r6 (fun c21 => ?_) (fun c21 => ?_)
      ·
        refine GO.iconst dX8_get_67 ?_
        exact GO.reti rfl rfl dX8_get_68 ⟨rfl, rfl, _, rfl, (ir_c rfl), trivial⟩
      ·
        refine GO.iload_n dX8_get_49 rfl rfl ?_
        refine GO.aload_n dX8_get_50 rfl rfl ?_
        refine GO.getB h_x fl_RX8_27_k25 rfl rfl dX8_get_51 (fun n24 hv23 h22 b25 => ?_)
        refine GO.alen h22 dX8_get_54 (fun h26 => ?_)
        refine GO.icmp_ge (tgt := 67) dX8_get_55 (by decide) r6 ⟨by omega, by omega⟩ (fun c27 => ?_) (fun c27 => ?_)
        ·
          refine GO.iconst dX8_get_67 ?_
          exact GO.reti rfl rfl dX8_get_68 ⟨rfl, rfl, _, rfl, (ir_c rfl), trivial⟩
        ·
          refine GO.aload_n dX8_get_58 rfl rfl ?_
          refine GO.getRaw h_x fl_RX8_27_k25 hv23 dX8_get_59 ?_
          refine GO.iload_n dX8_get_62 rfl rfl ?_
          have q30 : -2147483648 ≤ z5 ∧ z5 ≤ 2147483647 := r6
          refine GO.iald (t := 0) rfl rfl h22 r6 (by omega) (by omega) dX8_get_63 (fun _ _ => ?_)
          refine GO.goto (tgt := 68) dX8_get_64 (by decide) ?_
          have q31 : -2147483648 ≤ vi V (vq V x 2) (z5).toNat ∧ vi V (vq V x 2) (z5).toNat ≤ 2147483647 := vi_ir
          exact GO.reti rfl rfl dX8_get_68 ⟨rfl, rfl, _, rfl, vi_ir, trivial⟩
  have hj40 : GO mX8_get_k25 K V (IP K V (fun X => True)) K V 0 0 37 [some (.ref x), some (ti p0), some (ti p1), some (ti z5), none] [] := by
    skip
    refine GO.iconst dX8_get_37 ?_
    exact hj16 0 (by omega) (by omega)
  refine GO.if_lt (tgt := 37) dX8_get_10 (by decide) r_p0 (fun c41 => ?_) (fun c41 => ?_)
  ·
    exact hj40 
  ·
    refine GO.iload_n dX8_get_13 rfl rfl ?_
    refine GO.aload_n dX8_get_14 rfl rfl ?_
    refine GO.getI h_x fl_RX8_9_k25 rfl rfl dX8_get_15 (fun l42 u43 => ?_)
    refine GO.icmp_ge (tgt := 37) dX8_get_18 (by decide) r_p0 vi_ir (fun c44 => ?_) (fun c44 => ?_)
    ·
      exact hj40 
    ·
      refine GO.iload_n dX8_get_21 rfl rfl ?_
      refine GO.if_lt (tgt := 37) dX8_get_22 (by decide) r_p1 (fun c45 => ?_) (fun c45 => ?_)
      ·
        exact hj40 
      ·
        refine GO.iload_n dX8_get_25 rfl rfl ?_
        refine GO.aload_n dX8_get_26 rfl rfl ?_
        refine GO.getI h_x fl_RX8_15_k25 rfl rfl dX8_get_27 (fun l46 u47 => ?_)
        refine GO.icmp_ge (tgt := 37) dX8_get_30 (by decide) r_p1 vi_ir (fun c48 => ?_) (fun c48 => ?_)
        ·
          exact hj40 
        ·
          refine GO.iconst dX8_get_33 ?_
          refine GO.goto (tgt := 38) dX8_get_34 (by decide) ?_
          exact hj16 1 (by omega) (by omega)

set_option maxHeartbeats 1000000 in
theorem t_X11_worthOf {K : Kmap} {V : Vmap} {x : Nat} {p0 : Int} (h_x : K x = some (0, 10)) (r_p0 : ir p0) : MC mX11_worthOf K V [.ref x, ti p0] (IP K V (fun X => True)) := by
  refine MC.start 2 (by decide +kernel) rfl rfl rfl (ls0 := [some (.ref x), some (ti p0), none, none]) rfl ?_
  refine GO.iconst dX11_worthOf_0 ?_
  refine GO.istore_n (ls1 := [some (.ref x), some (ti p0), some (ti 0), none]) dX11_worthOf_1 rfl rfl rfl ?_
  refine GO.iconst dX11_worthOf_2 ?_
  refine GO.istore_n (ls1 := [some (.ref x), some (ti p0), some (ti 0), some (ti 0)]) dX11_worthOf_3 rfl rfl rfl ?_
  refine GO.loop2 (fun i1 i2 W => (-2147483648) ≤ i1 ∧ i1 ≤ 2147483647 ∧ 0 ≤ i2 ∧ i2 ≤ 7 ∧ V = W) (fun i1 i2 => [some (.ref x), some (ti p0), some (ti i1), some (ti i2)]) (fun i1 i2 W => (2147483647 - i2).toNat) 0 0 ⟨by omega, by omega, by omega, by omega, rfl⟩ rfl (fun i1 i2 V341 hp343 ih342 => ?_)
  obtain ⟨l_i1, u_i1, l_i2, u_i2, rfl⟩ := hp343
  have r_i1 : ir i1 := ⟨by omega, by omega⟩
  have r_i2 : ir i2 := ⟨by omega, by omega⟩
  show GO mX11_worthOf K V (IP K V (fun X => True)) K V 0 0 4 [some (.ref x), some (ti p0), some (ti i1), some (ti i2)] []
  refine GO.iload_n dX11_worthOf_4 rfl rfl ?_
  refine GO.aload_n dX11_worthOf_5 rfl rfl ?_
  refine GO.getR h_x fl_RX11_88 rfl rfl dX11_worthOf_6 (fun hv345 h344 => ?_)
  refine GO.getI h344 fl_RX11_199_k25 rfl rfl dX11_worthOf_9 (fun l346 u347 => ?_)
  refine GO.icmp_ge (tgt := 41) dX11_worthOf_12 (by decide) r_i2 vi_ir (fun c348 => ?_) (fun c348 => ?_)
  ·
    refine GO.iload_n dX11_worthOf_41 rfl rfl ?_
    exact GO.reti rfl rfl dX11_worthOf_42 ⟨rfl, rfl, _, rfl, r_i1, trivial⟩
  ·
    refine GO.iload_n dX11_worthOf_15 rfl rfl ?_
    refine GO.iload_n dX11_worthOf_16 rfl rfl ?_
    refine GO.ishr dX11_worthOf_17 ?_
    refine GO.iconst dX11_worthOf_18 ?_
    refine GO.iand dX11_worthOf_19 ?_
    refine GO.if_eq (tgt := 35) dX11_worthOf_20 (by decide) wand_ir (fun c349 => ?_) (fun c349 => ?_)
    ·
      refine GO.iinc (X := i2) (n := 1) (Y := i2 + 1) (ls1 := [some (.ref x), some (ti p0), some (ti i1), some (ti (i2 + 1))]) dX11_worthOf_35 rfl rfl rfl rfl ?_
      refine GO.goto (tgt := 4) dX11_worthOf_38 (by decide) ?_
      exact ih342 i1 (i2 + 1) V ⟨by omega, by omega, by omega, by omega, rfl⟩ (by show (2147483647 - (i2 + 1)).toNat < (2147483647 - i2).toNat; omega)
    ·
      refine GO.iload_n dX11_worthOf_23 rfl rfl ?_
      refine GO.aload_n dX11_worthOf_24 rfl rfl ?_
      refine GO.getRaw h_x fl_RX11_88 hv345 dX11_worthOf_25 ?_
      refine GO.iload_n dX11_worthOf_28 rfl rfl ?_
      refine GO.iconst dX11_worthOf_29 ?_
      refine GO.callV (ci := 25) (N := mX8_get_k25) dX11_worthOf_30 (RX8, TX8, 4) rfl gV_RX11_209 h344 (t_X8_get_k25 h344 r_i2 (ir_c rfl)) rfl [ti i1] rfl rfl (Nat.le_of_ble_eq_true rfl) rfl (k_ip fun X352 r353 h354 => ?_)
      refine GO.iadd dX11_worthOf_33 ?_
      refine GO.norm (fun z355 r356 _ => ?_)
      refine GO.istore_n (ls1 := [some (.ref x), some (ti p0), some (ti z355), some (ti i2)]) dX11_worthOf_34 rfl rfl rfl ?_
      refine GO.iinc (X := i2) (n := 1) (Y := i2 + 1) (ls1 := [some (.ref x), some (ti p0), some (ti z355), some (ti (i2 + 1))]) dX11_worthOf_35 rfl rfl rfl rfl ?_
      refine GO.goto (tgt := 4) dX11_worthOf_38 (by decide) ?_
      have q357 : -2147483648 ≤ z355 ∧ z355 ≤ 2147483647 := r356
      exact ih342 z355 (i2 + 1) V ⟨by omega, by omega, by omega, by omega, rfl⟩ (by show (2147483647 - (i2 + 1)).toNat < (2147483647 - i2).toNat; omega)

set_option maxHeartbeats 1000000 in
theorem t_X11_best {K : Kmap} {V : Vmap} {x : Nat} (h_x : K x = some (0, 10)) : MC mX11_best K V [.ref x] (IP K V (fun X => True)) := by
  refine MC.start 6 (by decide +kernel) rfl rfl rfl (ls0 := [some (.ref x), none, none, none, none, none, none]) rfl ?_
  refine GO.aload_n dX11_best_0 rfl rfl ?_
  refine GO.aload_n dX11_best_1 rfl rfl ?_
  refine GO.getR h_x fl_RX11_12 rfl rfl dX11_best_2 (fun hv2 h1 => ?_)
  refine GO.getI h1 fl_RX11_145 rfl rfl dX11_best_5 (fun _ _ => ?_)
  refine GO.callV (ci := 10) (N := mX11_decidingOn) dX11_best_8 (RX11, TX11, 20) rfl gV_RX11_369 h_x (t_X11_decidingOn h_x vi_ir) rfl [] rfl rfl (Nat.le_of_ble_eq_true rfl) rfl (k_ip fun X3 r4 h5 => ?_)
  refine GO.istore_n (ls1 := [some (.ref x), some (ti X3), none, none, none, none, none]) dX11_best_11 rfl rfl rfl ?_
  refine GO.iconst dX11_best_12 ?_
  refine GO.istore_n (ls1 := [some (.ref x), some (ti X3), some (ti 0), none, none, none, none]) dX11_best_13 rfl rfl rfl ?_
  refine GO.iconst dX11_best_14 ?_
  refine GO.istore_n (ls1 := [some (.ref x), some (ti X3), some (ti 0), some (ti 0), none, none, none]) dX11_best_15 rfl rfl rfl ?_
  refine GO.iconst dX11_best_16 ?_
  refine GO.istore (ls1 := [some (.ref x), some (ti X3), some (ti 0), some (ti 0), some (ti 1), none, none]) dX11_best_17 rfl rfl ?_
  refine GO.loop3 (fun i6 i7 i8 W => 0 ≤ i6 ∧ i6 ≤ 2147483646 ∧ (-2147483648) ≤ i7 ∧ i7 ≤ 2147483647 ∧ 1 ≤ i8 ∧ i8 ≤ 2147483647 ∧ V = W) (fun i6 i7 i8 => [some (.ref x), some (ti X3), some (ti i6), some (ti i7), some (ti i8), none, none]) (fun i6 i7 i8 W => (2147483647 - i8).toNat) 0 0 1 ⟨by omega, by omega, by omega, by omega, by omega, by omega, rfl⟩ rfl (fun i6 i7 i8 V2361 hp2363 ih2362 => ?_)
  obtain ⟨l_i6, u_i6, l_i7, u_i7, l_i8, u_i8, rfl⟩ := hp2363
  have r_i6 : ir i6 := ⟨by omega, by omega⟩
  have r_i7 : ir i7 := ⟨by omega, by omega⟩
  have r_i8 : ir i8 := ⟨by omega, by omega⟩
  show GO mX11_best K V (IP K V (fun X => True)) K V 0 0 19 [some (.ref x), some (ti X3), some (ti i6), some (ti i7), some (ti i8), none, none] []
  refine GO.iload dX11_best_19 rfl ?_
  refine GO.iconst dX11_best_21 ?_
  refine GO.aload_n dX11_best_22 rfl rfl ?_
  refine GO.getR h_x fl_RX11_88 rfl rfl dX11_best_23 (fun hv2365 h2364 => ?_)
  refine GO.getI h2364 fl_RX11_199_k25 rfl rfl dX11_best_26 (fun l2366 u2367 => ?_)
  refine GO.ishl dX11_best_29 ?_
  refine GO.icmp_ge (tgt := 100) dX11_best_30 (by decide) r_i8 wshl_ir (fun c2368 => ?_) (fun c2368 => ?_)
  ·
    refine GO.iload_n dX11_best_100 rfl rfl ?_
    exact GO.reti rfl rfl dX11_best_101 ⟨rfl, rfl, _, rfl, r_i6, trivial⟩
  ·
    refine GO.aload_n dX11_best_33 rfl rfl ?_
    refine GO.iload dX11_best_34 rfl ?_
    refine GO.callV (ci := 10) (N := mX11_worthOf) dX11_best_36 (RX11, TX11, 20) rfl gV_RX11_584 h_x (t_X11_worthOf h_x r_i8) rfl [] rfl rfl (Nat.le_of_ble_eq_true rfl) rfl (k_ip fun X2369 r2370 h2371 => ?_)
    refine GO.istore (ls1 := [some (.ref x), some (ti X3), some (ti i6), some (ti i7), some (ti i8), some (ti X2369), none]) dX11_best_39 rfl rfl ?_
    refine GO.iload dX11_best_41 rfl ?_
    refine GO.iload_n dX11_best_43 rfl rfl ?_
    have hj2381 : ∀ (z2380 : Int), ∀ (l2382 : 0 ≤ z2380), ∀ (u2383 : z2380 ≤ 1), GO mX11_best K V (IP K V (fun X => True)) K V 0 0 64 [some (.ref x), some (ti X3), some (ti i6), some (ti i7), some (ti i8), some (ti X2369), none] [ti z2380] := by
      intro z2380 l2382 u2383
      have r2384 : ir z2380 := ⟨by omega, by omega⟩
      refine GO.istore (ls1 := [some (.ref x), some (ti X3), some (ti i6), some (ti i7), some (ti i8), some (ti X2369), some (ti z2380)]) dX11_best_64 rfl rfl ?_
      refine GO.iload dX11_best_66 rfl ?_
      refine GO.iload_n dX11_best_68 rfl rfl ?_
      refine GO.icmp_gt (tgt := 77) dX11_best_69 (by decide) r2370 r_i7 (fun c2385 => ?_) (fun c2385 => ?_)
      ·
        refine GO.aload_n dX11_best_77 rfl rfl ?_
        refine GO.iload dX11_best_78 rfl ?_
        refine GO.callV (ci := 10) (N := mX11_blockers) dX11_best_80 (RX11, TX11, 20) rfl gV_RX11_581 h_x (t_X11_blockers h_x r_i8) rfl [] rfl rfl (Nat.le_of_ble_eq_true rfl) rfl (k_ip fun X2386 r2387 h2388 => ?_)
        refine GO.iload_n dX11_best_83 rfl rfl ?_
        refine GO.iand dX11_best_84 ?_
        refine GO.if_ne (tgt := 94) dX11_best_85 (by decide) wand_ir (fun c2389 => ?_) (fun c2389 => ?_)
        ·
          refine GO.iinc (X := i8) (n := 1) (Y := i8 + 1) (ls1 := [some (.ref x), some (ti X3), some (ti i6), some (ti i7), some (ti (i8 + 1)), some (ti X2369), some (ti z2380)]) dX11_best_94 rfl rfl rfl rfl ?_
          refine GO.goto (tgt := 19) dX11_best_97 (by decide) ?_
          refine GO.drop [true, true, true, true, true, false, false] rfl ?_
          have q2390 : -2147483648 ≤ wshl 1 (vi V (vq V x 16) 3) ∧ wshl 1 (vi V (vq V x 16) 3) ≤ 2147483647 := wshl_ir
          have q2391 : -2147483648 ≤ X2369 ∧ X2369 ≤ 2147483647 := r2370
          exact ih2362 i6 i7 (i8 + 1) V ⟨by omega, by omega, by omega, by omega, by omega, by omega, rfl⟩ (by show (2147483647 - (i8 + 1)).toNat < (2147483647 - i8).toNat; omega)
        ·
          refine GO.iload dX11_best_88 rfl ?_
          refine GO.istore_n (ls1 := [some (.ref x), some (ti X3), some (ti i8), some (ti i7), some (ti i8), some (ti X2369), some (ti z2380)]) dX11_best_90 rfl rfl rfl ?_
          refine GO.iload dX11_best_91 rfl ?_
          refine GO.istore_n (ls1 := [some (.ref x), some (ti X3), some (ti i8), some (ti X2369), some (ti i8), some (ti X2369), some (ti z2380)]) dX11_best_93 rfl rfl rfl ?_
          refine GO.iinc (X := i8) (n := 1) (Y := i8 + 1) (ls1 := [some (.ref x), some (ti X3), some (ti i8), some (ti X2369), some (ti (i8 + 1)), some (ti X2369), some (ti z2380)]) dX11_best_94 rfl rfl rfl rfl ?_
          refine GO.goto (tgt := 19) dX11_best_97 (by decide) ?_
          refine GO.drop [true, true, true, true, true, false, false] rfl ?_
          have q2392 : -2147483648 ≤ wshl 1 (vi V (vq V x 16) 3) ∧ wshl 1 (vi V (vq V x 16) 3) ≤ 2147483647 := wshl_ir
          have q2393 : -2147483648 ≤ X2369 ∧ X2369 ≤ 2147483647 := r2370
          exact ih2362 i8 X2369 (i8 + 1) V ⟨by omega, by omega, by omega, by omega, by omega, by omega, rfl⟩ (by show (2147483647 - (i8 + 1)).toNat < (2147483647 - i8).toNat; omega)
      ·
        refine GO.iload dX11_best_72 rfl ?_
        refine GO.if_eq (tgt := 94) dX11_best_74 (by decide) r2384 (fun c2394 => ?_) (fun c2394 => ?_)
        ·
          refine GO.iinc (X := i8) (n := 1) (Y := i8 + 1) (ls1 := [some (.ref x), some (ti X3), some (ti i6), some (ti i7), some (ti (i8 + 1)), some (ti X2369), some (ti z2380)]) dX11_best_94 rfl rfl rfl rfl ?_
          refine GO.goto (tgt := 19) dX11_best_97 (by decide) ?_
          refine GO.drop [true, true, true, true, true, false, false] rfl ?_
          have q2395 : -2147483648 ≤ wshl 1 (vi V (vq V x 16) 3) ∧ wshl 1 (vi V (vq V x 16) 3) ≤ 2147483647 := wshl_ir
          have q2396 : -2147483648 ≤ X2369 ∧ X2369 ≤ 2147483647 := r2370
          exact ih2362 i6 i7 (i8 + 1) V ⟨by omega, by omega, by omega, by omega, by omega, by omega, rfl⟩ (by show (2147483647 - (i8 + 1)).toNat < (2147483647 - i8).toNat; omega)
        ·
          refine GO.aload_n dX11_best_77 rfl rfl ?_
          refine GO.iload dX11_best_78 rfl ?_
          refine GO.callV (ci := 10) (N := mX11_blockers) dX11_best_80 (RX11, TX11, 20) rfl gV_RX11_581 h_x (t_X11_blockers h_x r_i8) rfl [] rfl rfl (Nat.le_of_ble_eq_true rfl) rfl (k_ip fun X2397 r2398 h2399 => ?_)
          refine GO.iload_n dX11_best_83 rfl rfl ?_
          refine GO.iand dX11_best_84 ?_
          refine GO.if_ne (tgt := 94) dX11_best_85 (by decide) wand_ir (fun c2400 => ?_) (fun c2400 => ?_)
          ·
            refine GO.iinc (X := i8) (n := 1) (Y := i8 + 1) (ls1 := [some (.ref x), some (ti X3), some (ti i6), some (ti i7), some (ti (i8 + 1)), some (ti X2369), some (ti z2380)]) dX11_best_94 rfl rfl rfl rfl ?_
            refine GO.goto (tgt := 19) dX11_best_97 (by decide) ?_
            refine GO.drop [true, true, true, true, true, false, false] rfl ?_
            have q2401 : -2147483648 ≤ wshl 1 (vi V (vq V x 16) 3) ∧ wshl 1 (vi V (vq V x 16) 3) ≤ 2147483647 := wshl_ir
            have q2402 : -2147483648 ≤ X2369 ∧ X2369 ≤ 2147483647 := r2370
            exact ih2362 i6 i7 (i8 + 1) V ⟨by omega, by omega, by omega, by omega, by omega, by omega, rfl⟩ (by show (2147483647 - (i8 + 1)).toNat < (2147483647 - i8).toNat; omega)
          ·
            refine GO.iload dX11_best_88 rfl ?_
            refine GO.istore_n (ls1 := [some (.ref x), some (ti X3), some (ti i8), some (ti i7), some (ti i8), some (ti X2369), some (ti z2380)]) dX11_best_90 rfl rfl rfl ?_
            refine GO.iload dX11_best_91 rfl ?_
            refine GO.istore_n (ls1 := [some (.ref x), some (ti X3), some (ti i8), some (ti X2369), some (ti i8), some (ti X2369), some (ti z2380)]) dX11_best_93 rfl rfl rfl ?_
            refine GO.iinc (X := i8) (n := 1) (Y := i8 + 1) (ls1 := [some (.ref x), some (ti X3), some (ti i8), some (ti X2369), some (ti (i8 + 1)), some (ti X2369), some (ti z2380)]) dX11_best_94 rfl rfl rfl rfl ?_
            refine GO.goto (tgt := 19) dX11_best_97 (by decide) ?_
            refine GO.drop [true, true, true, true, true, false, false] rfl ?_
            have q2403 : -2147483648 ≤ wshl 1 (vi V (vq V x 16) 3) ∧ wshl 1 (vi V (vq V x 16) 3) ≤ 2147483647 := wshl_ir
            have q2404 : -2147483648 ≤ X2369 ∧ X2369 ≤ 2147483647 := r2370
            exact ih2362 i8 X2369 (i8 + 1) V ⟨by omega, by omega, by omega, by omega, by omega, by omega, rfl⟩ (by show (2147483647 - (i8 + 1)).toNat < (2147483647 - i8).toNat; omega)
    have hj2413 : GO mX11_best K V (IP K V (fun X => True)) K V 0 0 63 [some (.ref x), some (ti X3), some (ti i6), some (ti i7), some (ti i8), some (ti X2369), none] [] := by
      skip
      refine GO.iconst dX11_best_63 ?_
      exact hj2381 0 (by omega) (by omega)
    refine GO.icmp_ne (tgt := 63) dX11_best_44 (by decide) r2370 r_i7 (fun c2414 => ?_) (fun c2414 => ?_)
    ·
      exact hj2413 
    ·
      refine GO.iload dX11_best_47 rfl ?_
      refine GO.callS (N := mJ6_bitCount_0f7a4) dX11_best_49 gS_RX11_286 (t_J6_bitCount_0f7a4 r_i8) rfl [] rfl rfl (Nat.le_of_ble_eq_true rfl) rfl (k_ip fun X2415 r2416 h2417 => ?_)
      refine GO.iload_n dX11_best_52 rfl rfl ?_
      refine GO.callS (N := mJ6_bitCount_0f7a4) dX11_best_53 gS_RX11_286 (t_J6_bitCount_0f7a4 r_i6) rfl [ti X2415] rfl rfl (Nat.le_of_ble_eq_true rfl) rfl (k_ip fun X2418 r2419 h2420 => ?_)
      refine GO.icmp_ge (tgt := 63) dX11_best_56 (by decide) r2416 r2419 (fun c2421 => ?_) (fun c2421 => ?_)
      ·
        exact hj2413 
      ·
        refine GO.iconst dX11_best_59 ?_
        refine GO.goto (tgt := 64) dX11_best_60 (by decide) ?_
        exact hj2381 1 (by omega) (by omega)

set_option maxHeartbeats 1000000 in
theorem t_X8_isFull_k24 {K : Kmap} {V : Vmap} {x : Nat} (h_x : K x = some (0, 24)) : MC mX8_isFull_k24 K V [.ref x] (IP K V (fun X => (X = 0 ∨ X = 1) ∧ (X ≠ 0 → True) ∧ (X = 0 → vi V x 3 ≤ 7))) := by
  refine MC.start 0 (by decide +kernel) rfl rfl rfl (ls0 := [some (.ref x)]) rfl ?_
  refine GO.aload_n dX8_isFull_0 rfl rfl ?_
  refine GO.getI h_x fl_RX8_9_k24 rfl rfl dX8_isFull_1 (fun l1 u2 => ?_)
  refine GO.aload_n dX8_isFull_4 rfl rfl ?_
  refine GO.getI h_x fl_RX8_18_k24 rfl rfl dX8_isFull_5 (fun l3 u4 => ?_)
  refine GO.icmp_lt (tgt := 15) dX8_isFull_8 (by decide) vi_ir vi_ir (fun c5 => ?_) (fun c5 => ?_)
  ·
    refine GO.iconst dX8_isFull_15 ?_
    exact GO.retz rfl rfl dX8_isFull_16 (by omega) ⟨rfl, rfl, _, rfl, (ir_c rfl), ⟨by omega, fun _ => trivial, fun h => by omega⟩⟩
  ·
    refine GO.iconst dX8_isFull_11 ?_
    refine GO.goto (tgt := 16) dX8_isFull_12 (by decide) ?_
    exact GO.retz rfl rfl dX8_isFull_16 (by omega) ⟨rfl, rfl, _, rfl, (ir_c rfl), ⟨by omega, fun _ => trivial, fun h => by omega⟩⟩

set_option maxHeartbeats 1000000 in
theorem t_X8_put_k24 {K : Kmap} {V : Vmap} {x : Nat} {p0 : Int} {p1 : Int} {p2 : Int} (h_x : K x = some (0, 24)) (r_p0 : ir p0) (r_p1 : ir p1) (r_p2 : ir p2) : MC mX8_put_k24 K V [.ref x, ti p0, ti p1, ti p2] (VS K (fun V1 => (True))) := by
  refine MC.start 2 (by decide +kernel) rfl rfl rfl (ls0 := [some (.ref x), some (ti p0), some (ti p1), some (ti p2), none, none]) rfl ?_
  refine GO.iload_n dX8_put_0 rfl rfl ?_
  refine GO.aload_n dX8_put_1 rfl rfl ?_
  refine GO.getI h_x fl_RX8_15_k24 rfl rfl dX8_put_2 (fun l1 u2 => ?_)
  refine GO.imul dX8_put_5 ?_
  refine GO.norm (fun z3 r4 _ => ?_)
  refine GO.iload_n dX8_put_6 rfl rfl ?_
  refine GO.iadd dX8_put_7 ?_
  refine GO.norm (fun z5 r6 _ => ?_)
  refine GO.istore (ls1 := [some (.ref x), some (ti p0), some (ti p1), some (ti p2), some (ti z5), none]) dX8_put_8 rfl rfl ?_
  refine GO.iload_n dX8_put_10 rfl rfl ?_
  have hj16 : ∀ (z15 : Int), ∀ (l17 : 0 ≤ z15), ∀ (u18 : z15 ≤ 1), GO mX8_put_k24 K V (VS K (fun V1 => (True))) K V 0 0 39 [some (.ref x), some (ti p0), some (ti p1), some (ti p2), some (ti z5), none] [ti z15] := by
    intro z15 l17 u18
    have r19 : ir z15 := ⟨by omega, by omega⟩
    refine GO.istore (ls1 := [some (.ref x), some (ti p0), some (ti p1), some (ti p2), some (ti z5), some (ti z15)]) dX8_put_39 rfl rfl ?_
    refine GO.iload dX8_put_41 rfl ?_
    refine GO.if_eq (tgt := 69) dX8_put_43 (by decide) r19 (fun c20 => ?_) (fun c20 => ?_)
    ·
      exact GO.retv rfl rfl dX8_put_69 ⟨rfl, rfl, trivial⟩
    ·
      refine GO.iload dX8_put_46 rfl ?_
      refine GO.if_lt (tgt := 69) dX8_put_48 (by decide) r6 (fun c21 => ?_) (fun c21 => ?_)
      ·
        exact GO.retv rfl rfl dX8_put_69 ⟨rfl, rfl, trivial⟩
      ·
        refine GO.iload dX8_put_51 rfl ?_
        refine GO.aload_n dX8_put_53 rfl rfl ?_
        refine GO.getB h_x fl_RX8_27_k24 rfl rfl dX8_put_54 (fun n24 hv23 h22 b25 => ?_)
        refine GO.alen h22 dX8_put_57 (fun h26 => ?_)
        refine GO.icmp_ge (tgt := 69) dX8_put_58 (by decide) r6 ⟨by omega, by omega⟩ (fun c27 => ?_) (fun c27 => ?_)
        ·
          exact GO.retv rfl rfl dX8_put_69 ⟨rfl, rfl, trivial⟩
        ·
          refine GO.aload_n dX8_put_61 rfl rfl ?_
          refine GO.getRaw h_x fl_RX8_27_k24 hv23 dX8_put_62 ?_
          refine GO.iload dX8_put_65 rfl ?_
          refine GO.iload_n dX8_put_67 rfl rfl ?_
          have q30 : -2147483648 ≤ z5 ∧ z5 ≤ 2147483647 := r6
          refine GO.iast (t := 0) rfl rfl (by decide +kernel) h22 r6 (by omega) (by omega) r_p2 (r_p2).1 (r_p2).2 dX8_put_68 (fun V32 e31 => ?_)
          exact GO.retv rfl rfl dX8_put_69 ⟨rfl, rfl, trivial⟩
  have hj41 : GO mX8_put_k24 K V (VS K (fun V1 => (True))) K V 0 0 38 [some (.ref x), some (ti p0), some (ti p1), some (ti p2), some (ti z5), none] [] := by
    skip
    refine GO.iconst dX8_put_38 ?_
    exact hj16 0 (by omega) (by omega)
  refine GO.if_lt (tgt := 38) dX8_put_11 (by decide) r_p0 (fun c42 => ?_) (fun c42 => ?_)
  ·
    exact hj41 
  ·
    refine GO.iload_n dX8_put_14 rfl rfl ?_
    refine GO.aload_n dX8_put_15 rfl rfl ?_
    refine GO.getI h_x fl_RX8_9_k24 rfl rfl dX8_put_16 (fun l43 u44 => ?_)
    refine GO.icmp_ge (tgt := 38) dX8_put_19 (by decide) r_p0 vi_ir (fun c45 => ?_) (fun c45 => ?_)
    ·
      exact hj41 
    ·
      refine GO.iload_n dX8_put_22 rfl rfl ?_
      refine GO.if_lt (tgt := 38) dX8_put_23 (by decide) r_p1 (fun c46 => ?_) (fun c46 => ?_)
      ·
        exact hj41 
      ·
        refine GO.iload_n dX8_put_26 rfl rfl ?_
        refine GO.aload_n dX8_put_27 rfl rfl ?_
        refine GO.getI h_x fl_RX8_15_k24 rfl rfl dX8_put_28 (fun l47 u48 => ?_)
        refine GO.icmp_ge (tgt := 38) dX8_put_31 (by decide) r_p1 vi_ir (fun c49 => ?_) (fun c49 => ?_)
        ·
          exact hj41 
        ·
          refine GO.iconst dX8_put_34 ?_
          refine GO.goto (tgt := 39) dX8_put_35 (by decide) ?_
          exact hj16 1 (by omega) (by omega)
