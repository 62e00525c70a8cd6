def mX1_textOf : MRec := (RX1, cX1_textOf, 2, (some (.object "IceTreaty$Text")), yX1_textOf, 0, 0, 0, 0, 0)
def mX1_forget : MRec := (RX1, cX1_forget, 1, (none : Option Jvm.ClassFile.FieldType), yX1_forget, 0, 0, 0, 0, 1048576)
def mX1_addText : MRec := (RX1, cX1_addText, 2, (some .int), yX1_addText, 1, 20, 0, 0, 971334446112864535459730953411759453321203419526069760625906204869452142602605314048)
def mX8_isFull : MRec := (RX8, cX8_isFull, 1, (some .boolean), yX8_isFull, 0, 0, 0, 0, 0)
def mX8_put : MRec := (RX8, cX8_put, 6, (none : Option Jvm.ClassFile.FieldType), yX8_put, 0, 0, 0, 0, 3794275180128377091639574036764685364535950857523710002444946112771297432041422848)
def mX8_append : MRec := (RX8, cX8_append, 7, (some .int), yX8_append, 1, 25, 0, 0, 3794275180128377091639574036764685364535950857523710002445248344226201089335099392)
def mX1_addReading : MRec := (RX1, cX1_addReading, 6, (none : Option Jvm.ClassFile.FieldType), yX1_addReading, 2, 51, 0, 0, 975128721292992912551370527448524138685739370383593470628351453213678343691939348480)
def mX9_isInForce : MRec := (RX9, cX9_isInForce, 2, (some .boolean), yX9_isInForce, 0, 0, 0, 0, 0)
def mX8_get : MRec := (RX8, cX8_get, 5, (some .int), yX8_get, 0, 0, 0, 0, 0)
def mX1_strike : MRec := (RX1, cX1_strike, 7, (none : Option Jvm.ClassFile.FieldType), yX1_strike, 1, 24, 0, 0, 3794275180128377091639574036764685364535950857523710002444946112771297432041422848)
def mX1_weighTexts : MRec := (RX1, cX1_weighTexts, 7, (none : Option Jvm.ClassFile.FieldType), yX1_weighTexts, 2, 50, 0, 0, 3794275180128377091639574036764685364535950857523710002444946112771297432041422848)
def mX9_letterOf : MRec := (RX9, cX9_letterOf, 2, (some .int), yX9_letterOf, 1, 24, 0, 0, 0)
def mX1_isCounting : MRec := (RX1, cX1_isCounting, 3, (some .boolean), yX1_isCounting, 1, 21, 0, 0, 0)
def mX1_numberOf : MRec := (RX1, cX1_numberOf, 8, (some .int), yX1_numberOf, 2, 45, 0, 0, 0)
def mX1_binds : MRec := (RX1, cX1_binds, 7, (some .boolean), yX1_binds, 3, 76, 0, 0, 3794275180128377091639574036764685364535950857523710002444946112771297432041422848)
set_option maxHeartbeats 1000000 in
theorem t_X1_textOf {K : Kmap} {V : Vmap} {x : Nat} {p0 : Int} (h_x : K x = some (0, 1)) (r_p0 : ir p0) : MC mX1_textOf K V [.ref x, ti p0] (RP K V 8 (True) (fun _ => True)) := by
  refine MC.start 0 (by decide +kernel) rfl rfl rfl (ls0 := [some (.ref x), some (ti p0)]) rfl ?_
  refine GO.iload_n dX1_textOf_0 rfl rfl ?_
  refine GO.if_lt (tgt := 30) dX1_textOf_1 (by decide) r_p0 (fun c1 => ?_) (fun c1 => ?_)
  ·
    refine GO.null dX1_textOf_30 ?_
    exact GO.reta rfl rfl (Or.inl ⟨_, rfl⟩) dX1_textOf_31 (Or.inl rfl) ⟨rfl, rfl, Or.inl ⟨rfl, trivial⟩⟩
  ·
    refine GO.iload_n dX1_textOf_4 rfl rfl ?_
    refine GO.aload_n dX1_textOf_5 rfl rfl ?_
    refine GO.getI h_x fl_RX1_17 rfl rfl dX1_textOf_6 (fun l2 u3 => ?_)
    refine GO.icmp_ge (tgt := 30) dX1_textOf_9 (by decide) r_p0 vi_ir (fun c4 => ?_) (fun c4 => ?_)
    ·
      refine GO.null dX1_textOf_30 ?_
      exact GO.reta rfl rfl (Or.inl ⟨_, rfl⟩) dX1_textOf_31 (Or.inl rfl) ⟨rfl, rfl, Or.inl ⟨rfl, trivial⟩⟩
    ·
      refine GO.iload_n dX1_textOf_12 rfl rfl ?_
      refine GO.aload_n dX1_textOf_13 rfl rfl ?_
      refine GO.getA (n := 20) h_x fl_RX1_11 rfl rfl rfl rfl dX1_textOf_14 (fun hv6 h5 => ?_)
      refine GO.alen h5 dX1_textOf_17 (fun h7 => ?_)
      have q9 : -2147483648 ≤ p0 ∧ p0 ≤ 2147483647 := r_p0
      refine GO.icmp_ge (tgt := 30) dX1_textOf_18 (by decide) r_p0 ⟨by omega, by omega⟩ (fun h => by exfalso; omega) (fun c8 => ?_)
      refine GO.aload_n dX1_textOf_21 rfl rfl ?_
      refine GO.getRaw h_x fl_RX1_11 hv6 dX1_textOf_22 ?_
      refine GO.iload_n dX1_textOf_25 rfl rfl ?_
      refine GO.aald (t := 8) rfl rfl h5 r_p0 (by omega) (by omega) dX1_textOf_26 (fun _ => ?_) (fun _ h12 => ?_)
      ·
        refine GO.goto (tgt := 31) dX1_textOf_27 (by decide) ?_
        exact GO.reta rfl rfl (Or.inl ⟨_, rfl⟩) dX1_textOf_31 (Or.inl rfl) ⟨rfl, rfl, Or.inl ⟨rfl, trivial⟩⟩
      ·
        refine GO.goto (tgt := 31) dX1_textOf_27 (by decide) ?_
        exact GO.reta rfl rfl (Or.inl ⟨_, rfl⟩) dX1_textOf_31 (Or.inr ⟨_, rfl⟩) ⟨rfl, rfl, Or.inr ⟨_, rfl, h12, trivial⟩⟩

set_option maxHeartbeats 1000000 in
theorem t_X1_forget {K : Kmap} {V : Vmap} {x : Nat} (h_x : K x = some (0, 1)) : MC mX1_forget K V [.ref x] (VS K (fun V1 => (True))) := by
  refine MC.start 0 (by decide +kernel) rfl rfl rfl (ls0 := [some (.ref x)]) rfl ?_
  refine GO.aload_n dX1_forget_0 rfl rfl ?_
  refine GO.iconst dX1_forget_1 ?_
  refine GO.putI h_x fp_RX1_43 rfl (by decide +kernel) (ir_c rfl) (by decide) (by decide) dX1_forget_2 (fun V2 e1 => ?_)
  exact GO.retv rfl rfl dX1_forget_5 ⟨rfl, rfl, trivial⟩

set_option maxHeartbeats 1000000 in
theorem t_X1_addText {K : Kmap} {V : Vmap} {x : Nat} {p0 : Nat} (h_x : K x = some (0, 1)) (h_p0 : K p0 = some (0, 8)) : MC mX1_addText K V [.ref x, .ref p0] (IS K (fun X V1 => True)) := by
  refine MC.start 0 (by decide +kernel) rfl rfl rfl (ls0 := [some (.ref x), some (.ref p0)]) rfl ?_
  refine GO.aload_n dX1_addText_0 rfl rfl ?_
  refine GO.getI h_x fl_RX1_17 rfl rfl dX1_addText_1 (fun l1 u2 => ?_)
  refine GO.aload_n dX1_addText_4 rfl rfl ?_
  refine GO.getA (n := 20) h_x fl_RX1_11 rfl rfl rfl rfl dX1_addText_5 (fun hv4 h3 => ?_)
  refine GO.alen h3 dX1_addText_8 (fun h5 => ?_)
  refine GO.icmp_lt (tgt := 14) dX1_addText_9 (by decide) vi_ir ⟨by omega, by omega⟩ (fun c6 => ?_) (fun c6 => ?_)
  ·
    refine GO.aload_n dX1_addText_14 rfl rfl ?_
    refine GO.getRaw h_x fl_RX1_11 hv4 dX1_addText_15 ?_
    refine GO.aload_n dX1_addText_18 rfl rfl ?_
    refine GO.getI h_x fl_RX1_17 rfl rfl dX1_addText_19 (fun l9 u10 => ?_)
    refine GO.aload_n dX1_addText_22 rfl rfl ?_
    refine GO.aast (t := 8) (by decide) (RX9, TX9, 5) rfl rfl rfl (by decide +kernel) h3 h_p0 vi_ir (by omega) (by omega) dX1_addText_23 (fun V12 e11 => ?_)
    refine GO.aload_n dX1_addText_24 rfl rfl ?_
    refine GO.callV (ci := 1) (N := mX1_forget) dX1_addText_25 (RX1, TX1, 13) rfl gV_RX1_61 h_x (t_X1_forget h_x) rfl [] rfl rfl (Nat.le_of_ble_eq_true rfl) rfl (k_vs fun V15 h14 hF13 => ?_)
    refine GO.aload_n dX1_addText_28 rfl rfl ?_
    refine GO.dup dX1_addText_29 rfl ?_
    refine GO.getI h_x fl_RX1_17 rfl rfl dX1_addText_30 (fun l16 u17 => ?_)
    have e19 : vi V12 x 1 = vi V x 1 := vi_up e11 (Or.inl (K_ne h_x h3 (by decide)))
    have e18 : vi V15 x 1 = vi V12 x 1 := vi_fr hF13 h_x h_x (by decide +kernel)
    refine GO.dup_x1 dX1_addText_33 rfl rfl ?_
    refine GO.iconst dX1_addText_34 ?_
    refine GO.iadd dX1_addText_35 ?_
    refine GO.putI h_x fp_RX1_17 rfl (by decide +kernel) ⟨by omega, by omega⟩ (by omega) (by omega) dX1_addText_36 (fun V21 e20 => ?_)
    exact GO.reti rfl rfl dX1_addText_39 ⟨rfl, _, rfl, vi_ir, trivial⟩
  ·
    refine GO.iconst dX1_addText_12 ?_
    exact GO.reti rfl rfl dX1_addText_13 ⟨rfl, _, rfl, (ir_c rfl), trivial⟩

set_option maxHeartbeats 1000000 in
theorem t_X8_isFull {K : Kmap} {V : Vmap} {x : Nat} (h_x : K x = some (0, 7)) : MC mX8_isFull K V [.ref x] (IP K V (fun X => (X = 0 ∨ X = 1) ∧ (X ≠ 0 → True) ∧ (X = 0 → True))) := by
  refine MC.start 0 (by decide +kernel) rfl rfl rfl (ls0 := [some (.ref x)]) rfl ?_
  refine GO.aload_n dX8_isFull_0 rfl rfl ?_
  refine GO.getI h_x fl_RX8_9 rfl rfl dX8_isFull_1 (fun _ _ => ?_)
  refine GO.aload_n dX8_isFull_4 rfl rfl ?_
  refine GO.getI h_x fl_RX8_18 rfl rfl dX8_isFull_5 (fun _ _ => ?_)
  refine GO.icmp_lt (tgt := 15) dX8_isFull_8 (by decide) vi_ir vi_ir (fun c1 => ?_) (fun c1 => ?_)
  ·
    refine GO.iconst dX8_isFull_15 ?_
    exact GO.retz rfl rfl dX8_isFull_16 (Or.inl rfl) ⟨rfl, rfl, _, rfl, (ir_c rfl), ⟨Or.inl rfl, fun _ => trivial, fun _ => trivial⟩⟩
  ·
    refine GO.iconst dX8_isFull_11 ?_
    refine GO.goto (tgt := 16) dX8_isFull_12 (by decide) ?_
    exact GO.retz rfl rfl dX8_isFull_16 (Or.inr rfl) ⟨rfl, rfl, _, rfl, (ir_c rfl), ⟨Or.inr rfl, fun _ => trivial, fun _ => trivial⟩⟩

set_option maxHeartbeats 1000000 in
theorem t_X8_put {K : Kmap} {V : Vmap} {x : Nat} {p0 : Int} {p1 : Int} {p2 : Int} (h_x : K x = some (0, 7)) (r_p0 : ir p0) (r_p1 : ir p1) (r_p2 : ir p2) : MC mX8_put K V [.ref x, ti p0, ti p1, ti p2] (VS K (fun V1 => (True))) := by
  refine MC.start 2 (by decide +kernel) rfl rfl rfl (ls0 := [some (.ref x), some (ti p0), some (ti p1), some (ti p2), none, none]) rfl ?_
  refine GO.iload_n dX8_put_0 rfl rfl ?_
  refine GO.aload_n dX8_put_1 rfl rfl ?_
  refine GO.getI h_x fl_RX8_15 rfl rfl dX8_put_2 (fun _ _ => ?_)
  refine GO.imul dX8_put_5 ?_
  refine GO.norm (fun z1 r2 _ => ?_)
  refine GO.iload_n dX8_put_6 rfl rfl ?_
  refine GO.iadd dX8_put_7 ?_
  refine GO.norm (fun z3 r4 _ => ?_)
  refine GO.istore (ls1 := [some (.ref x), some (ti p0), some (ti p1), some (ti p2), some (ti z3), none]) dX8_put_8 rfl rfl ?_
  refine GO.iload_n dX8_put_10 rfl rfl ?_
  have hj10 : ∀ (z9 : Int), ∀ (l11 : 0 ≤ z9), ∀ (u12 : z9 ≤ 1), GO mX8_put K V (VS K (fun V1 => (True))) K V 0 0 39 [some (.ref x), some (ti p0), some (ti p1), some (ti p2), some (ti z3), none] [ti z9] := by
    intro z9 l11 u12
    have r13 : ir z9 := ⟨by omega, by omega⟩
    refine GO.istore (ls1 := [some (.ref x), some (ti p0), some (ti p1), some (ti p2), some (ti z3), some (ti z9)]) dX8_put_39 rfl rfl ?_
    refine GO.iload dX8_put_41 rfl ?_
    refine GO.if_eq (tgt := 69) dX8_put_43 (by decide) r13 (fun c14 => ?_) (fun c14 => ?_)
    ·
      exact GO.retv rfl rfl dX8_put_69 ⟨rfl, rfl, trivial⟩
    ·
      refine GO.iload dX8_put_46 rfl ?_
      refine GO.if_lt (tgt := 69) dX8_put_48 (by decide) r4 (fun c15 => ?_) (fun c15 => ?_)
      ·
        exact GO.retv rfl rfl dX8_put_69 ⟨rfl, rfl, trivial⟩
      ·
        refine GO.iload dX8_put_51 rfl ?_
        refine GO.aload_n dX8_put_53 rfl rfl ?_
        refine GO.getB h_x fl_RX8_27 rfl rfl dX8_put_54 (fun n18 hv17 h16 b19 => ?_)
        refine GO.alen h16 dX8_put_57 (fun h20 => ?_)
        refine GO.icmp_ge (tgt := 69) dX8_put_58 (by decide) r4 ⟨by omega, by omega⟩ (fun c21 => ?_) (fun c21 => ?_)
        ·
          exact GO.retv rfl rfl dX8_put_69 ⟨rfl, rfl, trivial⟩
        ·
          refine GO.aload_n dX8_put_61 rfl rfl ?_
          refine GO.getRaw h_x fl_RX8_27 hv17 dX8_put_62 ?_
          refine GO.iload dX8_put_65 rfl ?_
          refine GO.iload_n dX8_put_67 rfl rfl ?_
          have q24 : -2147483648 ≤ z3 ∧ z3 ≤ 2147483647 := r4
          refine GO.iast (t := 0) rfl rfl (by decide +kernel) h16 r4 (by omega) (by omega) r_p2 (r_p2).1 (r_p2).2 dX8_put_68 (fun V26 e25 => ?_)
          exact GO.retv rfl rfl dX8_put_69 ⟨rfl, rfl, trivial⟩
  have hj31 : GO mX8_put K V (VS K (fun V1 => (True))) K V 0 0 38 [some (.ref x), some (ti p0), some (ti p1), some (ti p2), some (ti z3), none] [] := by
    skip
    refine GO.iconst dX8_put_38 ?_
    exact hj10 0 (by omega) (by omega)
  refine GO.if_lt (tgt := 38) dX8_put_11 (by decide) r_p0 (fun c32 => ?_) (fun c32 => ?_)
  ·
    exact hj31 
  ·
    refine GO.iload_n dX8_put_14 rfl rfl ?_
    refine GO.aload_n dX8_put_15 rfl rfl ?_
    refine GO.getI h_x fl_RX8_9 rfl rfl dX8_put_16 (fun _ _ => ?_)
    refine GO.icmp_ge (tgt := 38) dX8_put_19 (by decide) r_p0 vi_ir (fun c33 => ?_) (fun c33 => ?_)
    ·
      exact hj31 
    ·
      refine GO.iload_n dX8_put_22 rfl rfl ?_
      refine GO.if_lt (tgt := 38) dX8_put_23 (by decide) r_p1 (fun c34 => ?_) (fun c34 => ?_)
      ·
        exact hj31 
      ·
        refine GO.iload_n dX8_put_26 rfl rfl ?_
        refine GO.aload_n dX8_put_27 rfl rfl ?_
        refine GO.getI h_x fl_RX8_15 rfl rfl dX8_put_28 (fun _ _ => ?_)
        refine GO.icmp_ge (tgt := 38) dX8_put_31 (by decide) r_p1 vi_ir (fun c35 => ?_) (fun c35 => ?_)
        ·
          exact hj31 
        ·
          refine GO.iconst dX8_put_34 ?_
          refine GO.goto (tgt := 39) dX8_put_35 (by decide) ?_
          exact hj10 1 (by omega) (by omega)

set_option maxHeartbeats 1000000 in
theorem t_X8_append {K : Kmap} {V : Vmap} {x : Nat} {p0 : Int} {p1 : Int} {p2 : Int} {p3 : Int} {p4 : Int} (h_x : K x = some (0, 7)) (r_p0 : ir p0) (r_p1 : ir p1) (r_p2 : ir p2) (r_p3 : ir p3) (r_p4 : ir p4) : MC mX8_append K V [.ref x, ti p0, ti p1, ti p2, ti p3, ti p4] (IS K (fun X V1 => True)) := by
  refine MC.start 1 (by decide +kernel) rfl rfl rfl (ls0 := [some (.ref x), some (ti p0), some (ti p1), some (ti p2), some (ti p3), some (ti p4), none]) rfl ?_
  refine GO.aload_n dX8_append_0 rfl rfl ?_
  refine GO.callV (ci := 7) (N := mX8_isFull) dX8_append_1 (RX8, TX8, 4) rfl gV_RX8_31 h_x (t_X8_isFull h_x) rfl [] rfl rfl (Nat.le_of_ble_eq_true rfl) rfl (k_ip fun X1 r2 h3 => ?_)
  refine GO.if_eq (tgt := 9) dX8_append_4 (by decide) r2 (fun c4 => ?_) (fun c4 => ?_)
  ·
    refine GO.aload_n dX8_append_9 rfl rfl ?_
    refine GO.getI h_x fl_RX8_9 rfl rfl dX8_append_10 (fun _ _ => ?_)
    refine GO.name (fun z5 hz6 => ?_)
    have r7 : ir z5 := hz6 ▸ vi_ir
    refine GO.istore (ls1 := [some (.ref x), some (ti p0), some (ti p1), some (ti p2), some (ti p3), some (ti p4), some (ti z5)]) dX8_append_13 rfl rfl ?_
    refine GO.aload_n dX8_append_15 rfl rfl ?_
    refine GO.dup dX8_append_16 rfl ?_
    refine GO.getI h_x fl_RX8_9 rfl rfl dX8_append_17 (fun _ _ => ?_)
    refine GO.iconst dX8_append_20 ?_
    refine GO.iadd dX8_append_21 ?_
    refine GO.norm (fun z8 r9 _ => ?_)
    refine GO.putI h_x fp_RX8_9 rfl (by decide +kernel) r9 (r9).1 (r9).2 dX8_append_22 (fun V11 e10 => ?_)
    refine GO.aload_n dX8_append_25 rfl rfl ?_
    refine GO.iload dX8_append_26 rfl ?_
    refine GO.iconst dX8_append_28 ?_
    refine GO.iload_n dX8_append_29 rfl rfl ?_
    refine GO.callV (ci := 7) (N := mX8_put) dX8_append_30 (RX8, TX8, 4) rfl gV_RX8_35 h_x (t_X8_put h_x r7 (ir_c rfl) r_p0) rfl [] rfl rfl (Nat.le_of_ble_eq_true rfl) rfl (k_vs fun V14 h13 hF12 => ?_)
    refine GO.aload_n dX8_append_33 rfl rfl ?_
    refine GO.iload dX8_append_34 rfl ?_
    refine GO.iconst dX8_append_36 ?_
    refine GO.iload_n dX8_append_37 rfl rfl ?_
    refine GO.callV (ci := 7) (N := mX8_put) dX8_append_38 (RX8, TX8, 4) rfl gV_RX8_35 h_x (t_X8_put h_x r7 (ir_c rfl) r_p1) rfl [] rfl rfl (Nat.le_of_ble_eq_true rfl) rfl (k_vs fun V17 h16 hF15 => ?_)
    refine GO.aload_n dX8_append_41 rfl rfl ?_
    refine GO.iload dX8_append_42 rfl ?_
    refine GO.iconst dX8_append_44 ?_
    refine GO.iload_n dX8_append_45 rfl rfl ?_
    refine GO.callV (ci := 7) (N := mX8_put) dX8_append_46 (RX8, TX8, 4) rfl gV_RX8_35 h_x (t_X8_put h_x r7 (ir_c rfl) r_p2) rfl [] rfl rfl (Nat.le_of_ble_eq_true rfl) rfl (k_vs fun V20 h19 hF18 => ?_)
    refine GO.aload_n dX8_append_49 rfl rfl ?_
    refine GO.iload dX8_append_50 rfl ?_
    refine GO.iconst dX8_append_52 ?_
    refine GO.iload dX8_append_53 rfl ?_
    refine GO.callV (ci := 7) (N := mX8_put) dX8_append_55 (RX8, TX8, 4) rfl gV_RX8_35 h_x (t_X8_put h_x r7 (ir_c rfl) r_p3) rfl [] rfl rfl (Nat.le_of_ble_eq_true rfl) rfl (k_vs fun V23 h22 hF21 => ?_)
    refine GO.aload_n dX8_append_58 rfl rfl ?_
    refine GO.iload dX8_append_59 rfl ?_
    refine GO.iconst dX8_append_61 ?_
    refine GO.iload dX8_append_62 rfl ?_
    refine GO.callV (ci := 7) (N := mX8_put) dX8_append_64 (RX8, TX8, 4) rfl gV_RX8_35 h_x (t_X8_put h_x r7 (ir_c rfl) r_p4) rfl [] rfl rfl (Nat.le_of_ble_eq_true rfl) rfl (k_vs fun V26 h25 hF24 => ?_)
    refine GO.iload dX8_append_67 rfl ?_
    have q27 : -2147483648 ≤ z5 ∧ z5 ≤ 2147483647 := r7
    have q28 : -2147483648 ≤ vi V x 3 ∧ vi V x 3 ≤ 2147483647 := vi_ir
    exact GO.reti rfl rfl dX8_append_69 ⟨rfl, _, rfl, r7, trivial⟩
  ·
    refine GO.iconst dX8_append_7 ?_
    exact GO.reti rfl rfl dX8_append_8 ⟨rfl, _, rfl, (ir_c rfl), trivial⟩

set_option maxHeartbeats 1000000 in
theorem t_X1_addReading {K : Kmap} {V : Vmap} {x : Nat} {p0 : Int} {p1 : Int} {p2 : Int} {p3 : Nat} (h_x : K x = some (0, 1)) (r_p0 : ir p0) (r_p1 : ir p1) (r_p2 : ir p2) (h_p3 : K p3 = some (0, 8)) : MC mX1_addReading K V [.ref x, ti p0, ti p1, ti p2, .ref p3] (VS K (fun V1 => (True))) := by
  refine MC.start 1 (by decide +kernel) rfl rfl rfl (ls0 := [some (.ref x), some (ti p0), some (ti p1), some (ti p2), some (.ref p3), none]) rfl ?_
  refine GO.aload_n dX1_addReading_0 rfl rfl ?_
  refine GO.getR h_x fl_RX1_26 rfl rfl dX1_addReading_1 (fun hv2 h1 => ?_)
  refine GO.iload_n dX1_addReading_4 rfl rfl ?_
  refine GO.iload_n dX1_addReading_5 rfl rfl ?_
  refine GO.iload_n dX1_addReading_6 rfl rfl ?_
  refine GO.iconst dX1_addReading_7 ?_
  refine GO.iconst dX1_addReading_8 ?_
  refine GO.callV (ci := 7) (N := mX8_append) dX1_addReading_9 (RX8, TX8, 4) rfl gV_RX1_64 h1 (t_X8_append h1 r_p0 r_p1 r_p2 (ir_c rfl) (ir_c rfl)) rfl [] rfl rfl (Nat.le_of_ble_eq_true rfl) rfl (k_is fun X3 V7 r4 h5 hF6 => ?_)
  refine GO.istore (ls1 := [some (.ref x), some (ti p0), some (ti p1), some (ti p2), some (.ref p3), some (ti X3)]) dX1_addReading_12 rfl rfl ?_
  refine GO.iload dX1_addReading_14 rfl ?_
  refine GO.if_lt (tgt := 38) dX1_addReading_16 (by decide) r4 (fun c8 => ?_) (fun c8 => ?_)
  ·
    exact GO.retv rfl rfl dX1_addReading_38 ⟨rfl, rfl, trivial⟩
  ·
    refine GO.iload dX1_addReading_19 rfl ?_
    refine GO.aload_n dX1_addReading_21 rfl rfl ?_
    refine GO.getA (n := 20) h_x fl_RX1_30 rfl rfl rfl rfl dX1_addReading_22 (fun hv10 h9 => ?_)
    refine GO.alen h9 dX1_addReading_25 (fun h11 => ?_)
    refine GO.icmp_ge (tgt := 38) dX1_addReading_26 (by decide) r4 ⟨by omega, by omega⟩ (fun c12 => ?_) (fun c12 => ?_)
    ·
      exact GO.retv rfl rfl dX1_addReading_38 ⟨rfl, rfl, trivial⟩
    ·
      refine GO.aload_n dX1_addReading_29 rfl rfl ?_
      refine GO.getRaw h_x fl_RX1_30 hv10 dX1_addReading_30 ?_
      refine GO.iload dX1_addReading_33 rfl ?_
      refine GO.aload dX1_addReading_35 rfl ?_
      have q15 : -2147483648 ≤ X3 ∧ X3 ≤ 2147483647 := r4
      refine GO.aast (t := 8) (by decide) (RX9, TX9, 5) rfl rfl rfl (by decide +kernel) h9 h_p3 r4 (by omega) (by omega) dX1_addReading_37 (fun V17 e16 => ?_)
      exact GO.retv rfl rfl dX1_addReading_38 ⟨rfl, rfl, trivial⟩

set_option maxHeartbeats 1000000 in
theorem t_X9_isInForce {K : Kmap} {V : Vmap} {x : Nat} {p0 : Int} (h_x : K x = some (0, 8)) (r_p0 : ir p0) : MC mX9_isInForce K V [.ref x, ti p0] (IP K V (fun X => (X = 0 ∨ X = 1) ∧ (X ≠ 0 → True) ∧ (X = 0 → True))) := by
  refine MC.start 0 (by decide +kernel) rfl rfl rfl (ls0 := [some (.ref x), some (ti p0)]) rfl ?_
  refine GO.iload_n dX9_isInForce_0 rfl rfl ?_
  refine GO.aload_n dX9_isInForce_1 rfl rfl ?_
  refine GO.getI h_x fl_RX9_15 rfl rfl dX9_isInForce_2 (fun _ _ => ?_)
  refine GO.icmp_lt (tgt := 20) dX9_isInForce_5 (by decide) r_p0 vi_ir (fun c1 => ?_) (fun c1 => ?_)
  ·
    refine GO.iconst dX9_isInForce_20 ?_
    exact GO.retz rfl rfl dX9_isInForce_21 (Or.inl rfl) ⟨rfl, rfl, _, rfl, (ir_c rfl), ⟨Or.inl rfl, fun _ => trivial, fun _ => trivial⟩⟩
  ·
    refine GO.iload_n dX9_isInForce_8 rfl rfl ?_
    refine GO.aload_n dX9_isInForce_9 rfl rfl ?_
    refine GO.getI h_x fl_RX9_18 rfl rfl dX9_isInForce_10 (fun _ _ => ?_)
    refine GO.icmp_gt (tgt := 20) dX9_isInForce_13 (by decide) r_p0 vi_ir (fun c2 => ?_) (fun c2 => ?_)
    ·
      refine GO.iconst dX9_isInForce_20 ?_
      exact GO.retz rfl rfl dX9_isInForce_21 (Or.inl rfl) ⟨rfl, rfl, _, rfl, (ir_c rfl), ⟨Or.inl rfl, fun _ => trivial, fun _ => trivial⟩⟩
    ·
      refine GO.iconst dX9_isInForce_16 ?_
      refine GO.goto (tgt := 21) dX9_isInForce_17 (by decide) ?_
      exact GO.retz rfl rfl dX9_isInForce_21 (Or.inr rfl) ⟨rfl, rfl, _, rfl, (ir_c rfl), ⟨Or.inr rfl, fun _ => trivial, fun _ => trivial⟩⟩

set_option maxHeartbeats 1000000 in
theorem t_X8_get {K : Kmap} {V : Vmap} {x : Nat} {p0 : Int} {p1 : Int} (h_x : K x = some (0, 7)) (r_p0 : ir p0) (r_p1 : ir p1) : MC mX8_get K V [.ref x, ti p0, ti p1] (IP K V (fun X => True)) := by
  refine MC.start 2 (by decide +kernel) rfl rfl rfl (ls0 := [some (.ref x), some (ti p0), some (ti p1), none, none]) rfl ?_
  refine GO.iload_n dX8_get_0 rfl rfl ?_
  refine GO.aload_n dX8_get_1 rfl rfl ?_
  refine GO.getI h_x fl_RX8_15 rfl rfl dX8_get_2 (fun _ _ => ?_)
  refine GO.imul dX8_get_5 ?_
  refine GO.norm (fun z1 r2 _ => ?_)
  refine GO.iload_n dX8_get_6 rfl rfl ?_
  refine GO.iadd dX8_get_7 ?_
  refine GO.norm (fun z3 r4 _ => ?_)
  refine GO.istore_n (ls1 := [some (.ref x), some (ti p0), some (ti p1), some (ti z3), none]) dX8_get_8 rfl rfl rfl ?_
  refine GO.iload_n dX8_get_9 rfl rfl ?_
  have hj10 : ∀ (z9 : Int), ∀ (l11 : 0 ≤ z9), ∀ (u12 : z9 ≤ 1), GO mX8_get K V (IP K V (fun X => True)) K V 0 0 38 [some (.ref x), some (ti p0), some (ti p1), some (ti z3), none] [ti z9] := by
    intro z9 l11 u12
    have r13 : ir z9 := ⟨by omega, by omega⟩
    refine GO.istore (ls1 := [some (.ref x), some (ti p0), some (ti p1), some (ti z3), some (ti z9)]) dX8_get_38 rfl rfl ?_
    refine GO.iload dX8_get_40 rfl ?_
    refine GO.if_eq (tgt := 67) dX8_get_42 (by decide) r13 (fun c14 => ?_) (fun c14 => ?_)
    ·
      refine GO.iconst dX8_get_67 ?_
      exact GO.reti rfl rfl dX8_get_68 ⟨rfl, rfl, _, rfl, (ir_c rfl), trivial⟩
    ·
      refine GO.iload_n dX8_get_45 rfl rfl ?_
      refine GO.if_lt (tgt := 67) dX8_get_46 (by decide) r4 (fun c15 => ?_) (fun c15 => ?_)
      ·
        refine GO.iconst dX8_get_67 ?_
        exact GO.reti rfl rfl dX8_get_68 ⟨rfl, rfl, _, rfl, (ir_c rfl), trivial⟩
      ·
        refine GO.iload_n dX8_get_49 rfl rfl ?_
        refine GO.aload_n dX8_get_50 rfl rfl ?_
        refine GO.getB h_x fl_RX8_27 rfl rfl dX8_get_51 (fun n18 hv17 h16 b19 => ?_)
        refine GO.alen h16 dX8_get_54 (fun h20 => ?_)
        refine GO.icmp_ge (tgt := 67) dX8_get_55 (by decide) r4 ⟨by omega, by omega⟩ (fun c21 => ?_) (fun c21 => ?_)
        ·
          refine GO.iconst dX8_get_67 ?_
          exact GO.reti rfl rfl dX8_get_68 ⟨rfl, rfl, _, rfl, (ir_c rfl), trivial⟩
        ·
          refine GO.aload_n dX8_get_58 rfl rfl ?_
          refine GO.getRaw h_x fl_RX8_27 hv17 dX8_get_59 ?_
          refine GO.iload_n dX8_get_62 rfl rfl ?_
          have q24 : -2147483648 ≤ z3 ∧ z3 ≤ 2147483647 := r4
          refine GO.iald (t := 0) rfl rfl h16 r4 (by omega) (by omega) dX8_get_63 (fun _ _ => ?_)
          refine GO.goto (tgt := 68) dX8_get_64 (by decide) ?_
          have q25 : -2147483648 ≤ vi V (vq V x 2) (z3).toNat ∧ vi V (vq V x 2) (z3).toNat ≤ 2147483647 := vi_ir
          exact GO.reti rfl rfl dX8_get_68 ⟨rfl, rfl, _, rfl, vi_ir, trivial⟩
  have hj30 : GO mX8_get K V (IP K V (fun X => True)) K V 0 0 37 [some (.ref x), some (ti p0), some (ti p1), some (ti z3), none] [] := by
    skip
    refine GO.iconst dX8_get_37 ?_
    exact hj10 0 (by omega) (by omega)
  refine GO.if_lt (tgt := 37) dX8_get_10 (by decide) r_p0 (fun c31 => ?_) (fun c31 => ?_)
  ·
    exact hj30 
  ·
    refine GO.iload_n dX8_get_13 rfl rfl ?_
    refine GO.aload_n dX8_get_14 rfl rfl ?_
    refine GO.getI h_x fl_RX8_9 rfl rfl dX8_get_15 (fun _ _ => ?_)
    refine GO.icmp_ge (tgt := 37) dX8_get_18 (by decide) r_p0 vi_ir (fun c32 => ?_) (fun c32 => ?_)
    ·
      exact hj30 
    ·
      refine GO.iload_n dX8_get_21 rfl rfl ?_
      refine GO.if_lt (tgt := 37) dX8_get_22 (by decide) r_p1 (fun c33 => ?_) (fun c33 => ?_)
      ·
        exact hj30 
      ·
        refine GO.iload_n dX8_get_25 rfl rfl ?_
        refine GO.aload_n dX8_get_26 rfl rfl ?_
        refine GO.getI h_x fl_RX8_15 rfl rfl dX8_get_27 (fun _ _ => ?_)
        refine GO.icmp_ge (tgt := 37) dX8_get_30 (by decide) r_p1 vi_ir (fun c34 => ?_) (fun c34 => ?_)
        ·
          exact hj30 
        ·
          refine GO.iconst dX8_get_33 ?_
          refine GO.goto (tgt := 38) dX8_get_34 (by decide) ?_
          exact hj10 1 (by omega) (by omega)

set_option maxHeartbeats 1000000 in
theorem t_X1_strike {K : Kmap} {V : Vmap} {x : Nat} {p0 : Int} {p1 : Nat} {p2 : Int} (h_x : K x = some (0, 1)) (r_p0 : ir p0) (h_p1 : K p1 = some (0, 7)) (r_p2 : ir p2) : MC mX1_strike K V [.ref x, ti p0, .ref p1, ti p2] (VS K (fun V1 => (True))) := by
  refine MC.start 3 (by decide +kernel) rfl rfl rfl (ls0 := [some (.ref x), some (ti p0), some (.ref p1), some (ti p2), none, none, none]) rfl ?_
  refine GO.iconst dX1_strike_0 ?_
  refine GO.istore (ls1 := [some (.ref x), some (ti p0), some (.ref p1), some (ti p2), some (ti 0), none, none]) dX1_strike_1 rfl rfl ?_
  refine GO.loop1 (fun i1 W => 0 ≤ i1 ∧ i1 ≤ 2147483647 ∧ True) (fun i1 => [some (.ref x), some (ti p0), some (.ref p1), some (ti p2), some (ti i1), none, none]) (fun i1 W => (2147483647 - i1).toNat) 0 ⟨by omega, by omega, trivial⟩ rfl (fun i1 Wi1 hp759 ih758 => ?_)
  obtain ⟨l_i1, u_i1, -⟩ := hp759
  have r_i1 : ir i1 := ⟨by omega, by omega⟩
  show GO mX1_strike K V (VS K (fun V1 => (True))) K Wi1 0 0 3 [some (.ref x), some (ti p0), some (.ref p1), some (ti p2), some (ti i1), none, none] []
  refine GO.iload dX1_strike_3 rfl ?_
  refine GO.aload_n dX1_strike_5 rfl rfl ?_
  refine GO.getI h_p1 fl_RX1_105 rfl rfl dX1_strike_6 (fun _ _ => ?_)
  refine GO.icmp_ge (tgt := 86) dX1_strike_9 (by decide) r_i1 vi_ir (fun c760 => ?_) (fun c760 => ?_)
  ·
    exact GO.retv rfl rfl dX1_strike_86 ⟨rfl, rfl, trivial⟩
  ·
    refine GO.aload_n dX1_strike_12 rfl rfl ?_
    refine GO.iload dX1_strike_13 rfl ?_
    refine GO.iconst dX1_strike_15 ?_
    refine GO.callV (ci := 7) (N := mX8_get) dX1_strike_16 (RX8, TX8, 4) rfl gV_RX1_116 h_p1 (t_X8_get h_p1 r_i1 (ir_c rfl)) rfl [] rfl rfl (Nat.le_of_ble_eq_true rfl) rfl (k_ip fun X761 r762 h763 => ?_)
    refine GO.istore (ls1 := [some (.ref x), some (ti p0), some (.ref p1), some (ti p2), some (ti i1), some (ti X761), none]) dX1_strike_19 rfl rfl ?_
    refine GO.iload_n dX1_strike_21 rfl rfl ?_
    refine GO.iload dX1_strike_22 rfl ?_
    refine GO.ishr dX1_strike_24 ?_
    refine GO.iconst dX1_strike_25 ?_
    refine GO.iand dX1_strike_26 ?_
    refine GO.if_eq (tgt := 80) dX1_strike_27 (by decide) wand_ir (fun c764 => ?_) (fun c764 => ?_)
    ·
      refine GO.iinc (X := i1) (n := 1) (Y := i1 + 1) (ls1 := [some (.ref x), some (ti p0), some (.ref p1), some (ti p2), some (ti (i1 + 1)), some (ti X761), none]) dX1_strike_80 rfl rfl rfl rfl ?_
      refine GO.goto (tgt := 3) dX1_strike_83 (by decide) ?_
      refine GO.drop [true, true, true, true, true, false, true] rfl ?_
      have q765 : -2147483648 ≤ vi Wi1 p1 3 ∧ vi Wi1 p1 3 ≤ 2147483647 := vi_ir
      exact ih758 (i1 + 1) Wi1 ⟨by omega, by omega, trivial⟩ (by show (2147483647 - (i1 + 1)).toNat < (2147483647 - i1).toNat; omega)
    ·
      refine GO.aload_n dX1_strike_30 rfl rfl ?_
      refine GO.iload dX1_strike_31 rfl ?_
      refine GO.iconst dX1_strike_33 ?_
      refine GO.callV (ci := 7) (N := mX8_get) dX1_strike_34 (RX8, TX8, 4) rfl gV_RX1_116 h_p1 (t_X8_get h_p1 r_i1 (ir_c rfl)) rfl [] rfl rfl (Nat.le_of_ble_eq_true rfl) rfl (k_ip fun X766 r767 h768 => ?_)
      refine GO.bipush dX1_strike_37 rfl ?_
      refine GO.icmp_ne (tgt := 80) dX1_strike_39 (by decide) r767 (ir_c rfl) (fun c769 => ?_) (fun c769 => ?_)
      ·
        refine GO.iinc (X := i1) (n := 1) (Y := i1 + 1) (ls1 := [some (.ref x), some (ti p0), some (.ref p1), some (ti p2), some (ti (i1 + 1)), some (ti X761), none]) dX1_strike_80 rfl rfl rfl rfl ?_
        refine GO.goto (tgt := 3) dX1_strike_83 (by decide) ?_
        refine GO.drop [true, true, true, true, true, false, true] rfl ?_
        have q770 : -2147483648 ≤ vi Wi1 p1 3 ∧ vi Wi1 p1 3 ≤ 2147483647 := vi_ir
        exact ih758 (i1 + 1) Wi1 ⟨by omega, by omega, trivial⟩ (by show (2147483647 - (i1 + 1)).toNat < (2147483647 - i1).toNat; omega)
      ·
        refine GO.iload dX1_strike_42 rfl ?_
        refine GO.iload_n dX1_strike_44 rfl rfl ?_
        refine GO.icmp_ge (tgt := 80) dX1_strike_45 (by decide) r762 r_p0 (fun c771 => ?_) (fun c771 => ?_)
        ·
          refine GO.iinc (X := i1) (n := 1) (Y := i1 + 1) (ls1 := [some (.ref x), some (ti p0), some (.ref p1), some (ti p2), some (ti (i1 + 1)), some (ti X761), none]) dX1_strike_80 rfl rfl rfl rfl ?_
          refine GO.goto (tgt := 3) dX1_strike_83 (by decide) ?_
          refine GO.drop [true, true, true, true, true, false, true] rfl ?_
          have q772 : -2147483648 ≤ vi Wi1 p1 3 ∧ vi Wi1 p1 3 ≤ 2147483647 := vi_ir
          exact ih758 (i1 + 1) Wi1 ⟨by omega, by omega, trivial⟩ (by show (2147483647 - (i1 + 1)).toNat < (2147483647 - i1).toNat; omega)
        ·
          refine GO.iconst dX1_strike_48 ?_
          refine GO.aload_n dX1_strike_49 rfl rfl ?_
          refine GO.iload dX1_strike_50 rfl ?_
          refine GO.iconst dX1_strike_52 ?_
          refine GO.callV (ci := 7) (N := mX8_get) dX1_strike_53 (RX8, TX8, 4) rfl gV_RX1_116 h_p1 (t_X8_get h_p1 r_i1 (ir_c rfl)) rfl [ti 1] rfl rfl (Nat.le_of_ble_eq_true rfl) rfl (k_ip fun X773 r774 h775 => ?_)
          refine GO.ishl dX1_strike_56 ?_
          refine GO.name (fun z776 hz777 => ?_)
          have r778 : ir z776 := hz777 ▸ wshl_ir
          refine GO.istore (ls1 := [some (.ref x), some (ti p0), some (.ref p1), some (ti p2), some (ti i1), some (ti X761), some (ti z776)]) dX1_strike_57 rfl rfl ?_
          refine GO.aload_n dX1_strike_59 rfl rfl ?_
          refine GO.getB h_x fl_RX1_37 rfl rfl dX1_strike_60 (fun n781 hv780 h779 b782 => ?_)
          refine GO.iload dX1_strike_63 rfl ?_
          refine GO.aload_n dX1_strike_65 rfl rfl ?_
          refine GO.getRaw h_x fl_RX1_37 hv780 dX1_strike_66 ?_
          refine GO.iload dX1_strike_69 rfl ?_
          refine GO.callS (N := mX4_get) dX1_strike_71 gS_RX1_88 (t_X4_get rfl h779 r762) rfl [ti X761, .ref (vq Wi1 x 5)] rfl rfl (Nat.le_of_ble_eq_true rfl) rfl (k_ip fun X785 r786 h787 => ?_)
          refine GO.iload dX1_strike_74 rfl ?_
          refine GO.ior dX1_strike_76 ?_
          refine GO.callS (N := mX4_put) dX1_strike_77 gS_RX1_108 (t_X4_put h779 r762 wor_ir) rfl [] rfl rfl (Nat.le_of_ble_eq_true rfl) rfl (k_vs fun V790 h789 hF788 => ?_)
          refine GO.iinc (X := i1) (n := 1) (Y := i1 + 1) (ls1 := [some (.ref x), some (ti p0), some (.ref p1), some (ti p2), some (ti (i1 + 1)), some (ti X761), some (ti z776)]) dX1_strike_80 rfl rfl rfl rfl ?_
          refine GO.goto (tgt := 3) dX1_strike_83 (by decide) ?_
          refine GO.drop [true, true, true, true, true, false, false] rfl ?_
          have q791 : -2147483648 ≤ vi Wi1 p1 3 ∧ vi Wi1 p1 3 ≤ 2147483647 := vi_ir
          exact ih758 (i1 + 1) V790 ⟨by omega, by omega, trivial⟩ (by show (2147483647 - (i1 + 1)).toNat < (2147483647 - i1).toNat; omega)

set_option maxHeartbeats 1000000 in
theorem t_X1_weighTexts {K : Kmap} {V : Vmap} {x : Nat} {p0 : Int} {p1 : Int} (h_x : K x = some (0, 1)) (r_p0 : ir p0) (r_p1 : ir p1) : MC mX1_weighTexts K V [.ref x, ti p0, ti p1] (VS K (fun V1 => (True))) := by
  refine MC.start 4 (by decide +kernel) rfl rfl rfl (ls0 := [some (.ref x), some (ti p0), some (ti p1), none, none, none, none]) rfl ?_
  refine GO.aload_n dX1_weighTexts_0 rfl rfl ?_
  refine GO.getB h_x fl_RX1_33 rfl rfl dX1_weighTexts_1 (fun n3 hv2 h1 b4 => ?_)
  refine GO.iconst dX1_weighTexts_4 ?_
  refine GO.callS (N := mX4_fill) dX1_weighTexts_5 gS_RX1_98 (t_X4_fill h1 (ir_c rfl)) rfl [] rfl rfl (Nat.le_of_ble_eq_true rfl) rfl (k_vs fun V7 h6 hF5 => ?_)
  refine GO.aload_n dX1_weighTexts_8 rfl rfl ?_
  refine GO.getB h_x fl_RX1_37 rfl rfl dX1_weighTexts_9 (fun n10 hv9 h8 b11 => ?_)
  refine GO.iconst dX1_weighTexts_12 ?_
  refine GO.callS (N := mX4_fill) dX1_weighTexts_13 gS_RX1_98 (t_X4_fill h8 (ir_c rfl)) rfl [] rfl rfl (Nat.le_of_ble_eq_true rfl) rfl (k_vs fun V14 h13 hF12 => ?_)
  refine GO.iload_n dX1_weighTexts_16 rfl rfl ?_
  refine GO.iconst dX1_weighTexts_17 ?_
  refine GO.isub dX1_weighTexts_18 ?_
  refine GO.norm (fun z15 r16 _ => ?_)
  refine GO.istore_n (ls1 := [some (.ref x), some (ti p0), some (ti p1), some (ti z15), none, none, none]) dX1_weighTexts_19 rfl rfl rfl ?_
  have q49 : -2147483648 ≤ z15 ∧ z15 ≤ 2147483647 := r16
  refine GO.loop1 (fun i17 W => (-2147483648) ≤ i17 ∧ i17 ≤ 2147483647 ∧ True) (fun i17 => [some (.ref x), some (ti p0), some (ti p1), some (ti i17), none, none, none]) (fun i17 W => (i17 + 2147483648).toNat) z15 ⟨by omega, by omega, trivial⟩ rfl (fun i17 Wi17 hp51 ih50 => ?_)
  obtain ⟨l_i17, u_i17, -⟩ := hp51
  have r_i17 : ir i17 := ⟨by omega, by omega⟩
  show GO mX1_weighTexts K V (VS K (fun V1 => (True))) K Wi17 0 0 20 [some (.ref x), some (ti p0), some (ti p1), some (ti i17), none, none, none] []
  refine GO.iload_n dX1_weighTexts_20 rfl rfl ?_
  refine GO.if_lt (tgt := 104) dX1_weighTexts_21 (by decide) r_i17 (fun c52 => ?_) (fun c52 => ?_)
  ·
    exact GO.retv rfl rfl dX1_weighTexts_104 ⟨rfl, rfl, trivial⟩
  ·
    refine GO.aload_n dX1_weighTexts_24 rfl rfl ?_
    refine GO.iload_n dX1_weighTexts_25 rfl rfl ?_
    refine GO.callV (ci := 1) (N := mX1_textOf) dX1_weighTexts_26 (RX1, TX1, 13) rfl gV_RX1_75 h_x (t_X1_textOf h_x r_i17) rfl [] rfl rfl (Nat.le_of_ble_eq_true rfl) rfl (k_rp (fun h55 => ?_) (fun o53 h54 h55 => ?_))
    ·
      refine GO.astoreN (ls1 := [some (.ref x), some (ti p0), some (ti p1), some (ti i17), some (.null), none, none]) dX1_weighTexts_29 rfl rfl ?_
      refine GO.aloadN dX1_weighTexts_31 rfl ?_
      refine GO.ifnullN (tgt := 98) dX1_weighTexts_33 (by decide) ?_
      refine GO.iinc (X := i17) (n := (-1)) (Y := i17 + (-1)) (ls1 := [some (.ref x), some (ti p0), some (ti p1), some (ti (i17 + (-1))), some (.null), none, none]) dX1_weighTexts_98 rfl rfl rfl rfl ?_
      refine GO.goto (tgt := 20) dX1_weighTexts_101 (by decide) ?_
      refine GO.drop [true, true, true, true, false, true, true] rfl ?_
      exact ih50 (i17 + (-1)) Wi17 ⟨by omega, by omega, trivial⟩ (by show ((i17 + (-1)) + 2147483648).toNat < (i17 + 2147483648).toNat; omega)
    ·
      refine GO.astore (ls1 := [some (.ref x), some (ti p0), some (ti p1), some (ti i17), some (.ref o53), none, none]) dX1_weighTexts_29 rfl rfl ?_
      refine GO.aload dX1_weighTexts_31 rfl ?_
      refine GO.ifnull dX1_weighTexts_33 ?_
      refine GO.iload_n dX1_weighTexts_36 rfl rfl ?_
      refine GO.iload_n dX1_weighTexts_37 rfl rfl ?_
      refine GO.ishr dX1_weighTexts_38 ?_
      refine GO.iconst dX1_weighTexts_39 ?_
      refine GO.iand dX1_weighTexts_40 ?_
      refine GO.if_ne (tgt := 47) dX1_weighTexts_41 (by decide) wand_ir (fun c56 => ?_) (fun c56 => ?_)
      ·
        refine GO.iconst dX1_weighTexts_47 ?_
        refine GO.aload dX1_weighTexts_48 rfl ?_
        refine GO.getR h54 fl_RX1_102 rfl rfl dX1_weighTexts_50 (fun hv58 h57 => ?_)
        refine GO.getI h57 fl_RX1_105 rfl rfl dX1_weighTexts_53 (fun _ _ => ?_)
        refine GO.ishl dX1_weighTexts_56 ?_
        refine GO.iconst dX1_weighTexts_57 ?_
        refine GO.isub dX1_weighTexts_58 ?_
        refine GO.norm (fun z59 r60 _ => ?_)
        refine GO.istore (ls1 := [some (.ref x), some (ti p0), some (ti p1), some (ti i17), some (.ref o53), some (ti z59), none]) dX1_weighTexts_59 rfl rfl ?_
        refine GO.iload dX1_weighTexts_61 rfl ?_
        refine GO.aload_n dX1_weighTexts_63 rfl rfl ?_
        refine GO.getB h_x fl_RX1_37 rfl rfl dX1_weighTexts_64 (fun n63 hv62 h61 b64 => ?_)
        refine GO.iload_n dX1_weighTexts_67 rfl rfl ?_
        refine GO.callS (N := mX4_get) dX1_weighTexts_68 gS_RX1_88 (t_X4_get rfl h61 r_i17) rfl [ti z59] rfl rfl (Nat.le_of_ble_eq_true rfl) rfl (k_ip fun X65 r66 h67 => ?_)
        refine GO.iconst dX1_weighTexts_71 ?_
        refine GO.ixor dX1_weighTexts_72 ?_
        refine GO.iand dX1_weighTexts_73 ?_
        refine GO.name (fun z68 hz69 => ?_)
        have r70 : ir z68 := hz69 ▸ wand_ir
        refine GO.istore (ls1 := [some (.ref x), some (ti p0), some (ti p1), some (ti i17), some (.ref o53), some (ti z59), some (ti z68)]) dX1_weighTexts_74 rfl rfl ?_
        refine GO.aload_n dX1_weighTexts_76 rfl rfl ?_
        refine GO.getB h_x fl_RX1_33 rfl rfl dX1_weighTexts_77 (fun n73 hv72 h71 b74 => ?_)
        refine GO.iload_n dX1_weighTexts_80 rfl rfl ?_
        refine GO.iload dX1_weighTexts_81 rfl ?_
        refine GO.callS (N := mX4_put) dX1_weighTexts_83 gS_RX1_108 (t_X4_put h71 r_i17 r70) rfl [] rfl rfl (Nat.le_of_ble_eq_true rfl) rfl (k_vs fun V77 h76 hF75 => ?_)
        refine GO.aload_n dX1_weighTexts_86 rfl rfl ?_
        refine GO.iload_n dX1_weighTexts_87 rfl rfl ?_
        refine GO.aload dX1_weighTexts_88 rfl ?_
        refine GO.getR h54 fl_RX1_102 rfl rfl dX1_weighTexts_90 (fun hv79 h78 => ?_)
        refine GO.iload dX1_weighTexts_93 rfl ?_
        refine GO.callV (ci := 1) (N := mX1_strike) dX1_weighTexts_95 (RX1, TX1, 13) rfl gV_RX1_112 h_x (t_X1_strike h_x r_i17 h78 r70) rfl [] rfl rfl (Nat.le_of_ble_eq_true rfl) rfl (k_vs fun V82 h81 hF80 => ?_)
        refine GO.iinc (X := i17) (n := (-1)) (Y := i17 + (-1)) (ls1 := [some (.ref x), some (ti p0), some (ti p1), some (ti (i17 + (-1))), some (.ref o53), some (ti z59), some (ti z68)]) dX1_weighTexts_98 rfl rfl rfl rfl ?_
        refine GO.goto (tgt := 20) dX1_weighTexts_101 (by decide) ?_
        refine GO.drop [true, true, true, true, false, false, false] rfl ?_
        exact ih50 (i17 + (-1)) V82 ⟨by omega, by omega, trivial⟩ (by show ((i17 + (-1)) + 2147483648).toNat < (i17 + 2147483648).toNat; omega)
      ·
        refine GO.goto (tgt := 98) dX1_weighTexts_44 (by decide) ?_
        refine GO.iinc (X := i17) (n := (-1)) (Y := i17 + (-1)) (ls1 := [some (.ref x), some (ti p0), some (ti p1), some (ti (i17 + (-1))), some (.ref o53), none, none]) dX1_weighTexts_98 rfl rfl rfl rfl ?_
        refine GO.goto (tgt := 20) dX1_weighTexts_101 (by decide) ?_
        refine GO.drop [true, true, true, true, false, true, true] rfl ?_
        exact ih50 (i17 + (-1)) Wi17 ⟨by omega, by omega, trivial⟩ (by show ((i17 + (-1)) + 2147483648).toNat < (i17 + 2147483648).toNat; omega)

set_option maxHeartbeats 1000000 in
theorem t_X9_letterOf {K : Kmap} {V : Vmap} {x : Nat} {p0 : Int} (h_x : K x = some (0, 8)) (r_p0 : ir p0) : MC mX9_letterOf K V [.ref x, ti p0] (IP K V (fun X => True)) := by
  refine MC.start 0 (by decide +kernel) rfl rfl rfl (ls0 := [some (.ref x), some (ti p0)]) rfl ?_
  refine GO.aload_n dX9_letterOf_0 rfl rfl ?_
  refine GO.getR h_x fl_RX9_26 rfl rfl dX9_letterOf_1 (fun hv2 h1 => ?_)
  refine GO.iload_n dX9_letterOf_4 rfl rfl ?_
  refine GO.iconst dX9_letterOf_5 ?_
  refine GO.callV (ci := 7) (N := mX8_get) dX9_letterOf_6 (RX8, TX8, 4) rfl gV_RX9_40 h1 (t_X8_get h1 r_p0 (ir_c rfl)) rfl [] rfl rfl (Nat.le_of_ble_eq_true rfl) rfl (k_ip fun X3 r4 h5 => ?_)
  have q6 : -2147483648 ≤ X3 ∧ X3 ≤ 2147483647 := r4
  exact GO.reti rfl rfl dX9_letterOf_9 ⟨rfl, rfl, _, rfl, r4, trivial⟩

set_option maxHeartbeats 1000000 in
theorem t_X1_isCounting {K : Kmap} {V : Vmap} {x : Nat} {p0 : Int} {p1 : Int} (h_x : K x = some (0, 1)) (r_p0 : ir p0) (r_p1 : ir p1) : MC mX1_isCounting K V [.ref x, ti p0, ti p1] (IP K V (fun X => (X = 0 ∨ X = 1) ∧ (X ≠ 0 → True) ∧ (X = 0 → True))) := by
  refine MC.start 0 (by decide +kernel) rfl rfl rfl (ls0 := [some (.ref x), some (ti p0), some (ti p1)]) rfl ?_
  refine GO.aload_n dX1_isCounting_0 rfl rfl ?_
  refine GO.getB h_x fl_RX1_33 rfl rfl dX1_isCounting_1 (fun n3 hv2 h1 b4 => ?_)
  refine GO.iload_n dX1_isCounting_4 rfl rfl ?_
  refine GO.callS (N := mX4_get) dX1_isCounting_5 gS_RX1_88 (t_X4_get rfl h1 r_p0) rfl [] rfl rfl (Nat.le_of_ble_eq_true rfl) rfl (k_ip fun X5 r6 h7 => ?_)
  refine GO.iload_n dX1_isCounting_8 rfl rfl ?_
  refine GO.ishr dX1_isCounting_9 ?_
  refine GO.iconst dX1_isCounting_10 ?_
  refine GO.iand dX1_isCounting_11 ?_
  refine GO.if_eq (tgt := 19) dX1_isCounting_12 (by decide) wand_ir (fun c8 => ?_) (fun c8 => ?_)
  ·
    refine GO.iconst dX1_isCounting_19 ?_
    exact GO.retz rfl rfl dX1_isCounting_20 (Or.inl rfl) ⟨rfl, rfl, _, rfl, (ir_c rfl), ⟨Or.inl rfl, fun _ => trivial, fun _ => trivial⟩⟩
  ·
    refine GO.iconst dX1_isCounting_15 ?_
    refine GO.goto (tgt := 20) dX1_isCounting_16 (by decide) ?_
    exact GO.retz rfl rfl dX1_isCounting_20 (Or.inr rfl) ⟨rfl, rfl, _, rfl, (ir_c rfl), ⟨Or.inr rfl, fun _ => trivial, fun _ => trivial⟩⟩

set_option maxHeartbeats 1000000 in
theorem t_X1_numberOf {K : Kmap} {V : Vmap} {x : Nat} {p0 : Int} {p1 : Int} {p2 : Int} (h_x : K x = some (0, 1)) (r_p0 : ir p0) (r_p1 : ir p1) (r_p2 : ir p2) : MC mX1_numberOf K V [.ref x, ti p0, ti p1, ti p2] (IP K V (fun X => True)) := by
  refine MC.start 4 (by decide +kernel) rfl rfl rfl (ls0 := [some (.ref x), some (ti p0), some (ti p1), some (ti p2), none, none, none, none]) rfl ?_
  refine GO.aload_n dX1_numberOf_0 rfl rfl ?_
  refine GO.getI h_x fl_RX1_17 rfl rfl dX1_numberOf_1 (fun l1 u2 => ?_)
  refine GO.iconst dX1_numberOf_4 ?_
  refine GO.isub dX1_numberOf_5 ?_
  refine GO.name (fun z3 hz4 => ?_)
  refine GO.istore (ls1 := [some (.ref x), some (ti p0), some (ti p1), some (ti p2), some (ti z3), none, none, none]) dX1_numberOf_6 rfl rfl ?_
  refine GO.loop1 (fun i5 W => (-1) ≤ i5 ∧ i5 ≤ 19 ∧ V = W) (fun i5 => [some (.ref x), some (ti p0), some (ti p1), some (ti p2), some (ti i5), none, none, none]) (fun i5 W => (i5 + 2147483648).toNat) z3 ⟨by omega, by omega, rfl⟩ rfl (fun i5 V197 hp199 ih198 => ?_)
  obtain ⟨l_i5, u_i5, rfl⟩ := hp199
  have r_i5 : ir i5 := ⟨by omega, by omega⟩
  show GO mX1_numberOf K V (IP K V (fun X => True)) K V 0 0 8 [some (.ref x), some (ti p0), some (ti p1), some (ti p2), some (ti i5), none, none, none] []
  refine GO.iload dX1_numberOf_8 rfl ?_
  refine GO.if_lt (tgt := 152) dX1_numberOf_10 (by decide) r_i5 (fun c200 => ?_) (fun c200 => ?_)
  ·
    refine GO.iconst dX1_numberOf_152 ?_
    exact GO.reti rfl rfl dX1_numberOf_153 ⟨rfl, rfl, _, rfl, (ir_c rfl), trivial⟩
  ·
    refine GO.aload_n dX1_numberOf_13 rfl rfl ?_
    refine GO.iload dX1_numberOf_14 rfl ?_
    refine GO.callV (ci := 1) (N := mX1_textOf) dX1_numberOf_16 (RX1, TX1, 13) rfl gV_RX1_75 h_x (t_X1_textOf h_x r_i5) rfl [] rfl rfl (Nat.le_of_ble_eq_true rfl) rfl (k_rp (fun h203 => ?_) (fun o201 h202 h203 => ?_))
    ·
      refine GO.astoreN (ls1 := [some (.ref x), some (ti p0), some (ti p1), some (ti p2), some (ti i5), some (.null), none, none]) dX1_numberOf_19 rfl rfl ?_
      refine GO.aloadN dX1_numberOf_21 rfl ?_
      refine GO.ifnullN (tgt := 146) dX1_numberOf_23 (by decide) ?_
      refine GO.iinc (X := i5) (n := (-1)) (Y := i5 + (-1)) (ls1 := [some (.ref x), some (ti p0), some (ti p1), some (ti p2), some (ti (i5 + (-1))), some (.null), none, none]) dX1_numberOf_146 rfl rfl rfl rfl ?_
      refine GO.goto (tgt := 8) dX1_numberOf_149 (by decide) ?_
      refine GO.drop [true, true, true, true, true, false, true, true] rfl ?_
      exact ih198 (i5 + (-1)) V ⟨by omega, by omega, rfl⟩ (by show ((i5 + (-1)) + 2147483648).toNat < (i5 + 2147483648).toNat; omega)
    ·
      refine GO.astore (ls1 := [some (.ref x), some (ti p0), some (ti p1), some (ti p2), some (ti i5), some (.ref o201), none, none]) dX1_numberOf_19 rfl rfl ?_
      refine GO.aload dX1_numberOf_21 rfl ?_
      refine GO.ifnull dX1_numberOf_23 ?_
      refine GO.aload_n dX1_numberOf_26 rfl rfl ?_
      refine GO.getB h_x fl_RX1_33 rfl rfl dX1_numberOf_27 (fun n206 hv205 h204 b207 => ?_)
      refine GO.iload dX1_numberOf_30 rfl ?_
      refine GO.callS (N := mX4_get) dX1_numberOf_32 gS_RX1_88 (t_X4_get rfl h204 r_i5) rfl [] rfl rfl (Nat.le_of_ble_eq_true rfl) rfl (k_ip fun X208 r209 h210 => ?_)
      refine GO.if_ne (tgt := 41) dX1_numberOf_35 (by decide) r209 (fun c211 => ?_) (fun c211 => ?_)
      ·
        refine GO.aload dX1_numberOf_41 rfl ?_
        refine GO.getR h202 fl_RX1_102 rfl rfl dX1_numberOf_43 (fun hv213 h212 => ?_)
        refine GO.getI h212 fl_RX1_105 rfl rfl dX1_numberOf_46 (fun _ _ => ?_)
        refine GO.iconst dX1_numberOf_49 ?_
        refine GO.isub dX1_numberOf_50 ?_
        refine GO.norm (fun z214 r215 _ => ?_)
        refine GO.istore (ls1 := [some (.ref x), some (ti p0), some (ti p1), some (ti p2), some (ti i5), some (.ref o201), some (ti z214), none]) dX1_numberOf_51 rfl rfl ?_
        have q303 : -2147483648 ≤ z214 ∧ z214 ≤ 2147483647 := r215
        refine GO.loop1 (fun i216 W => (-2147483648) ≤ i216 ∧ i216 ≤ 2147483647 ∧ V = W) (fun i216 => [some (.ref x), some (ti p0), some (ti p1), some (ti p2), some (ti i5), some (.ref o201), some (ti i216), none]) (fun i216 W => (i216 + 2147483648).toNat) z214 ⟨by omega, by omega, rfl⟩ rfl (fun i216 V302 hp305 ih304 => ?_)
        obtain ⟨l_i216, u_i216, rfl⟩ := hp305
        have r_i216 : ir i216 := ⟨by omega, by omega⟩
        show GO mX1_numberOf K V (IP K V (fun X => True)) K V 0 0 53 [some (.ref x), some (ti p0), some (ti p1), some (ti p2), some (ti i5), some (.ref o201), some (ti i216), none] []
        refine GO.iload dX1_numberOf_53 rfl ?_
        refine GO.if_lt (tgt := 146) dX1_numberOf_55 (by decide) r_i216 (fun c306 => ?_) (fun c306 => ?_)
        ·
          refine GO.iinc (X := i5) (n := (-1)) (Y := i5 + (-1)) (ls1 := [some (.ref x), some (ti p0), some (ti p1), some (ti p2), some (ti (i5 + (-1))), some (.ref o201), some (ti i216), none]) dX1_numberOf_146 rfl rfl rfl rfl ?_
          refine GO.goto (tgt := 8) dX1_numberOf_149 (by decide) ?_
          refine GO.drop [true, true, true, true, true, false, false, true] rfl ?_
          exact ih198 (i5 + (-1)) V ⟨by omega, by omega, rfl⟩ (by show ((i5 + (-1)) + 2147483648).toNat < (i5 + 2147483648).toNat; omega)
        ·
          refine GO.iload_n dX1_numberOf_58 rfl rfl ?_
          refine GO.bipush dX1_numberOf_59 rfl ?_
          have hj329 : ∀ (z328 : Int), ∀ (l330 : 0 ≤ z328), ∀ (u331 : z328 ≤ 1), GO mX1_numberOf K V (IP K V (fun X => True)) K V 0 0 99 [some (.ref x), some (ti p0), some (ti p1), some (ti p2), some (ti i5), some (.ref o201), some (ti i216), none] [ti z328] := by
            intro z328 l330 u331
            have r332 : ir z328 := ⟨by omega, by omega⟩
            refine GO.istore (ls1 := [some (.ref x), some (ti p0), some (ti p1), some (ti p2), some (ti i5), some (.ref o201), some (ti i216), some (ti z328)]) dX1_numberOf_99 rfl rfl ?_
            refine GO.aload dX1_numberOf_101 rfl ?_
            refine GO.iload dX1_numberOf_103 rfl ?_
            refine GO.callV (ci := 8) (N := mX9_letterOf) dX1_numberOf_105 (RX9, TX9, 5) rfl gV_RX1_119 h202 (t_X9_letterOf h202 r_i216) rfl [] rfl rfl (Nat.le_of_ble_eq_true rfl) rfl (k_ip fun X333 r334 h335 => ?_)
            refine GO.iload_n dX1_numberOf_108 rfl rfl ?_
            refine GO.icmp_ne (tgt := 140) dX1_numberOf_109 (by decide) r334 r_p0 (fun c336 => ?_) (fun c336 => ?_)
            ·
              refine GO.iinc (X := i216) (n := (-1)) (Y := i216 + (-1)) (ls1 := [some (.ref x), some (ti p0), some (ti p1), some (ti p2), some (ti i5), some (.ref o201), some (ti (i216 + (-1))), some (ti z328)]) dX1_numberOf_140 rfl rfl rfl rfl ?_
              refine GO.goto (tgt := 53) dX1_numberOf_143 (by decide) ?_
              refine GO.drop [true, true, true, true, true, true, true, false] rfl ?_
              exact ih304 (i216 + (-1)) V ⟨by omega, by omega, rfl⟩ (by show ((i216 + (-1)) + 2147483648).toNat < (i216 + 2147483648).toNat; omega)
            ·
              refine GO.iload dX1_numberOf_112 rfl ?_
              refine GO.if_ne (tgt := 140) dX1_numberOf_114 (by decide) r332 (fun c337 => ?_) (fun c337 => ?_)
              ·
                refine GO.iinc (X := i216) (n := (-1)) (Y := i216 + (-1)) (ls1 := [some (.ref x), some (ti p0), some (ti p1), some (ti p2), some (ti i5), some (.ref o201), some (ti (i216 + (-1))), some (ti z328)]) dX1_numberOf_140 rfl rfl rfl rfl ?_
                refine GO.goto (tgt := 53) dX1_numberOf_143 (by decide) ?_
                refine GO.drop [true, true, true, true, true, true, true, false] rfl ?_
                exact ih304 (i216 + (-1)) V ⟨by omega, by omega, rfl⟩ (by show ((i216 + (-1)) + 2147483648).toNat < (i216 + 2147483648).toNat; omega)
              ·
                refine GO.aload_n dX1_numberOf_117 rfl rfl ?_
                refine GO.iload dX1_numberOf_118 rfl ?_
                refine GO.iload dX1_numberOf_120 rfl ?_
                refine GO.callV (ci := 1) (N := mX1_isCounting) dX1_numberOf_122 (RX1, TX1, 13) rfl gV_RX1_123 h_x (t_X1_isCounting h_x r_i5 r_i216) rfl [] rfl rfl (Nat.le_of_ble_eq_true rfl) rfl (k_ip fun X338 r339 h340 => ?_)
                refine GO.if_eq (tgt := 140) dX1_numberOf_125 (by decide) r339 (fun c341 => ?_) (fun c341 => ?_)
                ·
                  refine GO.iinc (X := i216) (n := (-1)) (Y := i216 + (-1)) (ls1 := [some (.ref x), some (ti p0), some (ti p1), some (ti p2), some (ti i5), some (.ref o201), some (ti (i216 + (-1))), some (ti z328)]) dX1_numberOf_140 rfl rfl rfl rfl ?_
                  refine GO.goto (tgt := 53) dX1_numberOf_143 (by decide) ?_
                  refine GO.drop [true, true, true, true, true, true, true, false] rfl ?_
                  exact ih304 (i216 + (-1)) V ⟨by omega, by omega, rfl⟩ (by show ((i216 + (-1)) + 2147483648).toNat < (i216 + 2147483648).toNat; omega)
                ·
                  refine GO.aload dX1_numberOf_128 rfl ?_
                  refine GO.getRaw h202 fl_RX1_102 hv213 dX1_numberOf_130 ?_
                  refine GO.iload dX1_numberOf_133 rfl ?_
                  refine GO.iconst dX1_numberOf_135 ?_
                  refine GO.callV (ci := 7) (N := mX8_get) dX1_numberOf_136 (RX8, TX8, 4) rfl gV_RX1_116 h212 (t_X8_get h212 r_i216 (ir_c rfl)) rfl [] rfl rfl (Nat.le_of_ble_eq_true rfl) rfl (k_ip fun X344 r345 h346 => ?_)
                  have q347 : -2147483648 ≤ X344 ∧ X344 ≤ 2147483647 := r345
                  exact GO.reti rfl rfl dX1_numberOf_139 ⟨rfl, rfl, _, rfl, r345, trivial⟩
          have hj369 : GO mX1_numberOf K V (IP K V (fun X => True)) K V 0 0 98 [some (.ref x), some (ti p0), some (ti p1), some (ti p2), some (ti i5), some (.ref o201), some (ti i216), none] [] := by
            skip
            refine GO.iconst dX1_numberOf_98 ?_
            exact hj329 0 (by omega) (by omega)
          refine GO.icmp_ne (tgt := 98) dX1_numberOf_61 (by decide) r_p0 (ir_c rfl) (fun c370 => ?_) (fun c370 => ?_)
          ·
            exact hj369 
          ·
            refine GO.aload dX1_numberOf_64 rfl ?_
            refine GO.getRaw h202 fl_RX1_102 hv213 dX1_numberOf_66 ?_
            refine GO.iload dX1_numberOf_69 rfl ?_
            refine GO.iconst dX1_numberOf_71 ?_
            refine GO.callV (ci := 7) (N := mX8_get) dX1_numberOf_72 (RX8, TX8, 4) rfl gV_RX1_116 h212 (t_X8_get h212 r_i216 (ir_c rfl)) rfl [] rfl rfl (Nat.le_of_ble_eq_true rfl) rfl (k_ip fun X373 r374 h375 => ?_)
            refine GO.iload_n dX1_numberOf_75 rfl rfl ?_
            have hj383 : GO mX1_numberOf K V (IP K V (fun X => True)) K V 0 0 94 [some (.ref x), some (ti p0), some (ti p1), some (ti p2), some (ti i5), some (.ref o201), some (ti i216), none] [] := by
              skip
              refine GO.iconst dX1_numberOf_94 ?_
              refine GO.goto (tgt := 99) dX1_numberOf_95 (by decide) ?_
              exact hj329 1 (by omega) (by omega)
            refine GO.icmp_ne (tgt := 94) dX1_numberOf_76 (by decide) r374 r_p1 (fun c384 => ?_) (fun c384 => ?_)
            ·
              exact hj383 
            ·
              refine GO.aload dX1_numberOf_79 rfl ?_
              refine GO.getRaw h202 fl_RX1_102 hv213 dX1_numberOf_81 ?_
              refine GO.iload dX1_numberOf_84 rfl ?_
              refine GO.iconst dX1_numberOf_86 ?_
              refine GO.callV (ci := 7) (N := mX8_get) dX1_numberOf_87 (RX8, TX8, 4) rfl gV_RX1_116 h212 (t_X8_get h212 r_i216 (ir_c rfl)) rfl [] rfl rfl (Nat.le_of_ble_eq_true rfl) rfl (k_ip fun X387 r388 h389 => ?_)
              refine GO.iload_n dX1_numberOf_90 rfl rfl ?_
              refine GO.icmp_eq (tgt := 98) dX1_numberOf_91 (by decide) r388 r_p2 (fun c390 => ?_) (fun c390 => ?_)
              ·
                exact hj369 
              ·
                exact hj383 
      ·
        refine GO.goto (tgt := 146) dX1_numberOf_38 (by decide) ?_
        refine GO.iinc (X := i5) (n := (-1)) (Y := i5 + (-1)) (ls1 := [some (.ref x), some (ti p0), some (ti p1), some (ti p2), some (ti (i5 + (-1))), some (.ref o201), none, none]) dX1_numberOf_146 rfl rfl rfl rfl ?_
        refine GO.goto (tgt := 8) dX1_numberOf_149 (by decide) ?_
        refine GO.drop [true, true, true, true, true, false, true, true] rfl ?_
        exact ih198 (i5 + (-1)) V ⟨by omega, by omega, rfl⟩ (by show ((i5 + (-1)) + 2147483648).toNat < (i5 + 2147483648).toNat; omega)

set_option maxHeartbeats 1000000 in
theorem t_X1_binds {K : Kmap} {V : Vmap} {x : Nat} {p0 : Int} {p1 : Nat} {p2 : Int} {p3 : Int} (h_x : K x = some (0, 1)) (r_p0 : ir p0) (h_p1 : K p1 = some (0, 2)) (r_p2 : ir p2) (r_p3 : ir p3) : MC mX1_binds K V [.ref x, ti p0, .ref p1, ti p2, ti p3] (IS K (fun X V1 => (X = 0 ∨ X = 1) ∧ (X ≠ 0 → True) ∧ (X = 0 → True))) := by
  refine MC.start 2 (by decide +kernel) rfl rfl rfl (ls0 := [some (.ref x), some (ti p0), some (.ref p1), some (ti p2), some (ti p3), none, none]) rfl ?_
  refine GO.aload_n dX1_binds_0 rfl rfl ?_
  refine GO.iload_n dX1_binds_1 rfl rfl ?_
  refine GO.callV (ci := 1) (N := mX1_textOf) dX1_binds_2 (RX1, TX1, 13) rfl gV_RX1_75 h_x (t_X1_textOf h_x r_p0) rfl [] rfl rfl (Nat.le_of_ble_eq_true rfl) rfl (k_rp (fun h3 => ?_) (fun o1 h2 h3 => ?_))
  ·
    refine GO.astoreN (ls1 := [some (.ref x), some (ti p0), some (.ref p1), some (ti p2), some (ti p3), some (.null), none]) dX1_binds_5 rfl rfl ?_
    refine GO.aloadN dX1_binds_7 rfl ?_
    refine GO.ifnullN (tgt := 21) dX1_binds_9 (by decide) ?_
    refine GO.iconst dX1_binds_21 ?_
    exact GO.retz rfl rfl dX1_binds_22 (Or.inl rfl) ⟨rfl, _, rfl, (ir_c rfl), ⟨Or.inl rfl, fun _ => trivial, fun _ => trivial⟩⟩
  ·
    refine GO.astore (ls1 := [some (.ref x), some (ti p0), some (.ref p1), some (ti p2), some (ti p3), some (.ref o1), none]) dX1_binds_5 rfl rfl ?_
    refine GO.aload dX1_binds_7 rfl ?_
    refine GO.ifnull dX1_binds_9 ?_
    refine GO.aload dX1_binds_12 rfl ?_
    refine GO.iload_n dX1_binds_14 rfl rfl ?_
    refine GO.callV (ci := 8) (N := mX9_isInForce) dX1_binds_15 (RX9, TX9, 5) rfl gV_RX1_79 h2 (t_X9_isInForce h2 r_p2) rfl [] rfl rfl (Nat.le_of_ble_eq_true rfl) rfl (k_ip fun X4 r5 h6 => ?_)
    refine GO.if_ne (tgt := 23) dX1_binds_18 (by decide) r5 (fun c7 => ?_) (fun c7 => ?_)
    ·
      refine GO.iload_n dX1_binds_23 rfl rfl ?_
      refine GO.if_ne (tgt := 29) dX1_binds_24 (by decide) r_p0 (fun c8 => ?_) (fun c8 => ?_)
      ·
        refine GO.aload_n dX1_binds_29 rfl rfl ?_
        refine GO.getB h_p1 fl_RX1_83 rfl rfl dX1_binds_30 (fun n11 hv10 h9 b12 => ?_)
        refine GO.iload_n dX1_binds_33 rfl rfl ?_
        refine GO.callS (N := mX4_get) dX1_binds_34 gS_RX1_88 (t_X4_get rfl h9 r_p0) rfl [] rfl rfl (Nat.le_of_ble_eq_true rfl) rfl (k_ip fun X13 r14 h15 => ?_)
        refine GO.istore (ls1 := [some (.ref x), some (ti p0), some (.ref p1), some (ti p2), some (ti p3), some (.ref o1), some (ti X13)]) dX1_binds_37 rfl rfl ?_
        refine GO.iload dX1_binds_39 rfl ?_
        refine GO.iconst dX1_binds_41 ?_
        refine GO.icmp_eq (tgt := 51) dX1_binds_42 (by decide) r14 (ir_c rfl) (fun c16 => ?_) (fun c16 => ?_)
        ·
          refine GO.iconst dX1_binds_51 ?_
          exact GO.retz rfl rfl dX1_binds_52 (Or.inl rfl) ⟨rfl, _, rfl, (ir_c rfl), ⟨Or.inl rfl, fun _ => trivial, fun _ => trivial⟩⟩
        ·
          refine GO.iload dX1_binds_45 rfl ?_
          refine GO.iload_n dX1_binds_47 rfl rfl ?_
          refine GO.icmp_le (tgt := 53) dX1_binds_48 (by decide) r14 r_p2 (fun c17 => ?_) (fun c17 => ?_)
          ·
            refine GO.aload_n dX1_binds_53 rfl rfl ?_
            refine GO.iload_n dX1_binds_54 rfl rfl ?_
            refine GO.iload dX1_binds_55 rfl ?_
            refine GO.callV (ci := 1) (N := mX1_weighTexts) dX1_binds_57 (RX1, TX1, 13) rfl gV_RX1_72 h_x (t_X1_weighTexts h_x r_p0 r_p3) rfl [] rfl rfl (Nat.le_of_ble_eq_true rfl) rfl (k_vs fun V20 h19 hF18 => ?_)
            refine GO.iload_n dX1_binds_60 rfl rfl ?_
            refine GO.iload dX1_binds_61 rfl ?_
            refine GO.isub dX1_binds_63 ?_
            refine GO.norm (fun z21 r22 _ => ?_)
            refine GO.aload_n dX1_binds_64 rfl rfl ?_
            refine GO.bipush dX1_binds_65 rfl ?_
            refine GO.iconst dX1_binds_67 ?_
            refine GO.iconst dX1_binds_68 ?_
            refine GO.callV (ci := 1) (N := mX1_numberOf) dX1_binds_69 (RX1, TX1, 13) rfl gV_RX1_94 h_x (t_X1_numberOf h_x (ir_c rfl) (ir_c rfl) (ir_c rfl)) rfl [ti z21] rfl rfl (Nat.le_of_ble_eq_true rfl) rfl (k_ip fun X23 r24 h25 => ?_)
            refine GO.icmp_lt (tgt := 79) dX1_binds_72 (by decide) r22 r24 (fun c26 => ?_) (fun c26 => ?_)
            ·
              refine GO.iconst dX1_binds_79 ?_
              exact GO.retz rfl rfl dX1_binds_80 (Or.inl rfl) ⟨rfl, _, rfl, (ir_c rfl), ⟨Or.inl rfl, fun _ => trivial, fun _ => trivial⟩⟩
            ·
              refine GO.iconst dX1_binds_75 ?_
              refine GO.goto (tgt := 80) dX1_binds_76 (by decide) ?_
              exact GO.retz rfl rfl dX1_binds_80 (Or.inr rfl) ⟨rfl, _, rfl, (ir_c rfl), ⟨Or.inr rfl, fun _ => trivial, fun _ => trivial⟩⟩
          ·
            refine GO.iconst dX1_binds_51 ?_
            exact GO.retz rfl rfl dX1_binds_52 (Or.inl rfl) ⟨rfl, _, rfl, (ir_c rfl), ⟨Or.inl rfl, fun _ => trivial, fun _ => trivial⟩⟩
      ·
        refine GO.iconst dX1_binds_27 ?_
        exact GO.retz rfl rfl dX1_binds_28 (Or.inr rfl) ⟨rfl, _, rfl, (ir_c rfl), ⟨Or.inr rfl, fun _ => trivial, fun _ => trivial⟩⟩
    ·
      refine GO.iconst dX1_binds_21 ?_
      exact GO.retz rfl rfl dX1_binds_22 (Or.inl rfl) ⟨rfl, _, rfl, (ir_c rfl), ⟨Or.inl rfl, fun _ => trivial, fun _ => trivial⟩⟩
