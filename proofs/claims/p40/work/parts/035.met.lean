def mX5_set : MRec := (RX5, cX5_set, 3, (none : Option Jvm.ClassFile.FieldType), yX5_set, 1, 25, 0, 0, 3794275180128377091639574036764685364535950857523710002444946112771297432041422848)
def mX5_refuse : MRec := (RX5, cX5_refuse, 3, (none : Option Jvm.ClassFile.FieldType), yX5_refuse, 0, 0, 0, 0, 13510798882111488)
def mX5_deepen : MRec := (RX5, cX5_deepen, 2, (none : Option Jvm.ClassFile.FieldType), yX5_deepen, 1, 22, 0, 0, 16888498602639360)
def mX5_isDigit : MRec := (RX5, cX5_isDigit, 1, (some .boolean), yX5_isDigit, 0, 0, 0, 0, 0)
def mX5_digits : MRec := (RX5, cX5_digits, 5, (some .int), yX5_digits, 1, 22, 0, 0, 14636698788954112)
def mX9_addStep : MRec := (RX9, cX9_addStep, 4, (some .int), yX9_addStep, 1, 22, 0, 0, 3794275180128377091639574036764685364535950857523710002454617519328214465439072256)
def mX5_factor_0 : MRec := (RX5, cX5_factor, 3, (none : Option Jvm.ClassFile.FieldType), yX5_factor, 0, 0, 0, 0, 0)
def mX5_isFactorSign : MRec := (RX5, cX5_isFactorSign, 1, (some .boolean), yX5_isFactorSign, 0, 0, 0, 0, 0)
def mX5_factors_0 : MRec := (RX5, cX5_factors, 3, (none : Option Jvm.ClassFile.FieldType), yX5_factors, 1, 22, 0, 0, 0)
def mX5_terms_0 : MRec := (RX5, cX5_terms, 3, (none : Option Jvm.ClassFile.FieldType), yX5_terms, 2, 44, 0, 0, 0)
def mX5_take : MRec := (RX5, cX5_take, 2, (none : Option Jvm.ClassFile.FieldType), yX5_take, 1, 22, 0, 0, 14636698788954112)
def mX5_factor_1 : MRec := (RX5, cX5_factor, 3, (none : Option Jvm.ClassFile.FieldType), yX5_factor, 6, 200, 0, 0, 3794275180128377091639574036764685364535950857523710002454617519345102964041711616)
def mX5_factors_1 : MRec := (RX5, cX5_factors, 3, (none : Option Jvm.ClassFile.FieldType), yX5_factors, 7, 222, 0, 0, 3794275180128377091639574036764685364535950857523710002454617519345102964041711616)
def mX5_terms_1 : MRec := (RX5, cX5_terms, 3, (none : Option Jvm.ClassFile.FieldType), yX5_terms, 8, 244, 0, 0, 3794275180128377091639574036764685364535950857523710002454617519345102964041711616)
set_option maxHeartbeats 1000000 in
theorem t_X5_set {K : Kmap} {V : Vmap} {x : Nat} {p0 : Int} {p1 : Int} (h_x : K x = some (0, 4)) (r_p0 : ir p0) (r_p1 : ir p1) : MC mX5_set K V [.ref x, ti p0, ti p1] (VS K (fun V1 => (True))) := by
  refine MC.start 0 (by decide +kernel) rfl rfl rfl (ls0 := [some (.ref x), some (ti p0), some (ti p1)]) rfl ?_
  refine GO.aload_n dX5_set_0 rfl rfl ?_
  refine GO.getR h_x fl_RX5_31 rfl rfl dX5_set_1 (fun hv2 h1 => ?_)
  refine GO.getR h1 fl_RX5_42 rfl rfl dX5_set_4 (fun hv4 h3 => ?_)
  refine GO.aload_n dX5_set_7 rfl rfl ?_
  refine GO.getRaw h_x fl_RX5_31 hv2 dX5_set_8 ?_
  refine GO.getRaw h1 fl_RX5_42 hv4 dX5_set_11 ?_
  refine GO.getI h3 fl_RX5_127 rfl rfl dX5_set_14 (fun _ _ => ?_)
  refine GO.iconst dX5_set_17 ?_
  refine GO.isub dX5_set_18 ?_
  refine GO.norm (fun z9 r10 _ => ?_)
  refine GO.iload_n dX5_set_19 rfl rfl ?_
  refine GO.iload_n dX5_set_20 rfl rfl ?_
  refine GO.callV (ci := 7) (N := mX8_put) dX5_set_21 (RX8, TX8, 4) rfl gV_RX5_130 h3 (t_X8_put h3 r10 r_p0 r_p1) rfl [] rfl rfl (Nat.le_of_ble_eq_true rfl) rfl (k_vs fun V13 h12 hF11 => ?_)
  exact GO.retv rfl rfl dX5_set_24 ⟨rfl, rfl, trivial⟩

set_option maxHeartbeats 1000000 in
theorem t_X5_refuse {K : Kmap} {V : Vmap} {x : Nat} {p0 : Int} {p1 : Int} (h_x : K x = some (0, 4)) (r_p0 : ir p0) (r_p1 : ir p1) (q_0 : p0 ≥ 1) : MC mX5_refuse K V [.ref x, ti p0, ti p1] (VS K (fun V1 => (vi V1 x 5 ≠ 0))) := by
  refine MC.start 0 (by decide +kernel) rfl rfl rfl (ls0 := [some (.ref x), some (ti p0), some (ti p1)]) rfl ?_
  refine GO.aload_n dX5_refuse_0 rfl rfl ?_
  refine GO.getI h_x fl_RX5_18 rfl rfl dX5_refuse_1 (fun _ _ => ?_)
  refine GO.if_ne (tgt := 17) dX5_refuse_4 (by decide) vi_ir (fun c1 => ?_) (fun c1 => ?_)
  ·
    have q2 : -2147483648 ≤ vi V x 5 ∧ vi V x 5 ≤ 2147483647 := vi_ir
    exact GO.retv rfl rfl dX5_refuse_17 ⟨rfl, rfl, by omega⟩
  ·
    refine GO.aload_n dX5_refuse_7 rfl rfl ?_
    refine GO.iload_n dX5_refuse_8 rfl rfl ?_
    refine GO.putI h_x fp_RX5_18 rfl (by decide +kernel) r_p0 (r_p0).1 (r_p0).2 dX5_refuse_9 (fun V4 e3 => ?_)
    refine GO.aload_n dX5_refuse_12 rfl rfl ?_
    refine GO.iload_n dX5_refuse_13 rfl rfl ?_
    refine GO.putI h_x fp_RX5_21 rfl (by decide +kernel) r_p1 (r_p1).1 (r_p1).2 dX5_refuse_14 (fun V6 e5 => ?_)
    have e8 : vi V4 x 5 = p0 := upd2_int e3 r_p0
    have e7 : vi V6 x 5 = vi V4 x 5 := vi_up e5 (Or.inr (by decide))
    have q9 : -2147483648 ≤ p0 ∧ p0 ≤ 2147483647 := r_p0
    exact GO.retv rfl rfl dX5_refuse_17 ⟨rfl, rfl, by omega⟩

set_option maxHeartbeats 1000000 in
theorem t_X5_deepen {K : Kmap} {V : Vmap} {x : Nat} {p0 : Int} (h_x : K x = some (0, 4)) (r_p0 : ir p0) (q_0 : vi V x 4 ≥ 0) (q_1 : vi V x 4 ≤ 8) : MC mX5_deepen K V [.ref x, ti p0] (VS K (fun V1 => ((vi V x 5 ≠ 0 → vi V1 x 5 ≠ 0) ∧ vi V1 x 4 = (vi V x 4 + 1) ∧ (vi V1 x 5 = 0 → vi V x 4 ≤ 7)))) := by
  refine MC.start 0 (by decide +kernel) rfl rfl rfl (ls0 := [some (.ref x), some (ti p0)]) rfl ?_
  refine GO.aload_n dX5_deepen_0 rfl rfl ?_
  refine GO.callV (ci := 4) (N := mX5_next) dX5_deepen_1 (RX5, TX5, 7) rfl gV_RX5_61 h_x (t_X5_next h_x) rfl [] rfl rfl (Nat.le_of_ble_eq_true rfl) rfl (k_ip fun X1 r2 h3 => ?_)
  refine GO.iload_n dX5_deepen_4 rfl rfl ?_
  refine GO.icmp_eq (tgt := 20) dX5_deepen_5 (by decide) r2 r_p0 (fun c4 => ?_) (fun c4 => ?_)
  ·
    refine GO.aload_n dX5_deepen_20 rfl rfl ?_
    refine GO.getI h_x fl_RX5_15 rfl rfl dX5_deepen_21 (fun _ _ => ?_)
    refine GO.bipush dX5_deepen_24 rfl ?_
    refine GO.icmp_lt (tgt := 41) dX5_deepen_26 (by decide) vi_ir (ir_c rfl) (fun c5 => ?_) (fun c5 => ?_)
    ·
      refine GO.aload_n dX5_deepen_41 rfl rfl ?_
      refine GO.dup dX5_deepen_42 rfl ?_
      refine GO.getI h_x fl_RX5_9 rfl rfl dX5_deepen_43 (fun _ _ => ?_)
      refine GO.iconst dX5_deepen_46 ?_
      refine GO.iadd dX5_deepen_47 ?_
      refine GO.norm (fun z6 r7 _ => ?_)
      refine GO.putI h_x fp_RX5_9 rfl (by decide +kernel) r7 (r7).1 (r7).2 dX5_deepen_48 (fun V9 e8 => ?_)
      refine GO.aload_n dX5_deepen_51 rfl rfl ?_
      refine GO.dup dX5_deepen_52 rfl ?_
      refine GO.getI h_x fl_RX5_15 rfl rfl dX5_deepen_53 (fun _ _ => ?_)
      have e10 : vi V9 x 4 = vi V x 4 := vi_up e8 (Or.inr (by decide))
      refine GO.iconst dX5_deepen_56 ?_
      refine GO.iadd dX5_deepen_57 ?_
      have q12 : -2147483648 ≤ vi V9 x 4 ∧ vi V9 x 4 ≤ 2147483647 := vi_ir
      have q13 : -2147483648 ≤ vi V x 4 ∧ vi V x 4 ≤ 2147483647 := vi_ir
      refine GO.putI h_x fp_RX5_15 rfl (by decide +kernel) ⟨by omega, by omega⟩ (by omega) (by omega) dX5_deepen_58 (fun V14 e11 => ?_)
      have q15 : -2147483648 ≤ vi V x 5 ∧ vi V x 5 ≤ 2147483647 := vi_ir
      have e17 : vi V9 x 5 = vi V x 5 := vi_up e8 (Or.inr (by decide))
      have e16 : vi V14 x 5 = vi V9 x 5 := vi_up e11 (Or.inr (by decide))
      have e18 : vi V14 x 4 = (vi V9 x 4) + 1 := upd2_int e11 ⟨by omega, by omega⟩
      exact GO.retv rfl rfl dX5_deepen_61 ⟨rfl, rfl, by omega⟩
    ·
      refine GO.aload_n dX5_deepen_29 rfl rfl ?_
      refine GO.iconst dX5_deepen_30 ?_
      refine GO.aload_n dX5_deepen_31 rfl rfl ?_
      refine GO.getI h_x fl_RX5_9 rfl rfl dX5_deepen_32 (fun _ _ => ?_)
      refine GO.callV (ci := 4) (N := mX5_refuse) dX5_deepen_35 (RX5, TX5, 7) rfl gV_RX5_57 h_x (t_X5_refuse h_x (ir_c rfl) vi_ir (by omega)) rfl [] rfl rfl (Nat.le_of_ble_eq_true rfl) rfl (k_vs fun V21 h20 hF19 => ?_)
      refine GO.goto (tgt := 51) dX5_deepen_38 (by decide) ?_
      refine GO.aload_n dX5_deepen_51 rfl rfl ?_
      refine GO.dup dX5_deepen_52 rfl ?_
      refine GO.getI h_x fl_RX5_15 rfl rfl dX5_deepen_53 (fun _ _ => ?_)
      have e23 : vi V21 x 4 = vi V x 4 := vi_fr hF19 h_x h_x (by decide +kernel)
      refine GO.iconst dX5_deepen_56 ?_
      refine GO.iadd dX5_deepen_57 ?_
      have q25 : -2147483648 ≤ vi V21 x 4 ∧ vi V21 x 4 ≤ 2147483647 := vi_ir
      have q26 : -2147483648 ≤ vi V x 4 ∧ vi V x 4 ≤ 2147483647 := vi_ir
      refine GO.putI h_x fp_RX5_15 rfl (by decide +kernel) ⟨by omega, by omega⟩ (by omega) (by omega) dX5_deepen_58 (fun V27 e24 => ?_)
      have q28 : -2147483648 ≤ vi V x 5 ∧ vi V x 5 ≤ 2147483647 := vi_ir
      have e29 : vi V27 x 5 = vi V21 x 5 := vi_up e24 (Or.inr (by decide))
      have q30 : -2147483648 ≤ vi V21 x 5 ∧ vi V21 x 5 ≤ 2147483647 := vi_ir
      have e31 : vi V27 x 4 = (vi V21 x 4) + 1 := upd2_int e24 ⟨by omega, by omega⟩
      exact GO.retv rfl rfl dX5_deepen_61 ⟨rfl, rfl, by omega⟩
  ·
    refine GO.aload_n dX5_deepen_8 rfl rfl ?_
    refine GO.iconst dX5_deepen_9 ?_
    refine GO.aload_n dX5_deepen_10 rfl rfl ?_
    refine GO.getI h_x fl_RX5_9 rfl rfl dX5_deepen_11 (fun _ _ => ?_)
    refine GO.callV (ci := 4) (N := mX5_refuse) dX5_deepen_14 (RX5, TX5, 7) rfl gV_RX5_57 h_x (t_X5_refuse h_x (ir_c rfl) vi_ir (by omega)) rfl [] rfl rfl (Nat.le_of_ble_eq_true rfl) rfl (k_vs fun V34 h33 hF32 => ?_)
    refine GO.goto (tgt := 51) dX5_deepen_17 (by decide) ?_
    refine GO.aload_n dX5_deepen_51 rfl rfl ?_
    refine GO.dup dX5_deepen_52 rfl ?_
    refine GO.getI h_x fl_RX5_15 rfl rfl dX5_deepen_53 (fun _ _ => ?_)
    have e36 : vi V34 x 4 = vi V x 4 := vi_fr hF32 h_x h_x (by decide +kernel)
    refine GO.iconst dX5_deepen_56 ?_
    refine GO.iadd dX5_deepen_57 ?_
    have q38 : -2147483648 ≤ vi V34 x 4 ∧ vi V34 x 4 ≤ 2147483647 := vi_ir
    have q39 : -2147483648 ≤ vi V x 4 ∧ vi V x 4 ≤ 2147483647 := vi_ir
    refine GO.putI h_x fp_RX5_15 rfl (by decide +kernel) ⟨by omega, by omega⟩ (by omega) (by omega) dX5_deepen_58 (fun V40 e37 => ?_)
    have q41 : -2147483648 ≤ vi V x 5 ∧ vi V x 5 ≤ 2147483647 := vi_ir
    have e42 : vi V40 x 5 = vi V34 x 5 := vi_up e37 (Or.inr (by decide))
    have q43 : -2147483648 ≤ vi V34 x 5 ∧ vi V34 x 5 ≤ 2147483647 := vi_ir
    have e44 : vi V40 x 4 = (vi V34 x 4) + 1 := upd2_int e37 ⟨by omega, by omega⟩
    exact GO.retv rfl rfl dX5_deepen_61 ⟨rfl, rfl, by omega⟩

set_option maxHeartbeats 1000000 in
theorem t_X5_isDigit {K : Kmap} {V : Vmap} {p0 : Int} (r_p0 : ir p0) : MC mX5_isDigit K V [ti p0] (IP K V (fun X => (X = 0 ∨ X = 1) ∧ (X ≠ 0 → True) ∧ (X = 0 → True))) := by
  refine MC.start 0 (by decide +kernel) rfl rfl rfl (ls0 := [some (ti p0)]) rfl ?_
  refine GO.iload_n dX5_isDigit_0 rfl rfl ?_
  refine GO.bipush dX5_isDigit_1 rfl ?_
  refine GO.icmp_lt (tgt := 16) dX5_isDigit_3 (by decide) r_p0 (ir_c rfl) (fun c1 => ?_) (fun c1 => ?_)
  ·
    refine GO.iconst dX5_isDigit_16 ?_
    exact GO.retz rfl rfl dX5_isDigit_17 (Or.inl rfl) ⟨rfl, rfl, _, rfl, (ir_c rfl), ⟨Or.inl rfl, fun _ => trivial, fun _ => trivial⟩⟩
  ·
    refine GO.iload_n dX5_isDigit_6 rfl rfl ?_
    refine GO.bipush dX5_isDigit_7 rfl ?_
    refine GO.icmp_gt (tgt := 16) dX5_isDigit_9 (by decide) r_p0 (ir_c rfl) (fun c2 => ?_) (fun c2 => ?_)
    ·
      refine GO.iconst dX5_isDigit_16 ?_
      exact GO.retz rfl rfl dX5_isDigit_17 (Or.inl rfl) ⟨rfl, rfl, _, rfl, (ir_c rfl), ⟨Or.inl rfl, fun _ => trivial, fun _ => trivial⟩⟩
    ·
      refine GO.iconst dX5_isDigit_12 ?_
      refine GO.goto (tgt := 17) dX5_isDigit_13 (by decide) ?_
      exact GO.retz rfl rfl dX5_isDigit_17 (Or.inr rfl) ⟨rfl, rfl, _, rfl, (ir_c rfl), ⟨Or.inr rfl, fun _ => trivial, fun _ => trivial⟩⟩

set_option maxHeartbeats 1000000 in
theorem t_X5_digits {K : Kmap} {V : Vmap} {x : Nat} {p0 : Int} (h_x : K x = some (0, 4)) (r_p0 : ir p0) : MC mX5_digits K V [.ref x, ti p0] (IS K (fun X V1 => (vi V x 5 ≠ 0 → vi V1 x 5 ≠ 0))) := by
  refine MC.start 3 (by decide +kernel) rfl rfl rfl (ls0 := [some (.ref x), some (ti p0), none, none, none]) rfl ?_
  refine GO.aload_n dX5_digits_0 rfl rfl ?_
  refine GO.getI h_x fl_RX5_9 rfl rfl dX5_digits_1 (fun _ _ => ?_)
  refine GO.name (fun z1 hz2 => ?_)
  have r3 : ir z1 := hz2 ▸ vi_ir
  refine GO.istore_n (ls1 := [some (.ref x), some (ti p0), some (ti z1), none, none]) dX5_digits_4 rfl rfl rfl ?_
  refine GO.iconst dX5_digits_5 ?_
  refine GO.istore_n (ls1 := [some (.ref x), some (ti p0), some (ti z1), some (ti 0), none]) dX5_digits_6 rfl rfl rfl ?_
  refine GO.iconst dX5_digits_7 ?_
  refine GO.istore (ls1 := [some (.ref x), some (ti p0), some (ti z1), some (ti 0), some (ti 0)]) dX5_digits_8 rfl rfl ?_
  have q6 : -2147483648 ≤ vi V x 5 ∧ vi V x 5 ≤ 2147483647 := vi_ir
  refine GO.loop2 (fun i4 i5 W => (-2147483648) ≤ i4 ∧ i4 ≤ 2147483647 ∧ 0 ≤ i5 ∧ i5 ≤ 6 ∧ ((vi V x 5 ≠ 0 → vi W x 5 ≠ 0)) ∧ True) (fun i4 i5 => [some (.ref x), some (ti p0), some (ti z1), some (ti i4), some (ti i5)]) (fun i4 i5 W => (2147483647 - i5).toNat) 0 0 ⟨by omega, by omega, by omega, by omega, by omega, trivial⟩ rfl (fun i4 i5 Wi4 hp1914 ih1913 => ?_)
  obtain ⟨l_i4, u_i4, l_i5, u_i5, n_i4, -⟩ := hp1914
  have r_i4 : ir i4 := ⟨by omega, by omega⟩
  have r_i5 : ir i5 := ⟨by omega, by omega⟩
  show GO mX5_digits K V (IS K (fun X V1 => (vi V x 5 ≠ 0 → vi V1 x 5 ≠ 0))) K Wi4 0 0 10 [some (.ref x), some (ti p0), some (ti z1), some (ti i4), some (ti i5)] []
  refine GO.iload dX5_digits_10 rfl ?_
  refine GO.bipush dX5_digits_12 rfl ?_
  have hj1943 : GO mX5_digits K V (IS K (fun X V1 => (vi V x 5 ≠ 0 → vi V1 x 5 ≠ 0))) K Wi4 0 0 81 [some (.ref x), some (ti p0), some (ti z1), some (ti i4), some (ti i5)] [] := by
    skip
    refine GO.aload_n dX5_digits_81 rfl rfl ?_
    refine GO.getI h_x fl_RX5_9 rfl rfl dX5_digits_82 (fun _ _ => ?_)
    refine GO.iload_n dX5_digits_85 rfl rfl ?_
    refine GO.icmp_ne (tgt := 101) dX5_digits_86 (by decide) vi_ir r3 (fun c1944 => ?_) (fun c1944 => ?_)
    ·
      refine GO.iload_n dX5_digits_101 rfl rfl ?_
      refine GO.iload_n dX5_digits_102 rfl rfl ?_
      refine GO.icmp_le (tgt := 112) dX5_digits_103 (by decide) r_i4 r_p0 (fun c1945 => ?_) (fun c1945 => ?_)
      ·
        refine GO.iload_n dX5_digits_112 rfl rfl ?_
        have q1946 : -2147483648 ≤ p0 ∧ p0 ≤ 2147483647 := r_p0
        have q1947 : -2147483648 ≤ vi Wi4 x 5 ∧ vi Wi4 x 5 ≤ 2147483647 := vi_ir
        exact GO.reti rfl rfl dX5_digits_113 ⟨rfl, _, rfl, r_i4, by omega⟩
      ·
        refine GO.aload_n dX5_digits_106 rfl rfl ?_
        refine GO.iconst dX5_digits_107 ?_
        refine GO.iload_n dX5_digits_108 rfl rfl ?_
        refine GO.callV (ci := 4) (N := mX5_refuse) dX5_digits_109 (RX5, TX5, 7) rfl gV_RX5_57 h_x (t_X5_refuse h_x (ir_c rfl) r3 (by omega)) rfl [] rfl rfl (Nat.le_of_ble_eq_true rfl) rfl (k_vs fun V1950 h1949 hF1948 => ?_)
        refine GO.iload_n dX5_digits_112 rfl rfl ?_
        have q1952 : -2147483648 ≤ p0 ∧ p0 ≤ 2147483647 := r_p0
        have q1953 : -2147483648 ≤ vi V1950 x 5 ∧ vi V1950 x 5 ≤ 2147483647 := vi_ir
        exact GO.reti rfl rfl dX5_digits_113 ⟨rfl, _, rfl, r_i4, by omega⟩
    ·
      refine GO.aload_n dX5_digits_89 rfl rfl ?_
      refine GO.iconst dX5_digits_90 ?_
      refine GO.aload_n dX5_digits_91 rfl rfl ?_
      refine GO.getI h_x fl_RX5_9 rfl rfl dX5_digits_92 (fun _ _ => ?_)
      refine GO.callV (ci := 4) (N := mX5_refuse) dX5_digits_95 (RX5, TX5, 7) rfl gV_RX5_57 h_x (t_X5_refuse h_x (ir_c rfl) vi_ir (by omega)) rfl [] rfl rfl (Nat.le_of_ble_eq_true rfl) rfl (k_vs fun V1956 h1955 hF1954 => ?_)
      refine GO.goto (tgt := 112) dX5_digits_98 (by decide) ?_
      refine GO.iload_n dX5_digits_112 rfl rfl ?_
      have q1958 : -2147483648 ≤ vi V1956 x 5 ∧ vi V1956 x 5 ≤ 2147483647 := vi_ir
      exact GO.reti rfl rfl dX5_digits_113 ⟨rfl, _, rfl, r_i4, by omega⟩
  refine GO.icmp_gt (tgt := 81) dX5_digits_14 (by decide) r_i5 (ir_c rfl) (fun h => by exfalso; omega) (fun c1959 => ?_)
  refine GO.aload_n dX5_digits_17 rfl rfl ?_
  refine GO.getI h_x fl_RX5_18 rfl rfl dX5_digits_18 (fun _ _ => ?_)
  refine GO.if_ne (tgt := 81) dX5_digits_21 (by decide) vi_ir (fun c1960 => ?_) (fun c1960 => ?_)
  ·
    exact hj1943 
  ·
    refine GO.aload_n dX5_digits_24 rfl rfl ?_
    refine GO.callV (ci := 4) (N := mX5_next) dX5_digits_25 (RX5, TX5, 7) rfl gV_RX5_61 h_x (t_X5_next h_x) rfl [] rfl rfl (Nat.le_of_ble_eq_true rfl) rfl (k_ip fun X1961 r1962 h1963 => ?_)
    refine GO.callS (N := mX5_isDigit) dX5_digits_28 gS_RX5_124 (t_X5_isDigit r1962) rfl [] rfl rfl (Nat.le_of_ble_eq_true rfl) rfl (k_ip fun X1964 r1965 h1966 => ?_)
    refine GO.if_eq (tgt := 81) dX5_digits_31 (by decide) r1965 (fun c1967 => ?_) (fun c1967 => ?_)
    ·
      exact hj1943 
    ·
      refine GO.iload dX5_digits_34 rfl ?_
      refine GO.bipush dX5_digits_36 rfl ?_
      refine GO.icmp_ne (tgt := 52) dX5_digits_38 (by decide) r_i5 (ir_c rfl) (fun c1968 => ?_) (fun c1968 => ?_)
      ·
        refine GO.bipush dX5_digits_52 rfl ?_
        refine GO.iload_n dX5_digits_54 rfl rfl ?_
        refine GO.imul dX5_digits_55 ?_
        refine GO.norm (fun z1969 r1970 _ => ?_)
        refine GO.aload_n dX5_digits_56 rfl rfl ?_
        refine GO.callV (ci := 4) (N := mX5_next) dX5_digits_57 (RX5, TX5, 7) rfl gV_RX5_61 h_x (t_X5_next h_x) rfl [ti z1969] rfl rfl (Nat.le_of_ble_eq_true rfl) rfl (k_ip fun X1971 r1972 h1973 => ?_)
        refine GO.iadd dX5_digits_60 ?_
        refine GO.norm (fun z1974 r1975 _ => ?_)
        refine GO.bipush dX5_digits_61 rfl ?_
        refine GO.isub dX5_digits_63 ?_
        refine GO.norm (fun z1976 r1977 _ => ?_)
        refine GO.istore_n (ls1 := [some (.ref x), some (ti p0), some (ti z1), some (ti z1976), some (ti i5)]) dX5_digits_64 rfl rfl rfl ?_
        refine GO.aload_n dX5_digits_65 rfl rfl ?_
        refine GO.dup dX5_digits_66 rfl ?_
        refine GO.getI h_x fl_RX5_9 rfl rfl dX5_digits_67 (fun _ _ => ?_)
        refine GO.iconst dX5_digits_70 ?_
        refine GO.iadd dX5_digits_71 ?_
        refine GO.norm (fun z1978 r1979 _ => ?_)
        refine GO.putI h_x fp_RX5_9 rfl (by decide +kernel) r1979 (r1979).1 (r1979).2 dX5_digits_72 (fun V1981 e1980 => ?_)
        refine GO.iinc (X := i5) (n := 1) (Y := i5 + 1) (ls1 := [some (.ref x), some (ti p0), some (ti z1), some (ti z1976), some (ti (i5 + 1))]) dX5_digits_75 rfl rfl rfl rfl ?_
        refine GO.goto (tgt := 10) dX5_digits_78 (by decide) ?_
        have q1982 : -2147483648 ≤ z1976 ∧ z1976 ≤ 2147483647 := r1977
        have e1983 : vi V1981 x 5 = vi Wi4 x 5 := vi_up e1980 (Or.inr (by decide))
        have q1984 : -2147483648 ≤ vi Wi4 x 5 ∧ vi Wi4 x 5 ≤ 2147483647 := vi_ir
        exact ih1913 z1976 (i5 + 1) V1981 ⟨by omega, by omega, by omega, by omega, by omega, trivial⟩ (by show (2147483647 - (i5 + 1)).toNat < (2147483647 - i5).toNat; omega)
      ·
        refine GO.aload_n dX5_digits_41 rfl rfl ?_
        refine GO.iconst dX5_digits_42 ?_
        refine GO.aload_n dX5_digits_43 rfl rfl ?_
        refine GO.getI h_x fl_RX5_9 rfl rfl dX5_digits_44 (fun _ _ => ?_)
        refine GO.callV (ci := 4) (N := mX5_refuse) dX5_digits_47 (RX5, TX5, 7) rfl gV_RX5_57 h_x (t_X5_refuse h_x (ir_c rfl) vi_ir (by omega)) rfl [] rfl rfl (Nat.le_of_ble_eq_true rfl) rfl (k_vs fun V1987 h1986 hF1985 => ?_)
        refine GO.iconst dX5_digits_50 ?_
        have q1989 : -2147483648 ≤ vi V1987 x 5 ∧ vi V1987 x 5 ≤ 2147483647 := vi_ir
        exact GO.reti rfl rfl dX5_digits_51 ⟨rfl, _, rfl, (ir_c rfl), by omega⟩

set_option maxHeartbeats 1000000 in
theorem t_X9_addStep {K : Kmap} {V : Vmap} {x : Nat} {p0 : Int} {p1 : Int} (h_x : K x = some (0, 8)) (r_p0 : ir p0) (r_p1 : ir p1) : MC mX9_addStep K V [.ref x, ti p0, ti p1] (IS K (fun X V1 => True)) := by
  refine MC.start 1 (by decide +kernel) rfl rfl rfl (ls0 := [some (.ref x), some (ti p0), some (ti p1), none]) rfl ?_
  refine GO.aload_n dX9_addStep_0 rfl rfl ?_
  refine GO.getI h_x fl_RX9_9 rfl rfl dX9_addStep_1 (fun _ _ => ?_)
  refine GO.name (fun z1 hz2 => ?_)
  have r3 : ir z1 := hz2 ▸ vi_ir
  refine GO.istore_n (ls1 := [some (.ref x), some (ti p0), some (ti p1), some (ti z1)]) dX9_addStep_4 rfl rfl rfl ?_
  refine GO.aload_n dX9_addStep_5 rfl rfl ?_
  refine GO.getB h_x fl_RX9_36 rfl rfl dX9_addStep_6 (fun n6 hv5 h4 b7 => ?_)
  refine GO.iload_n dX9_addStep_9 rfl rfl ?_
  refine GO.iload_n dX9_addStep_10 rfl rfl ?_
  refine GO.iconst dX9_addStep_11 ?_
  refine GO.ishl dX9_addStep_12 ?_
  refine GO.iload_n dX9_addStep_13 rfl rfl ?_
  refine GO.ior dX9_addStep_14 ?_
  refine GO.callS (N := mX4_put) dX9_addStep_15 gS_RX9_47 (t_X4_put h4 r3 wor_ir) rfl [] rfl rfl (Nat.le_of_ble_eq_true rfl) rfl (k_vs fun V10 h9 hF8 => ?_)
  refine GO.aload_n dX9_addStep_18 rfl rfl ?_
  refine GO.dup dX9_addStep_19 rfl ?_
  refine GO.getI h_x fl_RX9_9 rfl rfl dX9_addStep_20 (fun _ _ => ?_)
  have e11 : vi V10 x 4 = vi V x 4 := vi_fr hF8 h_x h_x (by decide +kernel)
  refine GO.iconst dX9_addStep_23 ?_
  refine GO.iadd dX9_addStep_24 ?_
  refine GO.norm (fun z12 r13 _ => ?_)
  refine GO.putI h_x fp_RX9_9 rfl (by decide +kernel) r13 (r13).1 (r13).2 dX9_addStep_25 (fun V15 e14 => ?_)
  refine GO.iload_n dX9_addStep_28 rfl rfl ?_
  have q16 : -2147483648 ≤ z1 ∧ z1 ≤ 2147483647 := r3
  have q17 : -2147483648 ≤ vi V x 4 ∧ vi V x 4 ≤ 2147483647 := vi_ir
  have q18 : -2147483648 ≤ vi V10 x 4 ∧ vi V10 x 4 ≤ 2147483647 := vi_ir
  exact GO.reti rfl rfl dX9_addStep_29 ⟨rfl, _, rfl, r3, trivial⟩

set_option maxHeartbeats 1000000 in
theorem t_X5_factor_0_F {K : Kmap} {V : Vmap} {x : Nat} (h_x : K x = some (0, 4)) (q_0 : vi V x 5 ≠ 0) : MC mX5_factor_0 K V [.ref x] (VS K (fun V1 => (vi V1 x 4 = vi V x 4 ∧ (vi V x 5 ≠ 0 → vi V1 x 5 ≠ 0)))) := by
  refine MC.start 2 (by decide +kernel) rfl rfl rfl (ls0 := [some (.ref x), none, none]) rfl ?_
  refine GO.aload_n dX5_factor_0 rfl rfl ?_
  refine GO.getI h_x fl_RX5_18 rfl rfl dX5_factor_1 (fun _ _ => ?_)
  have q2 : -2147483648 ≤ vi V x 5 ∧ vi V x 5 ≤ 2147483647 := vi_ir
  refine GO.if_eq (tgt := 8) dX5_factor_4 (by decide) vi_ir (fun h => by exfalso; omega) (fun c1 => ?_)
  have q3 : -2147483648 ≤ vi V x 4 ∧ vi V x 4 ≤ 2147483647 := vi_ir
  exact GO.retv rfl rfl dX5_factor_7 ⟨rfl, rfl, by omega⟩

theorem t_X5_factor_0 {K : Kmap} {V : Vmap} {x : Nat} (h_x : K x = some (0, 4)) (q_0 : vi V x 5 ≠ 0) : MC mX5_factor_0 K V [.ref x] (VS K (fun V1 => (vi V1 x 4 = vi V x 4 ∧ (vi V x 5 ≠ 0 → vi V1 x 5 ≠ 0)))) := by
  exact t_X5_factor_0_F h_x (by omega)

set_option maxHeartbeats 1000000 in
theorem t_X5_isFactorSign {K : Kmap} {V : Vmap} {p0 : Int} (r_p0 : ir p0) : MC mX5_isFactorSign K V [ti p0] (IP K V (fun X => (X = 0 ∨ X = 1) ∧ (X ≠ 0 → True) ∧ (X = 0 → True))) := by
  refine MC.start 0 (by decide +kernel) rfl rfl rfl (ls0 := [some (ti p0)]) rfl ?_
  refine GO.iload_n dX5_isFactorSign_0 rfl rfl ?_
  refine GO.bipush dX5_isFactorSign_1 rfl ?_
  refine GO.icmp_eq (tgt := 18) dX5_isFactorSign_3 (by decide) r_p0 (ir_c rfl) (fun c1 => ?_) (fun c1 => ?_)
  ·
    refine GO.iconst dX5_isFactorSign_18 ?_
    refine GO.goto (tgt := 23) dX5_isFactorSign_19 (by decide) ?_
    exact GO.retz rfl rfl dX5_isFactorSign_23 (Or.inr rfl) ⟨rfl, rfl, _, rfl, (ir_c rfl), ⟨Or.inr rfl, fun _ => trivial, fun _ => trivial⟩⟩
  ·
    refine GO.iload_n dX5_isFactorSign_6 rfl rfl ?_
    refine GO.bipush dX5_isFactorSign_7 rfl ?_
    refine GO.icmp_eq (tgt := 18) dX5_isFactorSign_9 (by decide) r_p0 (ir_c rfl) (fun c2 => ?_) (fun c2 => ?_)
    ·
      refine GO.iconst dX5_isFactorSign_18 ?_
      refine GO.goto (tgt := 23) dX5_isFactorSign_19 (by decide) ?_
      exact GO.retz rfl rfl dX5_isFactorSign_23 (Or.inr rfl) ⟨rfl, rfl, _, rfl, (ir_c rfl), ⟨Or.inr rfl, fun _ => trivial, fun _ => trivial⟩⟩
    ·
      refine GO.iload_n dX5_isFactorSign_12 rfl rfl ?_
      refine GO.bipush dX5_isFactorSign_13 rfl ?_
      refine GO.icmp_ne (tgt := 22) dX5_isFactorSign_15 (by decide) r_p0 (ir_c rfl) (fun c3 => ?_) (fun c3 => ?_)
      ·
        refine GO.iconst dX5_isFactorSign_22 ?_
        exact GO.retz rfl rfl dX5_isFactorSign_23 (Or.inl rfl) ⟨rfl, rfl, _, rfl, (ir_c rfl), ⟨Or.inl rfl, fun _ => trivial, fun _ => trivial⟩⟩
      ·
        refine GO.iconst dX5_isFactorSign_18 ?_
        refine GO.goto (tgt := 23) dX5_isFactorSign_19 (by decide) ?_
        exact GO.retz rfl rfl dX5_isFactorSign_23 (Or.inr rfl) ⟨rfl, rfl, _, rfl, (ir_c rfl), ⟨Or.inr rfl, fun _ => trivial, fun _ => trivial⟩⟩

set_option maxHeartbeats 1000000 in
theorem t_X5_factors_0_F {K : Kmap} {V : Vmap} {x : Nat} (h_x : K x = some (0, 4)) (q_0 : vi V x 5 ≠ 0) : MC mX5_factors_0 K V [.ref x] (VS K (fun V1 => (vi V1 x 4 = vi V x 4 ∧ (vi V x 5 ≠ 0 → vi V1 x 5 ≠ 0)))) := by
  refine MC.start 2 (by decide +kernel) rfl rfl rfl (ls0 := [some (.ref x), none, none]) rfl ?_
  refine GO.aload_n dX5_factors_0 rfl rfl ?_
  have q1 : -2147483648 ≤ vi V x 5 ∧ vi V x 5 ≤ 2147483647 := vi_ir
  refine GO.callV (ci := 4) (N := mX5_factor_0) dX5_factors_1 (RX5, TX5, 7) rfl gV_RX5_111 h_x (t_X5_factor_0 h_x (by omega)) rfl [] rfl rfl (Nat.le_of_ble_eq_true rfl) rfl (k_vs fun V4 h3 hF2 => ?_)
  have e5 : vi V4 x 4 = vi V x 4 := vi_fr hF2 h_x h_x (by decide +kernel)
  have e6 : vi V4 x 5 = vi V x 5 := vi_fr hF2 h_x h_x (by decide +kernel)
  refine GO.iconst dX5_factors_4 ?_
  refine GO.istore_n (ls1 := [some (.ref x), some (ti 0), none]) dX5_factors_5 rfl rfl rfl ?_
  have q8 : -2147483648 ≤ vi V x 4 ∧ vi V x 4 ≤ 2147483647 := vi_ir
  refine GO.loop1 (fun i7 W => 0 ≤ i7 ∧ i7 ≤ 0 ∧ (vi W x 4 = vi V4 x 4 ∧ (vi V4 x 5 ≠ 0 → vi W x 5 ≠ 0)) ∧ True) (fun i7 => [some (.ref x), some (ti i7), none]) (fun i7 W => (2147483647 - i7).toNat) 0 ⟨by omega, by omega, by omega, trivial⟩ rfl (fun i7 Wi7 hp14 ih13 => ?_)
  obtain ⟨l_i7, u_i7, n_i7, -⟩ := hp14
  have r_i7 : ir i7 := ⟨by omega, by omega⟩
  show GO mX5_factors_0 K V (VS K (fun V1 => (vi V1 x 4 = vi V x 4 ∧ (vi V x 5 ≠ 0 → vi V1 x 5 ≠ 0)))) K Wi7 0 0 6 [some (.ref x), some (ti i7), none] []
  refine GO.iload_n dX5_factors_6 rfl rfl ?_
  refine GO.sipush dX5_factors_7 rfl ?_
  refine GO.icmp_ge (tgt := 91) dX5_factors_10 (by decide) r_i7 (ir_c rfl) (fun h => by exfalso; omega) (fun c15 => ?_)
  refine GO.aload_n dX5_factors_13 rfl rfl ?_
  refine GO.getI h_x fl_RX5_18 rfl rfl dX5_factors_14 (fun _ _ => ?_)
  have q17 : -2147483648 ≤ vi Wi7 x 5 ∧ vi Wi7 x 5 ≤ 2147483647 := vi_ir
  refine GO.if_ne (tgt := 91) dX5_factors_17 (by decide) vi_ir (fun c16 => ?_) (fun h => by exfalso; omega)
  have q18 : -2147483648 ≤ vi Wi7 x 4 ∧ vi Wi7 x 4 ≤ 2147483647 := vi_ir
  exact GO.retv rfl rfl dX5_factors_91 ⟨rfl, rfl, by omega⟩

theorem t_X5_factors_0 {K : Kmap} {V : Vmap} {x : Nat} (h_x : K x = some (0, 4)) (q_0 : vi V x 5 ≠ 0) : MC mX5_factors_0 K V [.ref x] (VS K (fun V1 => (vi V1 x 4 = vi V x 4 ∧ (vi V x 5 ≠ 0 → vi V1 x 5 ≠ 0)))) := by
  exact t_X5_factors_0_F h_x (by omega)

set_option maxHeartbeats 1000000 in
theorem t_X5_terms_0_F {K : Kmap} {V : Vmap} {x : Nat} (h_x : K x = some (0, 4)) (q_0 : vi V x 5 ≠ 0) : MC mX5_terms_0 K V [.ref x] (VS K (fun V1 => (vi V1 x 4 = vi V x 4 ∧ (vi V x 5 ≠ 0 → vi V1 x 5 ≠ 0)))) := by
  refine MC.start 2 (by decide +kernel) rfl rfl rfl (ls0 := [some (.ref x), none, none]) rfl ?_
  refine GO.aload_n dX5_terms_0 rfl rfl ?_
  have q1 : -2147483648 ≤ vi V x 5 ∧ vi V x 5 ≤ 2147483647 := vi_ir
  refine GO.callV (ci := 4) (N := mX5_factors_0) dX5_terms_1 (RX5, TX5, 7) rfl gV_RX5_108 h_x (t_X5_factors_0 h_x (by omega)) rfl [] rfl rfl (Nat.le_of_ble_eq_true rfl) rfl (k_vs fun V4 h3 hF2 => ?_)
  have e5 : vi V4 x 4 = vi V x 4 := vi_fr hF2 h_x h_x (by decide +kernel)
  have e6 : vi V4 x 5 = vi V x 5 := vi_fr hF2 h_x h_x (by decide +kernel)
  refine GO.iconst dX5_terms_4 ?_
  refine GO.istore_n (ls1 := [some (.ref x), some (ti 0), none]) dX5_terms_5 rfl rfl rfl ?_
  have q8 : -2147483648 ≤ vi V x 4 ∧ vi V x 4 ≤ 2147483647 := vi_ir
  refine GO.loop1 (fun i7 W => 0 ≤ i7 ∧ i7 ≤ 0 ∧ (vi W x 4 = vi V4 x 4 ∧ (vi V4 x 5 ≠ 0 → vi W x 5 ≠ 0)) ∧ True) (fun i7 => [some (.ref x), some (ti i7), none]) (fun i7 W => (2147483647 - i7).toNat) 0 ⟨by omega, by omega, by omega, trivial⟩ rfl (fun i7 Wi7 hp14 ih13 => ?_)
  obtain ⟨l_i7, u_i7, n_i7, -⟩ := hp14
  have r_i7 : ir i7 := ⟨by omega, by omega⟩
  show GO mX5_terms_0 K V (VS K (fun V1 => (vi V1 x 4 = vi V x 4 ∧ (vi V x 5 ≠ 0 → vi V1 x 5 ≠ 0)))) K Wi7 0 0 6 [some (.ref x), some (ti i7), none] []
  refine GO.iload_n dX5_terms_6 rfl rfl ?_
  refine GO.sipush dX5_terms_7 rfl ?_
  refine GO.icmp_ge (tgt := 84) dX5_terms_10 (by decide) r_i7 (ir_c rfl) (fun h => by exfalso; omega) (fun c15 => ?_)
  refine GO.aload_n dX5_terms_13 rfl rfl ?_
  refine GO.getI h_x fl_RX5_18 rfl rfl dX5_terms_14 (fun _ _ => ?_)
  have q17 : -2147483648 ≤ vi Wi7 x 5 ∧ vi Wi7 x 5 ≤ 2147483647 := vi_ir
  refine GO.if_ne (tgt := 84) dX5_terms_17 (by decide) vi_ir (fun c16 => ?_) (fun h => by exfalso; omega)
  have q18 : -2147483648 ≤ vi Wi7 x 4 ∧ vi Wi7 x 4 ≤ 2147483647 := vi_ir
  exact GO.retv rfl rfl dX5_terms_84 ⟨rfl, rfl, by omega⟩

theorem t_X5_terms_0 {K : Kmap} {V : Vmap} {x : Nat} (h_x : K x = some (0, 4)) (q_0 : vi V x 5 ≠ 0) : MC mX5_terms_0 K V [.ref x] (VS K (fun V1 => (vi V1 x 4 = vi V x 4 ∧ (vi V x 5 ≠ 0 → vi V1 x 5 ≠ 0)))) := by
  exact t_X5_terms_0_F h_x (by omega)

set_option maxHeartbeats 1000000 in
theorem t_X5_take {K : Kmap} {V : Vmap} {x : Nat} {p0 : Int} (h_x : K x = some (0, 4)) (r_p0 : ir p0) : MC mX5_take K V [.ref x, ti p0] (VS K (fun V1 => ((vi V x 5 ≠ 0 → vi V1 x 5 ≠ 0)))) := by
  refine MC.start 0 (by decide +kernel) rfl rfl rfl (ls0 := [some (.ref x), some (ti p0)]) rfl ?_
  refine GO.aload_n dX5_take_0 rfl rfl ?_
  refine GO.callV (ci := 4) (N := mX5_next) dX5_take_1 (RX5, TX5, 7) rfl gV_RX5_61 h_x (t_X5_next h_x) rfl [] rfl rfl (Nat.le_of_ble_eq_true rfl) rfl (k_ip fun X1 r2 h3 => ?_)
  refine GO.iload_n dX5_take_4 rfl rfl ?_
  refine GO.icmp_eq (tgt := 20) dX5_take_5 (by decide) r2 r_p0 (fun c4 => ?_) (fun c4 => ?_)
  ·
    refine GO.aload_n dX5_take_20 rfl rfl ?_
    refine GO.getI h_x fl_RX5_18 rfl rfl dX5_take_21 (fun _ _ => ?_)
    refine GO.if_ne (tgt := 37) dX5_take_24 (by decide) vi_ir (fun c5 => ?_) (fun c5 => ?_)
    ·
      have q6 : -2147483648 ≤ vi V x 5 ∧ vi V x 5 ≤ 2147483647 := vi_ir
      exact GO.retv rfl rfl dX5_take_37 ⟨rfl, rfl, by omega⟩
    ·
      refine GO.aload_n dX5_take_27 rfl rfl ?_
      refine GO.dup dX5_take_28 rfl ?_
      refine GO.getI h_x fl_RX5_9 rfl rfl dX5_take_29 (fun _ _ => ?_)
      refine GO.iconst dX5_take_32 ?_
      refine GO.iadd dX5_take_33 ?_
      refine GO.norm (fun z7 r8 _ => ?_)
      refine GO.putI h_x fp_RX5_9 rfl (by decide +kernel) r8 (r8).1 (r8).2 dX5_take_34 (fun V10 e9 => ?_)
      have q11 : -2147483648 ≤ vi V x 5 ∧ vi V x 5 ≤ 2147483647 := vi_ir
      have e12 : vi V10 x 5 = vi V x 5 := vi_up e9 (Or.inr (by decide))
      exact GO.retv rfl rfl dX5_take_37 ⟨rfl, rfl, by omega⟩
  ·
    refine GO.aload_n dX5_take_8 rfl rfl ?_
    refine GO.iconst dX5_take_9 ?_
    refine GO.aload_n dX5_take_10 rfl rfl ?_
    refine GO.getI h_x fl_RX5_9 rfl rfl dX5_take_11 (fun _ _ => ?_)
    refine GO.callV (ci := 4) (N := mX5_refuse) dX5_take_14 (RX5, TX5, 7) rfl gV_RX5_57 h_x (t_X5_refuse h_x (ir_c rfl) vi_ir (by omega)) rfl [] rfl rfl (Nat.le_of_ble_eq_true rfl) rfl (k_vs fun V15 h14 hF13 => ?_)
    refine GO.goto (tgt := 37) dX5_take_17 (by decide) ?_
    have q17 : -2147483648 ≤ vi V x 5 ∧ vi V x 5 ≤ 2147483647 := vi_ir
    have q18 : -2147483648 ≤ vi V15 x 5 ∧ vi V15 x 5 ≤ 2147483647 := vi_ir
    exact GO.retv rfl rfl dX5_take_37 ⟨rfl, rfl, by omega⟩

set_option maxHeartbeats 1000000 in
theorem t_X5_factor_1_F {K : Kmap} {V : Vmap} {x : Nat} (h_x : K x = some (0, 4)) (q_0 : vi V x 5 ≠ 0) : MC mX5_factor_1 K V [.ref x] (VS K (fun V1 => (vi V1 x 4 = vi V x 4 ∧ (vi V x 5 ≠ 0 → vi V1 x 5 ≠ 0)))) := by
  refine MC.start 2 (by decide +kernel) rfl rfl rfl (ls0 := [some (.ref x), none, none]) rfl ?_
  refine GO.aload_n dX5_factor_0 rfl rfl ?_
  refine GO.getI h_x fl_RX5_18 rfl rfl dX5_factor_1 (fun _ _ => ?_)
  have q2 : -2147483648 ≤ vi V x 5 ∧ vi V x 5 ≤ 2147483647 := vi_ir
  refine GO.if_eq (tgt := 8) dX5_factor_4 (by decide) vi_ir (fun h => by exfalso; omega) (fun c1 => ?_)
  have q3 : -2147483648 ≤ vi V x 4 ∧ vi V x 4 ≤ 2147483647 := vi_ir
  exact GO.retv rfl rfl dX5_factor_7 ⟨rfl, rfl, by omega⟩

set_option maxHeartbeats 1000000 in
theorem t_X5_factor_1_G {K : Kmap} {V : Vmap} {x : Nat} (h_x : K x = some (0, 4)) (q_0 : vi V x 5 = 0) (q_1 : vi V x 4 ≥ 8) (q_2 : vi V x 4 ≤ 8) : MC mX5_factor_1 K V [.ref x] (VS K (fun V1 => (vi V1 x 4 = vi V x 4 ∧ (vi V x 5 ≠ 0 → vi V1 x 5 ≠ 0)))) := by
  refine MC.start 2 (by decide +kernel) rfl rfl rfl (ls0 := [some (.ref x), none, none]) rfl ?_
  refine GO.aload_n dX5_factor_0 rfl rfl ?_
  refine GO.getI h_x fl_RX5_18 rfl rfl dX5_factor_1 (fun _ _ => ?_)
  have q2 : -2147483648 ≤ vi V x 5 ∧ vi V x 5 ≤ 2147483647 := vi_ir
  refine GO.if_eq (tgt := 8) dX5_factor_4 (by decide) vi_ir (fun c1 => ?_) (fun h => by exfalso; omega)
  refine GO.aload_n dX5_factor_8 rfl rfl ?_
  refine GO.callV (ci := 4) (N := mX5_next) dX5_factor_9 (RX5, TX5, 7) rfl gV_RX5_61 h_x (t_X5_next h_x) rfl [] rfl rfl (Nat.le_of_ble_eq_true rfl) rfl (k_ip fun X3 r4 h5 => ?_)
  refine GO.istore_n (ls1 := [some (.ref x), some (ti X3), none]) dX5_factor_12 rfl rfl rfl ?_
  refine GO.iload_n dX5_factor_13 rfl rfl ?_
  have hj11 : ∀ (z10 : Int), ∀ (l12 : (-1) ≤ z10), ∀ (u13 : z10 ≤ 13), GO mX5_factor_1 K V (VS K (fun V1 => (vi V1 x 4 = vi V x 4 ∧ (vi V x 5 ≠ 0 → vi V1 x 5 ≠ 0)))) K V 0 0 28 [some (.ref x), some (ti X3), none] [ti z10] := by
    intro z10 l12 u13
    have r14 : ir z10 := ⟨by omega, by omega⟩
    refine GO.istore_n (ls1 := [some (.ref x), some (ti X3), some (ti z10)]) dX5_factor_28 rfl rfl rfl ?_
    refine GO.iload_n dX5_factor_29 rfl rfl ?_
    refine GO.bipush dX5_factor_30 rfl ?_
    refine GO.icmp_ne (tgt := 64) dX5_factor_32 (by decide) r4 (ir_c rfl) (fun c15 => ?_) (fun c15 => ?_)
    ·
      refine GO.iload_n dX5_factor_64 rfl rfl ?_
      refine GO.if_lt (tgt := 91) dX5_factor_65 (by decide) r14 (fun c16 => ?_) (fun c16 => ?_)
      ·
        refine GO.aload_n dX5_factor_91 rfl rfl ?_
        refine GO.getR h_x fl_RX5_31 rfl rfl dX5_factor_92 (fun hv18 h17 => ?_)
        refine GO.iconst dX5_factor_95 ?_
        refine GO.aload_n dX5_factor_96 rfl rfl ?_
        refine GO.ldc (X := 999999) dX5_factor_97 gw_790 rfl ?_
        refine GO.callV (ci := 4) (N := mX5_digits) dX5_factor_99 (RX5, TX5, 7) rfl gV_RX5_69 h_x (t_X5_digits h_x (ir_c rfl)) rfl [ti 0, .ref (vq V x 2)] rfl rfl (Nat.le_of_ble_eq_true rfl) rfl (k_is fun X19 V23 r20 h21 hF22 => ?_)
        refine GO.callV (ci := 8) (N := mX9_addStep) dX5_factor_102 (RX9, TX9, 5) rfl gV_RX5_92 h17 (t_X9_addStep h17 (ir_c rfl) r20) rfl [] rfl rfl (Nat.le_of_ble_eq_true rfl) rfl (k_is fun X25 V29 r26 h27 hF28 => ?_)
        refine GO.pop dX5_factor_105 rfl ?_
        have e31 : vi V23 x 4 = vi V x 4 := vi_fr hF22 h_x h_x (by decide +kernel)
        have e30 : vi V29 x 4 = vi V23 x 4 := vi_fr hF28 h_x h_x (by decide +kernel)
        have q32 : -2147483648 ≤ vi V x 4 ∧ vi V x 4 ≤ 2147483647 := vi_ir
        have e33 : vi V29 x 5 = vi V23 x 5 := vi_fr hF28 h_x h_x (by decide +kernel)
        have q34 : -2147483648 ≤ vi V23 x 5 ∧ vi V23 x 5 ≤ 2147483647 := vi_ir
        exact GO.retv rfl rfl dX5_factor_106 ⟨rfl, rfl, by omega⟩
      ·
        refine GO.aload_n dX5_factor_68 rfl rfl ?_
        refine GO.dup dX5_factor_69 rfl ?_
        refine GO.getI h_x fl_RX5_9 rfl rfl dX5_factor_70 (fun _ _ => ?_)
        refine GO.iconst dX5_factor_73 ?_
        refine GO.iadd dX5_factor_74 ?_
        refine GO.norm (fun z35 r36 _ => ?_)
        refine GO.putI h_x fp_RX5_9 rfl (by decide +kernel) r36 (r36).1 (r36).2 dX5_factor_75 (fun V38 e37 => ?_)
        refine GO.aload_n dX5_factor_78 rfl rfl ?_
        refine GO.getR h_x fl_RX5_31 rfl rfl dX5_factor_79 (fun hv40 h39 => ?_)
        refine GO.iconst dX5_factor_82 ?_
        refine GO.iload_n dX5_factor_83 rfl rfl ?_
        refine GO.callV (ci := 8) (N := mX9_addStep) dX5_factor_84 (RX9, TX9, 5) rfl gV_RX5_92 h39 (t_X9_addStep h39 (ir_c rfl) r14) rfl [] rfl rfl (Nat.le_of_ble_eq_true rfl) rfl (k_is fun X41 V45 r42 h43 hF44 => ?_)
        refine GO.pop dX5_factor_87 rfl ?_
        refine GO.goto (tgt := 106) dX5_factor_88 (by decide) ?_
        have e47 : vi V38 x 4 = vi V x 4 := vi_up e37 (Or.inr (by decide))
        have e46 : vi V45 x 4 = vi V38 x 4 := vi_fr hF44 h_x h_x (by decide +kernel)
        have q48 : -2147483648 ≤ vi V x 4 ∧ vi V x 4 ≤ 2147483647 := vi_ir
        have e50 : vi V38 x 5 = vi V x 5 := vi_up e37 (Or.inr (by decide))
        have e49 : vi V45 x 5 = vi V38 x 5 := vi_fr hF44 h_x h_x (by decide +kernel)
        exact GO.retv rfl rfl dX5_factor_106 ⟨rfl, rfl, by omega⟩
    ·
      refine GO.aload_n dX5_factor_35 rfl rfl ?_
      refine GO.bipush dX5_factor_36 rfl ?_
      have q51 : -2147483648 ≤ vi V x 4 ∧ vi V x 4 ≤ 2147483647 := vi_ir
      refine GO.callV (ci := 4) (N := mX5_deepen) dX5_factor_38 (RX5, TX5, 7) rfl gV_RX5_80 h_x (t_X5_deepen h_x (ir_c rfl) (by omega) (by omega)) rfl [] rfl rfl (Nat.le_of_ble_eq_true rfl) rfl (k_vs fun V54 h53 hF52 => ?_)
      refine GO.aload_n dX5_factor_41 rfl rfl ?_
      have q57 : -2147483648 ≤ vi V54 x 5 ∧ vi V54 x 5 ≤ 2147483647 := vi_ir
      refine GO.callV (ci := 4) (N := mX5_terms_0) dX5_factor_42 (RX5, TX5, 7) rfl gV_RX5_102 h_x (t_X5_terms_0 h_x (by omega)) rfl [] rfl rfl (Nat.le_of_ble_eq_true rfl) rfl (k_vs fun V60 h59 hF58 => ?_)
      have e61 : vi V60 x 4 = vi V54 x 4 := vi_fr hF58 h_x h_x (by decide +kernel)
      have e62 : vi V60 x 5 = vi V54 x 5 := vi_fr hF58 h_x h_x (by decide +kernel)
      refine GO.aload_n dX5_factor_45 rfl rfl ?_
      refine GO.dup dX5_factor_46 rfl ?_
      refine GO.getI h_x fl_RX5_15 rfl rfl dX5_factor_47 (fun _ _ => ?_)
      refine GO.iconst dX5_factor_50 ?_
      refine GO.isub dX5_factor_51 ?_
      have q64 : -2147483648 ≤ vi V54 x 4 ∧ vi V54 x 4 ≤ 2147483647 := vi_ir
      refine GO.putI h_x fp_RX5_15 rfl (by decide +kernel) ⟨by omega, by omega⟩ (by omega) (by omega) dX5_factor_52 (fun V65 e63 => ?_)
      refine GO.aload_n dX5_factor_55 rfl rfl ?_
      refine GO.bipush dX5_factor_56 rfl ?_
      have e66 : vi V65 x 5 = vi V60 x 5 := vi_up e63 (Or.inr (by decide))
      refine GO.callV (ci := 4) (N := mX5_take) dX5_factor_58 (RX5, TX5, 7) rfl gV_RX5_38 h_x (t_X5_take h_x (ir_c rfl)) rfl [] rfl rfl (Nat.le_of_ble_eq_true rfl) rfl (k_vs fun V69 h68 hF67 => ?_)
      refine GO.goto (tgt := 106) dX5_factor_61 (by decide) ?_
      have e72 : vi V65 x 4 = (vi V60 x 4) - 1 := upd2_int e63 ⟨by omega, by omega⟩
      have e71 : vi V69 x 4 = vi V65 x 4 := vi_fr hF67 h_x h_x (by decide +kernel)
      have q73 : -2147483648 ≤ vi V69 x 5 ∧ vi V69 x 5 ≤ 2147483647 := vi_ir
      exact GO.retv rfl rfl dX5_factor_106 ⟨rfl, rfl, by omega⟩
  refine GO.if_ge (tgt := 21) dX5_factor_14 (by decide) r4 (fun c74 => ?_) (fun c74 => ?_)
  ·
    refine GO.letters dX5_factor_21 dX5_factor_23 dX5_factor_24 dX5_factor_25 rfl gV_RX5_119 rfl rfl (Nat.le_of_ble_eq_true rfl) rfl rfl (fun X75 r76 h77 => ?_)
    exact hj11 X75 (by omega) (by omega)
  ·
    refine GO.iconst dX5_factor_17 ?_
    refine GO.goto (tgt := 28) dX5_factor_18 (by decide) ?_
    exact hj11 (-1) (by omega) (by omega)

theorem t_X5_factor_1 {K : Kmap} {V : Vmap} {x : Nat} (h_x : K x = some (0, 4)) (q_0 : (vi V x 5 ≠ 0 ∨ (vi V x 5 = 0 ∧ vi V x 4 ≥ 8 ∧ vi V x 4 ≤ 8))) : MC mX5_factor_1 K V [.ref x] (VS K (fun V1 => (vi V1 x 4 = vi V x 4 ∧ (vi V x 5 ≠ 0 → vi V1 x 5 ≠ 0)))) := by
  rcases q_0 with h | h
  · exact t_X5_factor_1_F h_x (by omega)
  · exact t_X5_factor_1_G h_x (by omega) (by omega) (by omega)

set_option maxHeartbeats 1000000 in
theorem t_X5_factors_1_F {K : Kmap} {V : Vmap} {x : Nat} (h_x : K x = some (0, 4)) (q_0 : vi V x 5 ≠ 0) : MC mX5_factors_1 K V [.ref x] (VS K (fun V1 => (vi V1 x 4 = vi V x 4 ∧ (vi V x 5 ≠ 0 → vi V1 x 5 ≠ 0)))) := by
  refine MC.start 2 (by decide +kernel) rfl rfl rfl (ls0 := [some (.ref x), none, none]) rfl ?_
  refine GO.aload_n dX5_factors_0 rfl rfl ?_
  have q1 : -2147483648 ≤ vi V x 4 ∧ vi V x 4 ≤ 2147483647 := vi_ir
  have q2 : -2147483648 ≤ vi V x 5 ∧ vi V x 5 ≤ 2147483647 := vi_ir
  refine GO.callV (ci := 4) (N := mX5_factor_1) dX5_factors_1 (RX5, TX5, 7) rfl gV_RX5_111 h_x (t_X5_factor_1 h_x (by omega)) rfl [] rfl rfl (Nat.le_of_ble_eq_true rfl) rfl (k_vs fun V5 h4 hF3 => ?_)
  refine GO.iconst dX5_factors_4 ?_
  refine GO.istore_n (ls1 := [some (.ref x), some (ti 0), none]) dX5_factors_5 rfl rfl rfl ?_
  have q9 : -2147483648 ≤ vi V5 x 4 ∧ vi V5 x 4 ≤ 2147483647 := vi_ir
  have q10 : -2147483648 ≤ vi V5 x 5 ∧ vi V5 x 5 ≤ 2147483647 := vi_ir
  refine GO.loop1 (fun i8 W => 0 ≤ i8 ∧ i8 ≤ 0 ∧ (vi W x 4 = vi V5 x 4 ∧ (vi V5 x 5 ≠ 0 → vi W x 5 ≠ 0)) ∧ True) (fun i8 => [some (.ref x), some (ti i8), none]) (fun i8 W => (2147483647 - i8).toNat) 0 ⟨by omega, by omega, by omega, trivial⟩ rfl (fun i8 Wi8 hp16 ih15 => ?_)
  obtain ⟨l_i8, u_i8, n_i8, -⟩ := hp16
  have r_i8 : ir i8 := ⟨by omega, by omega⟩
  show GO mX5_factors_1 K V (VS K (fun V1 => (vi V1 x 4 = vi V x 4 ∧ (vi V x 5 ≠ 0 → vi V1 x 5 ≠ 0)))) K Wi8 0 0 6 [some (.ref x), some (ti i8), none] []
  refine GO.iload_n dX5_factors_6 rfl rfl ?_
  refine GO.sipush dX5_factors_7 rfl ?_
  refine GO.icmp_ge (tgt := 91) dX5_factors_10 (by decide) r_i8 (ir_c rfl) (fun h => by exfalso; omega) (fun c17 => ?_)
  refine GO.aload_n dX5_factors_13 rfl rfl ?_
  refine GO.getI h_x fl_RX5_18 rfl rfl dX5_factors_14 (fun _ _ => ?_)
  have q19 : -2147483648 ≤ vi Wi8 x 5 ∧ vi Wi8 x 5 ≤ 2147483647 := vi_ir
  refine GO.if_ne (tgt := 91) dX5_factors_17 (by decide) vi_ir (fun c18 => ?_) (fun h => by exfalso; omega)
  have q20 : -2147483648 ≤ vi Wi8 x 4 ∧ vi Wi8 x 4 ≤ 2147483647 := vi_ir
  exact GO.retv rfl rfl dX5_factors_91 ⟨rfl, rfl, by omega⟩

set_option maxHeartbeats 1000000 in
theorem t_X5_factors_1_G {K : Kmap} {V : Vmap} {x : Nat} (h_x : K x = some (0, 4)) (q_0 : vi V x 5 = 0) (q_1 : vi V x 4 ≥ 8) (q_2 : vi V x 4 ≤ 8) : MC mX5_factors_1 K V [.ref x] (VS K (fun V1 => (vi V1 x 4 = vi V x 4 ∧ (vi V x 5 ≠ 0 → vi V1 x 5 ≠ 0)))) := by
  refine MC.start 2 (by decide +kernel) rfl rfl rfl (ls0 := [some (.ref x), none, none]) rfl ?_
  refine GO.aload_n dX5_factors_0 rfl rfl ?_
  have q1 : -2147483648 ≤ vi V x 4 ∧ vi V x 4 ≤ 2147483647 := vi_ir
  have q2 : -2147483648 ≤ vi V x 5 ∧ vi V x 5 ≤ 2147483647 := vi_ir
  refine GO.callV (ci := 4) (N := mX5_factor_1) dX5_factors_1 (RX5, TX5, 7) rfl gV_RX5_111 h_x (t_X5_factor_1 h_x (by omega)) rfl [] rfl rfl (Nat.le_of_ble_eq_true rfl) rfl (k_vs fun V5 h4 hF3 => ?_)
  refine GO.iconst dX5_factors_4 ?_
  refine GO.istore_n (ls1 := [some (.ref x), some (ti 0), none]) dX5_factors_5 rfl rfl rfl ?_
  have q9 : -2147483648 ≤ vi V5 x 4 ∧ vi V5 x 4 ≤ 2147483647 := vi_ir
  have q10 : -2147483648 ≤ vi V5 x 5 ∧ vi V5 x 5 ≤ 2147483647 := vi_ir
  refine GO.loop1 (fun i8 W => 0 ≤ i8 ∧ i8 ≤ 200 ∧ (vi W x 4 = vi V5 x 4 ∧ (vi V5 x 5 ≠ 0 → vi W x 5 ≠ 0)) ∧ True) (fun i8 => [some (.ref x), some (ti i8), none]) (fun i8 W => (2147483647 - i8).toNat) 0 ⟨by omega, by omega, by omega, trivial⟩ rfl (fun i8 Wi8 hp475 ih474 => ?_)
  obtain ⟨l_i8, u_i8, n_i8, -⟩ := hp475
  have r_i8 : ir i8 := ⟨by omega, by omega⟩
  show GO mX5_factors_1 K V (VS K (fun V1 => (vi V1 x 4 = vi V x 4 ∧ (vi V x 5 ≠ 0 → vi V1 x 5 ≠ 0)))) K Wi8 0 0 6 [some (.ref x), some (ti i8), none] []
  refine GO.iload_n dX5_factors_6 rfl rfl ?_
  refine GO.sipush dX5_factors_7 rfl ?_
  refine GO.icmp_ge (tgt := 91) dX5_factors_10 (by decide) r_i8 (ir_c rfl) (fun c476 => ?_) (fun c476 => ?_)
  ·
    have q477 : -2147483648 ≤ vi Wi8 x 4 ∧ vi Wi8 x 4 ≤ 2147483647 := vi_ir
    have q478 : -2147483648 ≤ vi Wi8 x 5 ∧ vi Wi8 x 5 ≤ 2147483647 := vi_ir
    exact GO.retv rfl rfl dX5_factors_91 ⟨rfl, rfl, by omega⟩
  ·
    refine GO.aload_n dX5_factors_13 rfl rfl ?_
    refine GO.getI h_x fl_RX5_18 rfl rfl dX5_factors_14 (fun _ _ => ?_)
    refine GO.if_ne (tgt := 91) dX5_factors_17 (by decide) vi_ir (fun c479 => ?_) (fun c479 => ?_)
    ·
      have q480 : -2147483648 ≤ vi Wi8 x 4 ∧ vi Wi8 x 4 ≤ 2147483647 := vi_ir
      have q481 : -2147483648 ≤ vi Wi8 x 5 ∧ vi Wi8 x 5 ≤ 2147483647 := vi_ir
      exact GO.retv rfl rfl dX5_factors_91 ⟨rfl, rfl, by omega⟩
    ·
      refine GO.aload_n dX5_factors_20 rfl rfl ?_
      refine GO.callV (ci := 4) (N := mX5_next) dX5_factors_21 (RX5, TX5, 7) rfl gV_RX5_61 h_x (t_X5_next h_x) rfl [] rfl rfl (Nat.le_of_ble_eq_true rfl) rfl (k_ip fun X482 r483 h484 => ?_)
      refine GO.callS (N := mX5_isFactorSign) dX5_factors_24 gS_RX5_114 (t_X5_isFactorSign r483) rfl [] rfl rfl (Nat.le_of_ble_eq_true rfl) rfl (k_ip fun X485 r486 h487 => ?_)
      refine GO.if_eq (tgt := 91) dX5_factors_27 (by decide) r486 (fun c488 => ?_) (fun c488 => ?_)
      ·
        have q489 : -2147483648 ≤ vi Wi8 x 4 ∧ vi Wi8 x 4 ≤ 2147483647 := vi_ir
        have q490 : -2147483648 ≤ vi Wi8 x 5 ∧ vi Wi8 x 5 ≤ 2147483647 := vi_ir
        exact GO.retv rfl rfl dX5_factors_91 ⟨rfl, rfl, by omega⟩
      ·
        refine GO.aload_n dX5_factors_30 rfl rfl ?_
        refine GO.callV (ci := 4) (N := mX5_next) dX5_factors_31 (RX5, TX5, 7) rfl gV_RX5_61 h_x (t_X5_next h_x) rfl [] rfl rfl (Nat.le_of_ble_eq_true rfl) rfl (k_ip fun X491 r492 h493 => ?_)
        refine GO.bipush dX5_factors_34 rfl ?_
        have hj500 : ∀ (z499 : Int), ∀ (l501 : 7 ≤ z499), ∀ (u502 : z499 ≤ 9), GO mX5_factors_1 K V (VS K (fun V1 => (vi V1 x 4 = vi V x 4 ∧ (vi V x 5 ≠ 0 → vi V1 x 5 ≠ 0)))) K Wi8 0 0 60 [some (.ref x), some (ti i8), none] [ti z499] := by
          intro z499 l501 u502
          have r503 : ir z499 := ⟨by omega, by omega⟩
          refine GO.istore_n (ls1 := [some (.ref x), some (ti i8), some (ti z499)]) dX5_factors_60 rfl rfl rfl ?_
          refine GO.aload_n dX5_factors_61 rfl rfl ?_
          refine GO.dup dX5_factors_62 rfl ?_
          refine GO.getI h_x fl_RX5_9 rfl rfl dX5_factors_63 (fun _ _ => ?_)
          refine GO.iconst dX5_factors_66 ?_
          refine GO.iadd dX5_factors_67 ?_
          refine GO.norm (fun z504 r505 _ => ?_)
          refine GO.putI h_x fp_RX5_9 rfl (by decide +kernel) r505 (r505).1 (r505).2 dX5_factors_68 (fun V507 e506 => ?_)
          refine GO.aload_n dX5_factors_71 rfl rfl ?_
          have e508 : vi V507 x 5 = vi Wi8 x 5 := vi_up e506 (Or.inr (by decide))
          have e509 : vi V507 x 4 = vi Wi8 x 4 := vi_up e506 (Or.inr (by decide))
          have q510 : -2147483648 ≤ vi Wi8 x 4 ∧ vi Wi8 x 4 ≤ 2147483647 := vi_ir
          have q511 : -2147483648 ≤ vi Wi8 x 5 ∧ vi Wi8 x 5 ≤ 2147483647 := vi_ir
          refine GO.callV (ci := 4) (N := mX5_factor_1) dX5_factors_72 (RX5, TX5, 7) rfl gV_RX5_111 h_x (t_X5_factor_1 h_x (by omega)) rfl [] rfl rfl (Nat.le_of_ble_eq_true rfl) rfl (k_vs fun V514 h513 hF512 => ?_)
          refine GO.aload_n dX5_factors_75 rfl rfl ?_
          refine GO.getR h_x fl_RX5_31 rfl rfl dX5_factors_76 (fun hv518 h517 => ?_)
          refine GO.iload_n dX5_factors_79 rfl rfl ?_
          refine GO.iconst dX5_factors_80 ?_
          refine GO.callV (ci := 8) (N := mX9_addStep) dX5_factors_81 (RX9, TX9, 5) rfl gV_RX5_92 h517 (t_X9_addStep h517 r503 (ir_c rfl)) rfl [] rfl rfl (Nat.le_of_ble_eq_true rfl) rfl (k_is fun X519 V523 r520 h521 hF522 => ?_)
          refine GO.pop dX5_factors_84 rfl ?_
          refine GO.iinc (X := i8) (n := 1) (Y := i8 + 1) (ls1 := [some (.ref x), some (ti (i8 + 1)), some (ti z499)]) dX5_factors_85 rfl rfl rfl rfl ?_
          refine GO.goto (tgt := 6) dX5_factors_88 (by decide) ?_
          refine GO.drop [true, true, false] rfl ?_
          have e524 : vi V523 x 4 = vi V514 x 4 := vi_fr hF522 h_x h_x (by decide +kernel)
          have q525 : -2147483648 ≤ vi V514 x 4 ∧ vi V514 x 4 ≤ 2147483647 := vi_ir
          have e526 : vi V523 x 5 = vi V514 x 5 := vi_fr hF522 h_x h_x (by decide +kernel)
          have q527 : -2147483648 ≤ vi V514 x 5 ∧ vi V514 x 5 ≤ 2147483647 := vi_ir
          exact ih474 (i8 + 1) V523 ⟨by omega, by omega, by omega, trivial⟩ (by show (2147483647 - (i8 + 1)).toNat < (2147483647 - i8).toNat; omega)
        refine GO.icmp_ne (tgt := 44) dX5_factors_36 (by decide) r492 (ir_c rfl) (fun c528 => ?_) (fun c528 => ?_)
        ·
          refine GO.aload_n dX5_factors_44 rfl rfl ?_
          refine GO.callV (ci := 4) (N := mX5_next) dX5_factors_45 (RX5, TX5, 7) rfl gV_RX5_61 h_x (t_X5_next h_x) rfl [] rfl rfl (Nat.le_of_ble_eq_true rfl) rfl (k_ip fun X529 r530 h531 => ?_)
          refine GO.bipush dX5_factors_48 rfl ?_
          refine GO.icmp_ne (tgt := 58) dX5_factors_50 (by decide) r530 (ir_c rfl) (fun c532 => ?_) (fun c532 => ?_)
          ·
            refine GO.bipush dX5_factors_58 rfl ?_
            exact hj500 9 (by omega) (by omega)
          ·
            refine GO.bipush dX5_factors_53 rfl ?_
            refine GO.goto (tgt := 60) dX5_factors_55 (by decide) ?_
            exact hj500 8 (by omega) (by omega)
        ·
          refine GO.bipush dX5_factors_39 rfl ?_
          refine GO.goto (tgt := 60) dX5_factors_41 (by decide) ?_
          exact hj500 7 (by omega) (by omega)

theorem t_X5_factors_1 {K : Kmap} {V : Vmap} {x : Nat} (h_x : K x = some (0, 4)) (q_0 : (vi V x 5 ≠ 0 ∨ (vi V x 5 = 0 ∧ vi V x 4 ≥ 8 ∧ vi V x 4 ≤ 8))) : MC mX5_factors_1 K V [.ref x] (VS K (fun V1 => (vi V1 x 4 = vi V x 4 ∧ (vi V x 5 ≠ 0 → vi V1 x 5 ≠ 0)))) := by
  rcases q_0 with h | h
  · exact t_X5_factors_1_F h_x (by omega)
  · exact t_X5_factors_1_G h_x (by omega) (by omega) (by omega)

set_option maxHeartbeats 1000000 in
theorem t_X5_terms_1_F {K : Kmap} {V : Vmap} {x : Nat} (h_x : K x = some (0, 4)) (q_0 : vi V x 5 ≠ 0) : MC mX5_terms_1 K V [.ref x] (VS K (fun V1 => (vi V1 x 4 = vi V x 4 ∧ (vi V x 5 ≠ 0 → vi V1 x 5 ≠ 0)))) := by
  refine MC.start 2 (by decide +kernel) rfl rfl rfl (ls0 := [some (.ref x), none, none]) rfl ?_
  refine GO.aload_n dX5_terms_0 rfl rfl ?_
  have q1 : -2147483648 ≤ vi V x 4 ∧ vi V x 4 ≤ 2147483647 := vi_ir
  have q2 : -2147483648 ≤ vi V x 5 ∧ vi V x 5 ≤ 2147483647 := vi_ir
  refine GO.callV (ci := 4) (N := mX5_factors_1) dX5_terms_1 (RX5, TX5, 7) rfl gV_RX5_108 h_x (t_X5_factors_1 h_x (by omega)) rfl [] rfl rfl (Nat.le_of_ble_eq_true rfl) rfl (k_vs fun V5 h4 hF3 => ?_)
  refine GO.iconst dX5_terms_4 ?_
  refine GO.istore_n (ls1 := [some (.ref x), some (ti 0), none]) dX5_terms_5 rfl rfl rfl ?_
  have q9 : -2147483648 ≤ vi V5 x 4 ∧ vi V5 x 4 ≤ 2147483647 := vi_ir
  have q10 : -2147483648 ≤ vi V5 x 5 ∧ vi V5 x 5 ≤ 2147483647 := vi_ir
  refine GO.loop1 (fun i8 W => 0 ≤ i8 ∧ i8 ≤ 0 ∧ (vi W x 4 = vi V5 x 4 ∧ (vi V5 x 5 ≠ 0 → vi W x 5 ≠ 0)) ∧ True) (fun i8 => [some (.ref x), some (ti i8), none]) (fun i8 W => (2147483647 - i8).toNat) 0 ⟨by omega, by omega, by omega, trivial⟩ rfl (fun i8 Wi8 hp16 ih15 => ?_)
  obtain ⟨l_i8, u_i8, n_i8, -⟩ := hp16
  have r_i8 : ir i8 := ⟨by omega, by omega⟩
  show GO mX5_terms_1 K V (VS K (fun V1 => (vi V1 x 4 = vi V x 4 ∧ (vi V x 5 ≠ 0 → vi V1 x 5 ≠ 0)))) K Wi8 0 0 6 [some (.ref x), some (ti i8), none] []
  refine GO.iload_n dX5_terms_6 rfl rfl ?_
  refine GO.sipush dX5_terms_7 rfl ?_
  refine GO.icmp_ge (tgt := 84) dX5_terms_10 (by decide) r_i8 (ir_c rfl) (fun h => by exfalso; omega) (fun c17 => ?_)
  refine GO.aload_n dX5_terms_13 rfl rfl ?_
  refine GO.getI h_x fl_RX5_18 rfl rfl dX5_terms_14 (fun _ _ => ?_)
  have q19 : -2147483648 ≤ vi Wi8 x 5 ∧ vi Wi8 x 5 ≤ 2147483647 := vi_ir
  refine GO.if_ne (tgt := 84) dX5_terms_17 (by decide) vi_ir (fun c18 => ?_) (fun h => by exfalso; omega)
  have q20 : -2147483648 ≤ vi Wi8 x 4 ∧ vi Wi8 x 4 ≤ 2147483647 := vi_ir
  exact GO.retv rfl rfl dX5_terms_84 ⟨rfl, rfl, by omega⟩

set_option maxHeartbeats 1000000 in
theorem t_X5_terms_1_G {K : Kmap} {V : Vmap} {x : Nat} (h_x : K x = some (0, 4)) (q_0 : vi V x 5 = 0) (q_1 : vi V x 4 ≥ 8) (q_2 : vi V x 4 ≤ 8) : MC mX5_terms_1 K V [.ref x] (VS K (fun V1 => (vi V1 x 4 = vi V x 4 ∧ (vi V x 5 ≠ 0 → vi V1 x 5 ≠ 0)))) := by
  refine MC.start 2 (by decide +kernel) rfl rfl rfl (ls0 := [some (.ref x), none, none]) rfl ?_
  refine GO.aload_n dX5_terms_0 rfl rfl ?_
  have q1 : -2147483648 ≤ vi V x 4 ∧ vi V x 4 ≤ 2147483647 := vi_ir
  have q2 : -2147483648 ≤ vi V x 5 ∧ vi V x 5 ≤ 2147483647 := vi_ir
  refine GO.callV (ci := 4) (N := mX5_factors_1) dX5_terms_1 (RX5, TX5, 7) rfl gV_RX5_108 h_x (t_X5_factors_1 h_x (by omega)) rfl [] rfl rfl (Nat.le_of_ble_eq_true rfl) rfl (k_vs fun V5 h4 hF3 => ?_)
  refine GO.iconst dX5_terms_4 ?_
  refine GO.istore_n (ls1 := [some (.ref x), some (ti 0), none]) dX5_terms_5 rfl rfl rfl ?_
  have q9 : -2147483648 ≤ vi V5 x 4 ∧ vi V5 x 4 ≤ 2147483647 := vi_ir
  have q10 : -2147483648 ≤ vi V5 x 5 ∧ vi V5 x 5 ≤ 2147483647 := vi_ir
  refine GO.loop1 (fun i8 W => 0 ≤ i8 ∧ i8 ≤ 200 ∧ (vi W x 4 = vi V5 x 4 ∧ (vi V5 x 5 ≠ 0 → vi W x 5 ≠ 0)) ∧ True) (fun i8 => [some (.ref x), some (ti i8), none]) (fun i8 W => (2147483647 - i8).toNat) 0 ⟨by omega, by omega, by omega, trivial⟩ rfl (fun i8 Wi8 hp484 ih483 => ?_)
  obtain ⟨l_i8, u_i8, n_i8, -⟩ := hp484
  have r_i8 : ir i8 := ⟨by omega, by omega⟩
  show GO mX5_terms_1 K V (VS K (fun V1 => (vi V1 x 4 = vi V x 4 ∧ (vi V x 5 ≠ 0 → vi V1 x 5 ≠ 0)))) K Wi8 0 0 6 [some (.ref x), some (ti i8), none] []
  refine GO.iload_n dX5_terms_6 rfl rfl ?_
  refine GO.sipush dX5_terms_7 rfl ?_
  refine GO.icmp_ge (tgt := 84) dX5_terms_10 (by decide) r_i8 (ir_c rfl) (fun c485 => ?_) (fun c485 => ?_)
  ·
    have q486 : -2147483648 ≤ vi Wi8 x 4 ∧ vi Wi8 x 4 ≤ 2147483647 := vi_ir
    have q487 : -2147483648 ≤ vi Wi8 x 5 ∧ vi Wi8 x 5 ≤ 2147483647 := vi_ir
    exact GO.retv rfl rfl dX5_terms_84 ⟨rfl, rfl, by omega⟩
  ·
    refine GO.aload_n dX5_terms_13 rfl rfl ?_
    refine GO.getI h_x fl_RX5_18 rfl rfl dX5_terms_14 (fun _ _ => ?_)
    refine GO.if_ne (tgt := 84) dX5_terms_17 (by decide) vi_ir (fun c488 => ?_) (fun c488 => ?_)
    ·
      have q489 : -2147483648 ≤ vi Wi8 x 4 ∧ vi Wi8 x 4 ≤ 2147483647 := vi_ir
      have q490 : -2147483648 ≤ vi Wi8 x 5 ∧ vi Wi8 x 5 ≤ 2147483647 := vi_ir
      exact GO.retv rfl rfl dX5_terms_84 ⟨rfl, rfl, by omega⟩
    ·
      refine GO.aload_n dX5_terms_20 rfl rfl ?_
      refine GO.callV (ci := 4) (N := mX5_next) dX5_terms_21 (RX5, TX5, 7) rfl gV_RX5_61 h_x (t_X5_next h_x) rfl [] rfl rfl (Nat.le_of_ble_eq_true rfl) rfl (k_ip fun X491 r492 h493 => ?_)
      refine GO.bipush dX5_terms_24 rfl ?_
      have hj501 : GO mX5_terms_1 K V (VS K (fun V1 => (vi V1 x 4 = vi V x 4 ∧ (vi V x 5 ≠ 0 → vi V1 x 5 ≠ 0)))) K Wi8 0 0 38 [some (.ref x), some (ti i8), none] [] := by
        skip
        refine GO.aload_n dX5_terms_38 rfl rfl ?_
        refine GO.callV (ci := 4) (N := mX5_next) dX5_terms_39 (RX5, TX5, 7) rfl gV_RX5_61 h_x (t_X5_next h_x) rfl [] rfl rfl (Nat.le_of_ble_eq_true rfl) rfl (k_ip fun X502 r503 h504 => ?_)
        refine GO.bipush dX5_terms_42 rfl ?_
        have hj507 : ∀ (z506 : Int), ∀ (l508 : 5 ≤ z506), ∀ (u509 : z506 ≤ 6), GO mX5_terms_1 K V (VS K (fun V1 => (vi V1 x 4 = vi V x 4 ∧ (vi V x 5 ≠ 0 → vi V1 x 5 ≠ 0)))) K Wi8 0 0 53 [some (.ref x), some (ti i8), none] [ti z506] := by
          intro z506 l508 u509
          have r510 : ir z506 := ⟨by omega, by omega⟩
          refine GO.istore_n (ls1 := [some (.ref x), some (ti i8), some (ti z506)]) dX5_terms_53 rfl rfl rfl ?_
          refine GO.aload_n dX5_terms_54 rfl rfl ?_
          refine GO.dup dX5_terms_55 rfl ?_
          refine GO.getI h_x fl_RX5_9 rfl rfl dX5_terms_56 (fun _ _ => ?_)
          refine GO.iconst dX5_terms_59 ?_
          refine GO.iadd dX5_terms_60 ?_
          refine GO.norm (fun z511 r512 _ => ?_)
          refine GO.putI h_x fp_RX5_9 rfl (by decide +kernel) r512 (r512).1 (r512).2 dX5_terms_61 (fun V514 e513 => ?_)
          refine GO.aload_n dX5_terms_64 rfl rfl ?_
          have e515 : vi V514 x 5 = vi Wi8 x 5 := vi_up e513 (Or.inr (by decide))
          have e516 : vi V514 x 4 = vi Wi8 x 4 := vi_up e513 (Or.inr (by decide))
          have q517 : -2147483648 ≤ vi Wi8 x 4 ∧ vi Wi8 x 4 ≤ 2147483647 := vi_ir
          have q518 : -2147483648 ≤ vi Wi8 x 5 ∧ vi Wi8 x 5 ≤ 2147483647 := vi_ir
          refine GO.callV (ci := 4) (N := mX5_factors_1) dX5_terms_65 (RX5, TX5, 7) rfl gV_RX5_108 h_x (t_X5_factors_1 h_x (by omega)) rfl [] rfl rfl (Nat.le_of_ble_eq_true rfl) rfl (k_vs fun V521 h520 hF519 => ?_)
          refine GO.aload_n dX5_terms_68 rfl rfl ?_
          refine GO.getR h_x fl_RX5_31 rfl rfl dX5_terms_69 (fun hv525 h524 => ?_)
          refine GO.iload_n dX5_terms_72 rfl rfl ?_
          refine GO.iconst dX5_terms_73 ?_
          refine GO.callV (ci := 8) (N := mX9_addStep) dX5_terms_74 (RX9, TX9, 5) rfl gV_RX5_92 h524 (t_X9_addStep h524 r510 (ir_c rfl)) rfl [] rfl rfl (Nat.le_of_ble_eq_true rfl) rfl (k_is fun X526 V530 r527 h528 hF529 => ?_)
          refine GO.pop dX5_terms_77 rfl ?_
          refine GO.iinc (X := i8) (n := 1) (Y := i8 + 1) (ls1 := [some (.ref x), some (ti (i8 + 1)), some (ti z506)]) dX5_terms_78 rfl rfl rfl rfl ?_
          refine GO.goto (tgt := 6) dX5_terms_81 (by decide) ?_
          refine GO.drop [true, true, false] rfl ?_
          have e531 : vi V530 x 4 = vi V521 x 4 := vi_fr hF529 h_x h_x (by decide +kernel)
          have q532 : -2147483648 ≤ vi V521 x 4 ∧ vi V521 x 4 ≤ 2147483647 := vi_ir
          have e533 : vi V530 x 5 = vi V521 x 5 := vi_fr hF529 h_x h_x (by decide +kernel)
          have q534 : -2147483648 ≤ vi V521 x 5 ∧ vi V521 x 5 ≤ 2147483647 := vi_ir
          exact ih483 (i8 + 1) V530 ⟨by omega, by omega, by omega, trivial⟩ (by show (2147483647 - (i8 + 1)).toNat < (2147483647 - i8).toNat; omega)
        refine GO.icmp_ne (tgt := 51) dX5_terms_44 (by decide) r503 (ir_c rfl) (fun c535 => ?_) (fun c535 => ?_)
        ·
          refine GO.bipush dX5_terms_51 rfl ?_
          exact hj507 6 (by omega) (by omega)
        ·
          refine GO.iconst dX5_terms_47 ?_
          refine GO.goto (tgt := 53) dX5_terms_48 (by decide) ?_
          exact hj507 5 (by omega) (by omega)
      refine GO.icmp_eq (tgt := 38) dX5_terms_26 (by decide) r492 (ir_c rfl) (fun c536 => ?_) (fun c536 => ?_)
      ·
        exact hj501 
      ·
        refine GO.aload_n dX5_terms_29 rfl rfl ?_
        refine GO.callV (ci := 4) (N := mX5_next) dX5_terms_30 (RX5, TX5, 7) rfl gV_RX5_61 h_x (t_X5_next h_x) rfl [] rfl rfl (Nat.le_of_ble_eq_true rfl) rfl (k_ip fun X537 r538 h539 => ?_)
        refine GO.bipush dX5_terms_33 rfl ?_
        refine GO.icmp_ne (tgt := 84) dX5_terms_35 (by decide) r538 (ir_c rfl) (fun c540 => ?_) (fun c540 => ?_)
        ·
          have q541 : -2147483648 ≤ vi Wi8 x 4 ∧ vi Wi8 x 4 ≤ 2147483647 := vi_ir
          have q542 : -2147483648 ≤ vi Wi8 x 5 ∧ vi Wi8 x 5 ≤ 2147483647 := vi_ir
          exact GO.retv rfl rfl dX5_terms_84 ⟨rfl, rfl, by omega⟩
        ·
          exact hj501 

theorem t_X5_terms_1 {K : Kmap} {V : Vmap} {x : Nat} (h_x : K x = some (0, 4)) (q_0 : (vi V x 5 ≠ 0 ∨ (vi V x 5 = 0 ∧ vi V x 4 ≥ 8 ∧ vi V x 4 ≤ 8))) : MC mX5_terms_1 K V [.ref x] (VS K (fun V1 => (vi V1 x 4 = vi V x 4 ∧ (vi V x 5 ≠ 0 → vi V1 x 5 ≠ 0)))) := by
  rcases q_0 with h | h
  · exact t_X5_terms_1_F h_x (by omega)
  · exact t_X5_terms_1_G h_x (by omega) (by omega) (by omega)
