def mX5_set : MRec := (RX5, cX5_set, 3, (none : Option Jvm.ClassFile.FieldType), yX5_set, 1, 25, 0, 0, 173291855882550928723650886508942731464777317210988535948154973788413831737851601439998400381508723631086950685087723239310884864)
def mX5_refuse : MRec := (RX5, cX5_refuse, 3, (none : Option Jvm.ClassFile.FieldType), yX5_refuse, 0, 0, 0, 0, 13510798882111488)
def mX5_deepen : MRec := (RX5, cX5_deepen, 2, (none : Option Jvm.ClassFile.FieldType), yX5_deepen, 1, 22, 0, 0, 16888498602639360)
def mX5_isDigit : MRec := (RX5, cX5_isDigit, 1, (some .boolean), yX5_isDigit, 0, 0, 0, 0, 0)
def mX5_digits : MRec := (RX5, cX5_digits, 5, (some .int), yX5_digits, 1, 22, 0, 0, 14636698788954112)
def mX4_put_t144 : MRec := (RX4, cX4_put, 3, (none : Option Jvm.ClassFile.FieldType), yX4_put, 0, 0, 0, 0, 84615164005151820665845159428194693098035799419427996068435045795123941278247852265624218936283556460491675139202989862944768)
def mX9_addStep : MRec := (RX9, cX9_addStep, 4, (some .int), yX9_addStep, 1, 22, 0, 0, 84615164005151820665845159428194693098035799419427996068435045795123941278247852265624218936283556470163081696120023260594176)
def mX5_factor_0 : MRec := (RX5, cX5_factor, 3, (none : Option Jvm.ClassFile.FieldType), yX5_factor, 0, 0, 0, 0, 0)
def mX5_isFactorSign : MRec := (RX5, cX5_isFactorSign, 1, (some .boolean), yX5_isFactorSign, 0, 0, 0, 0, 0)
def mX5_factors_0 : MRec := (RX5, cX5_factors, 3, (none : Option Jvm.ClassFile.FieldType), yX5_factors, 1, 22, 0, 0, 0)
def mX5_terms_0 : MRec := (RX5, cX5_terms, 3, (none : Option Jvm.ClassFile.FieldType), yX5_terms, 2, 44, 0, 0, 0)
def mX5_take : MRec := (RX5, cX5_take, 2, (none : Option Jvm.ClassFile.FieldType), yX5_take, 1, 22, 0, 0, 14636698788954112)
def mX5_factor_1 : MRec := (RX5, cX5_factor, 3, (none : Option Jvm.ClassFile.FieldType), yX5_factor, 6, 200, 0, 0, 84615164005151820665845159428194693098035799419427996068435045795123941278247852265624218936283556470163081713008521863233536)
def mX5_factors_1 : MRec := (RX5, cX5_factors, 3, (none : Option Jvm.ClassFile.FieldType), yX5_factors, 7, 222, 0, 0, 84615164005151820665845159428194693098035799419427996068435045795123941278247852265624218936283556470163081713008521863233536)
set_option maxHeartbeats 1000000 in
theorem t_X5_set {K : Kmap} {V : Vmap} {x : Nat} {p0 : Int} {p1 : Int} (h_x : K x = some (0, 4)) (r_p0 : ir p0) (r_p1 : ir p1) : MC mX5_set K V [.ref x, ti p0, ti p1] (VS K (fun V1 => (True) ∧ (STT K V V1 x p0 p1))) := by
  refine MC.start 0 (by decide +kernel) rfl rfl rfl (ls0 := [some (.ref x), some (ti p0), some (ti p1)]) rfl ?_
  refine GO.aload_n dX5_set_0 rfl rfl ?_
  refine GO.getR h_x fl_RX5_31 rfl rfl dX5_set_1 (fun hv2 h1 => ?_)
  refine GO.getR h1 fl_RX5_42 rfl rfl dX5_set_4 (fun hv4 h3 => ?_)
  refine GO.aload_n dX5_set_7 rfl rfl ?_
  refine GO.getRaw h_x fl_RX5_31 hv2 dX5_set_8 ?_
  refine GO.getRaw h1 fl_RX5_42 hv4 dX5_set_11 ?_
  refine GO.getI h3 fl_RX5_127_k33 rfl rfl dX5_set_14 (fun l9 u10 => ?_)
  refine GO.iconst dX5_set_17 ?_
  refine GO.isub dX5_set_18 ?_
  refine GO.iload_n dX5_set_19 rfl rfl ?_
  refine GO.iload_n dX5_set_20 rfl rfl ?_
  refine GO.callV (ci := 33) (N := mX8_put_k33) dX5_set_21 (RX8, TX8, 4) rfl gV_RX5_130 h3 (t_X8_put_k33 h3 ⟨by omega, by omega⟩ r_p0 r_p1) rfl [] rfl rfl (Nat.le_of_ble_eq_true rfl) rfl (k_vs fun V13 h12 hF11 => ?_)
  have raw_put := h12.2
  have rw21 := h12.2
  exact GO.retv rfl rfl dX5_set_24 ⟨rfl, rfl, ⟨trivial, rw21⟩⟩

set_option maxHeartbeats 1000000 in
theorem t_X5_refuse {K : Kmap} {V : Vmap} {x : Nat} {p0 : Int} {p1 : Int} (h_x : K x = some (0, 4)) (r_p0 : ir p0) (r_p1 : ir p1) (q_0 : p0 ≥ 1) : MC mX5_refuse K V [.ref x, ti p0, ti p1] (VS K (fun V1 => (vi V1 x 5 ≠ 0) ∧ (RFS V V1 x p0 p1))) := by
  refine MC.start 0 (by decide +kernel) rfl rfl rfl (ls0 := [some (.ref x), some (ti p0), some (ti p1)]) rfl ?_
  refine GO.useWT (fun hW_0 => ?_)
  refine GO.aload_n dX5_refuse_0 rfl rfl ?_
  refine GO.getI h_x fl_RX5_18 rfl rfl dX5_refuse_1 (fun _ _ => ?_)
  refine GO.if_ne (tgt := 17) dX5_refuse_4 (by decide) vi_ir (fun c1 => ?_) (fun c1 => ?_)
  ·
    have q2 : -2147483648 ≤ vi V x 5 ∧ vi V x 5 ≤ 2147483647 := vi_ir
    exact GO.retv rfl rfl dX5_refuse_17 ⟨rfl, rfl, ⟨by omega, (by first | exact Or.inl ⟨by omega, rfl⟩ | exact Or.inr ⟨by omega, _, by assumption, by assumption⟩)⟩⟩
  ·
    refine GO.aload_n dX5_refuse_7 rfl rfl ?_
    refine GO.iload_n dX5_refuse_8 rfl rfl ?_
    refine GO.putI h_x fp_RX5_18 rfl (by decide +kernel) r_p0 (r_p0).1 (r_p0).2 dX5_refuse_9 (fun V4 e3 => ?_)
    refine GO.aload_n dX5_refuse_12 rfl rfl ?_
    refine GO.iload_n dX5_refuse_13 rfl rfl ?_
    refine GO.putI h_x fp_RX5_21 rfl (by decide +kernel) r_p1 (r_p1).1 (r_p1).2 dX5_refuse_14 (fun V6 e5 => ?_)
    have e8 : vi V4 x 5 = p0 := upd2_int e3 r_p0
    have e7 : vi V6 x 5 = vi V4 x 5 := vi_up e5 (Or.inr (by decide))
    have q9 : -2147483648 ≤ p0 ∧ p0 ≤ 2147483647 := r_p0
    exact GO.retv rfl rfl dX5_refuse_17 ⟨rfl, rfl, ⟨by omega, (by first | exact Or.inl ⟨by omega, rfl⟩ | exact Or.inr ⟨by omega, _, by assumption, by assumption⟩)⟩⟩

set_option maxHeartbeats 1000000 in
theorem t_X5_deepen {K : Kmap} {V : Vmap} {x : Nat} {p0 : Int} (h_x : K x = some (0, 4)) (r_p0 : ir p0) (q_0 : vi V x 4 ≥ 0) (q_1 : vi V x 4 ≤ 8) (q_2 : p0 ≥ 0) : MC mX5_deepen K V [.ref x, ti p0] (VS K (fun V1 => ((vi V x 5 ≠ 0 → vi V1 x 5 ≠ 0) ∧ vi V1 x 4 = (vi V x 4 + 1) ∧ (vi V1 x 5 = 0 → vi V x 4 ≤ 7)) ∧ (CRg K V V1 x 0 1 0 (depS p0 (vi V x 4).toNat)))) := by
  refine MC.start 0 (by decide +kernel) rfl rfl rfl (ls0 := [some (.ref x), some (ti p0)]) rfl ?_
  refine GO.useWT (fun hW_0 => ?_)
  refine GO.aload_n dX5_deepen_0 rfl rfl ?_
  refine GO.callV (ci := 4) (N := mX5_next) dX5_deepen_1 (RX5, TX5, 7) rfl gV_RX5_61 h_x (t_X5_next h_x) rfl [] rfl rfl (Nat.le_of_ble_eq_true rfl) rfl (k_ip fun X1 r2 h3 => ?_)
  refine GO.iload_n dX5_deepen_4 rfl rfl ?_
  refine GO.icmp_eq (tgt := 20) dX5_deepen_5 (by decide) r2 r_p0 (fun c4 => ?_) (fun c4 => ?_)
  ·
    refine GO.aload_n dX5_deepen_20 rfl rfl ?_
    refine GO.getI h_x fl_RX5_15 rfl rfl dX5_deepen_21 (fun _ _ => ?_)
    refine GO.bipush dX5_deepen_24 rfl ?_
    refine GO.icmp_lt (tgt := 41) dX5_deepen_26 (by decide) vi_ir (ir_c rfl) (fun c5 => ?_) (fun c5 => ?_)
    ·
      refine GO.aload_n dX5_deepen_41 rfl rfl ?_
      refine GO.dup dX5_deepen_42 rfl ?_
      refine GO.getI h_x fl_RX5_9 rfl rfl dX5_deepen_43 (fun _ _ => ?_)
      refine GO.iconst dX5_deepen_46 ?_
      refine GO.iadd dX5_deepen_47 ?_
      refine GO.norm (fun z6 r7 hn8 => ?_)
      refine GO.putI h_x fp_RX5_9 rfl (by decide +kernel) r7 (r7).1 (r7).2 dX5_deepen_48 (fun V10 e9 => ?_)
      refine GO.useWT (fun hWd => ?_)
      refine GO.aload_n dX5_deepen_51 rfl rfl ?_
      refine GO.dup dX5_deepen_52 rfl ?_
      refine GO.getI h_x fl_RX5_15 rfl rfl dX5_deepen_53 (fun _ _ => ?_)
      have e11 : vi V10 x 4 = vi V x 4 := vi_up e9 (Or.inr (by decide))
      refine GO.iconst dX5_deepen_56 ?_
      refine GO.iadd dX5_deepen_57 ?_
      have q13 : -2147483648 ≤ vi V10 x 4 ∧ vi V10 x 4 ≤ 2147483647 := vi_ir
      have q14 : -2147483648 ≤ vi V x 4 ∧ vi V x 4 ≤ 2147483647 := vi_ir
      refine GO.putI h_x fp_RX5_15 rfl (by decide +kernel) ⟨by omega, by omega⟩ (by omega) (by omega) dX5_deepen_58 (fun V15 e12 => ?_)
      have q16 : -2147483648 ≤ vi V x 5 ∧ vi V x 5 ≤ 2147483647 := vi_ir
      have e18 : vi V10 x 5 = vi V x 5 := vi_up e9 (Or.inr (by decide))
      have e17 : vi V15 x 5 = vi V10 x 5 := vi_up e12 (Or.inr (by decide))
      have e19 : vi V15 x 4 = (vi V10 x 4) + 1 := upd2_int e12 ⟨by omega, by omega⟩
      exact GO.retv rfl rfl dX5_deepen_61 ⟨rfl, rfl, ⟨by omega, (by first | exact DEP.yes (by omega) (by omega) (by omega) h_x hW_0 hWd (by assumption) (by assumption) (by assumption) (by assumption))⟩⟩
    ·
      refine GO.aload_n dX5_deepen_29 rfl rfl ?_
      refine GO.iconst dX5_deepen_30 ?_
      refine GO.aload_n dX5_deepen_31 rfl rfl ?_
      refine GO.getI h_x fl_RX5_9 rfl rfl dX5_deepen_32 (fun _ _ => ?_)
      refine GO.callV (ci := 4) (N := mX5_refuse) dX5_deepen_35 (RX5, TX5, 7) rfl gV_RX5_57 h_x (t_X5_refuse h_x (ir_c rfl) vi_ir (by omega)) rfl [] rfl rfl (Nat.le_of_ble_eq_true rfl) rfl (k_vs fun V22 h21 hF20 => ?_)
      have raw_refuse := h21.2
      have rw35 := h21.2
      refine GO.goto (tgt := 51) dX5_deepen_38 (by decide) ?_
      refine GO.useWT (fun hWd => ?_)
      refine GO.aload_n dX5_deepen_51 rfl rfl ?_
      refine GO.dup dX5_deepen_52 rfl ?_
      refine GO.getI h_x fl_RX5_15 rfl rfl dX5_deepen_53 (fun _ _ => ?_)
      have e24 : vi V22 x 4 = vi V x 4 := vi_fr hF20 h_x h_x (by decide +kernel)
      refine GO.iconst dX5_deepen_56 ?_
      refine GO.iadd dX5_deepen_57 ?_
      have q26 : -2147483648 ≤ vi V22 x 4 ∧ vi V22 x 4 ≤ 2147483647 := vi_ir
      have q27 : -2147483648 ≤ vi V x 4 ∧ vi V x 4 ≤ 2147483647 := vi_ir
      refine GO.putI h_x fp_RX5_15 rfl (by decide +kernel) ⟨by omega, by omega⟩ (by omega) (by omega) dX5_deepen_58 (fun V28 e25 => ?_)
      have q29 : -2147483648 ≤ vi V x 5 ∧ vi V x 5 ≤ 2147483647 := vi_ir
      have e30 : vi V28 x 5 = vi V22 x 5 := vi_up e25 (Or.inr (by decide))
      have q31 : -2147483648 ≤ vi V22 x 5 ∧ vi V22 x 5 ≤ 2147483647 := vi_ir
      have e32 : vi V28 x 4 = (vi V22 x 4) + 1 := upd2_int e25 ⟨by omega, by omega⟩
      exact GO.retv rfl rfl dX5_deepen_61 ⟨rfl, rfl, ⟨by omega, (by first | exact DEP.yes (by omega) (by omega) (by omega) h_x hW_0 hWd (by assumption) (by assumption) (by assumption) (by assumption) | exact DEP.deep (by omega) (by omega) rw35 h_x hW_0 hWd vi_ir rfl (by assumption))⟩⟩
  ·
    refine GO.aload_n dX5_deepen_8 rfl rfl ?_
    refine GO.iconst dX5_deepen_9 ?_
    refine GO.aload_n dX5_deepen_10 rfl rfl ?_
    refine GO.getI h_x fl_RX5_9 rfl rfl dX5_deepen_11 (fun _ _ => ?_)
    refine GO.callV (ci := 4) (N := mX5_refuse) dX5_deepen_14 (RX5, TX5, 7) rfl gV_RX5_57 h_x (t_X5_refuse h_x (ir_c rfl) vi_ir (by omega)) rfl [] rfl rfl (Nat.le_of_ble_eq_true rfl) rfl (k_vs fun V35 h34 hF33 => ?_)
    have raw_refuse := h34.2
    have rw14 := h34.2
    refine GO.goto (tgt := 51) dX5_deepen_17 (by decide) ?_
    refine GO.useWT (fun hWd => ?_)
    refine GO.aload_n dX5_deepen_51 rfl rfl ?_
    refine GO.dup dX5_deepen_52 rfl ?_
    refine GO.getI h_x fl_RX5_15 rfl rfl dX5_deepen_53 (fun _ _ => ?_)
    have e37 : vi V35 x 4 = vi V x 4 := vi_fr hF33 h_x h_x (by decide +kernel)
    refine GO.iconst dX5_deepen_56 ?_
    refine GO.iadd dX5_deepen_57 ?_
    have q39 : -2147483648 ≤ vi V35 x 4 ∧ vi V35 x 4 ≤ 2147483647 := vi_ir
    have q40 : -2147483648 ≤ vi V x 4 ∧ vi V x 4 ≤ 2147483647 := vi_ir
    refine GO.putI h_x fp_RX5_15 rfl (by decide +kernel) ⟨by omega, by omega⟩ (by omega) (by omega) dX5_deepen_58 (fun V41 e38 => ?_)
    have q42 : -2147483648 ≤ vi V x 5 ∧ vi V x 5 ≤ 2147483647 := vi_ir
    have e43 : vi V41 x 5 = vi V35 x 5 := vi_up e38 (Or.inr (by decide))
    have q44 : -2147483648 ≤ vi V35 x 5 ∧ vi V35 x 5 ≤ 2147483647 := vi_ir
    have e45 : vi V41 x 4 = (vi V35 x 4) + 1 := upd2_int e38 ⟨by omega, by omega⟩
    exact GO.retv rfl rfl dX5_deepen_61 ⟨rfl, rfl, ⟨by omega, (by first | exact DEP.yes (by omega) (by omega) (by omega) h_x hW_0 hWd (by assumption) (by assumption) (by assumption) (by assumption) | exact DEP.no (by omega) rw14 h_x hW_0 hWd vi_ir rfl (by assumption))⟩⟩

set_option maxHeartbeats 1000000 in
theorem t_X5_isDigit {K : Kmap} {V : Vmap} {p0 : Int} (r_p0 : ir p0) : MC mX5_isDigit K V [ti p0] (IP K V (fun X => (X = 0 ∨ X = 1) ∧ (X ≠ 0 → p0 ≥ 48 ∧ p0 ≤ 57) ∧ (X = 0 → (p0 < 48 ∨ p0 > 57)))) := by
  refine MC.start 0 (by decide +kernel) rfl rfl rfl (ls0 := [some (ti p0)]) rfl ?_
  refine GO.iload_n dX5_isDigit_0 rfl rfl ?_
  refine GO.bipush dX5_isDigit_1 rfl ?_
  refine GO.icmp_lt (tgt := 16) dX5_isDigit_3 (by decide) r_p0 (ir_c rfl) (fun c1 => ?_) (fun c1 => ?_)
  ·
    refine GO.iconst dX5_isDigit_16 ?_
    exact GO.retz rfl rfl dX5_isDigit_17 (Or.inl rfl) ⟨rfl, rfl, _, rfl, (ir_c rfl), ⟨Or.inl rfl, fun h => absurd rfl h, fun h => by omega⟩⟩
  ·
    refine GO.iload_n dX5_isDigit_6 rfl rfl ?_
    refine GO.bipush dX5_isDigit_7 rfl ?_
    refine GO.icmp_gt (tgt := 16) dX5_isDigit_9 (by decide) r_p0 (ir_c rfl) (fun c2 => ?_) (fun c2 => ?_)
    ·
      refine GO.iconst dX5_isDigit_16 ?_
      exact GO.retz rfl rfl dX5_isDigit_17 (Or.inl rfl) ⟨rfl, rfl, _, rfl, (ir_c rfl), ⟨Or.inl rfl, fun h => absurd rfl h, fun h => by omega⟩⟩
    ·
      refine GO.iconst dX5_isDigit_12 ?_
      refine GO.goto (tgt := 17) dX5_isDigit_13 (by decide) ?_
      exact GO.retz rfl rfl dX5_isDigit_17 (Or.inr rfl) ⟨rfl, rfl, _, rfl, (ir_c rfl), ⟨Or.inr rfl, fun h => by omega, fun h => absurd h (by decide)⟩⟩

set_option maxHeartbeats 1000000 in
theorem t_X5_digits {K : Kmap} {V : Vmap} {x : Nat} {p0 : Int} (h_x : K x = some (0, 4)) (r_p0 : ir p0) : MC mX5_digits K V [.ref x, ti p0] (IS K (fun X V1 => (X ≥ 0 ∧ X ≤ 999999 ∧ (vi V x 5 ≠ 0 → vi V1 x 5 ≠ 0)) ∧ (DGT K V V1 x p0 X))) := by
  refine MC.start 3 (by decide +kernel) rfl rfl rfl (ls0 := [some (.ref x), some (ti p0), none, none, none]) rfl ?_
  refine GO.useWT (fun hW_0 => ?_)
  refine GO.aload_n dX5_digits_0 rfl rfl ?_
  refine GO.getI h_x fl_RX5_9 rfl rfl dX5_digits_1 (fun _ _ => ?_)
  refine GO.name (fun z1 hz2 => ?_)
  have r3 : ir z1 := hz2 ▸ vi_ir
  refine GO.istore_n (ls1 := [some (.ref x), some (ti p0), some (ti z1), none, none]) dX5_digits_4 rfl rfl rfl ?_
  refine GO.iconst dX5_digits_5 ?_
  refine GO.istore_n (ls1 := [some (.ref x), some (ti p0), some (ti z1), some (ti 0), none]) dX5_digits_6 rfl rfl rfl ?_
  refine GO.iconst dX5_digits_7 ?_
  refine GO.istore (ls1 := [some (.ref x), some (ti p0), some (ti z1), some (ti 0), some (ti 0)]) dX5_digits_8 rfl rfl ?_
  have q6 : -2147483648 ≤ vi V x 5 ∧ vi V x 5 ≤ 2147483647 := vi_ir
  refine GO.loop2 (fun i4 i5 W => 0 ≤ i4 ∧ i4 ≤ 999999 ∧ 0 ≤ i5 ∧ i5 ≤ 6 ∧ ((vi V x 5 ≠ 0 → vi W x 5 ≠ 0) ∧ i4 ≥ 0 ∧ i4 ≤ 999999 ∧ (i5 < 6 → i4 ≤ 99999) ∧ (i5 = 0 → i4 ≤ 0) ∧ (i5 = 1 → i4 ≤ 9) ∧ (i5 = 2 → i4 ≤ 99) ∧ (i5 = 3 → i4 ≤ 999) ∧ (i5 = 4 → i4 ≤ 9999) ∧ (i5 = 5 → i4 ≤ 99999) ∧ (i5 = 6 → i4 ≤ 999999)) ∧ (DGI K V W x i4 i5) ∧ True) (fun i4 i5 => [some (.ref x), some (ti p0), some (ti z1), some (ti i4), some (ti i5)]) (fun i4 i5 W => (2147483647 - i5).toNat) 0 0 ⟨by omega, by omega, by omega, by omega, by omega, (by first | exact DGI.nil), trivial⟩ rfl (fun i4 i5 Wi4 hp365 ih364 => ?_)
  obtain ⟨l_i4, u_i4, l_i5, u_i5, n_i4, hdg, -⟩ := hp365
  have r_i4 : ir i4 := ⟨by omega, by omega⟩
  have r_i5 : ir i5 := ⟨by omega, by omega⟩
  show GO mX5_digits K V (IS K (fun X V1 => (X ≥ 0 ∧ X ≤ 999999 ∧ (vi V x 5 ≠ 0 → vi V1 x 5 ≠ 0)) ∧ (DGT K V V1 x p0 X))) K Wi4 0 0 10 [some (.ref x), some (ti p0), some (ti z1), some (ti i4), some (ti i5)] []
  refine GO.useWT (fun hWh => ?_)
  refine GO.iload dX5_digits_10 rfl ?_
  refine GO.bipush dX5_digits_12 rfl ?_
  refine GO.icmp_gt (tgt := 81) dX5_digits_14 (by decide) r_i5 (ir_c rfl) (fun h => by exfalso; omega) (fun c366 => ?_)
  refine GO.aload_n dX5_digits_17 rfl rfl ?_
  refine GO.getI h_x fl_RX5_18 rfl rfl dX5_digits_18 (fun _ _ => ?_)
  refine GO.if_ne (tgt := 81) dX5_digits_21 (by decide) vi_ir (fun c367 => ?_) (fun c367 => ?_)
  ·
    refine GO.aload_n dX5_digits_81 rfl rfl ?_
    refine GO.getI h_x fl_RX5_9 rfl rfl dX5_digits_82 (fun _ _ => ?_)
    refine GO.iload_n dX5_digits_85 rfl rfl ?_
    refine GO.icmp_ne (tgt := 101) dX5_digits_86 (by decide) vi_ir r3 (fun c368 => ?_) (fun c368 => ?_)
    ·
      refine GO.iload_n dX5_digits_101 rfl rfl ?_
      refine GO.iload_n dX5_digits_102 rfl rfl ?_
      refine GO.icmp_le (tgt := 112) dX5_digits_103 (by decide) r_i4 r_p0 (fun c369 => ?_) (fun c369 => ?_)
      ·
        refine GO.iload_n dX5_digits_112 rfl rfl ?_
        have q370 : -2147483648 ≤ p0 ∧ p0 ≤ 2147483647 := r_p0
        have q371 : -2147483648 ≤ vi Wi4 x 5 ∧ vi Wi4 x 5 ≤ 2147483647 := vi_ir
        exact GO.reti rfl rfl dX5_digits_113 ⟨rfl, _, rfl, r_i4, ⟨(by first | exact trivial | omega), (by first | exact DGT.end hdg (by omega) h_x hWh (by omega) (Or.inr (Or.inr ⟨by omega, by omega, rfl, rfl⟩)))⟩⟩
      ·
        refine GO.aload_n dX5_digits_106 rfl rfl ?_
        refine GO.iconst dX5_digits_107 ?_
        refine GO.iload_n dX5_digits_108 rfl rfl ?_
        refine GO.callV (ci := 4) (N := mX5_refuse) dX5_digits_109 (RX5, TX5, 7) rfl gV_RX5_57 h_x (t_X5_refuse h_x (ir_c rfl) r3 (by omega)) rfl [] rfl rfl (Nat.le_of_ble_eq_true rfl) rfl (k_vs fun V374 h373 hF372 => ?_)
        have raw_refuse := h373.2
        have rw109 := h373.2
        refine GO.iload_n dX5_digits_112 rfl rfl ?_
        have q376 : -2147483648 ≤ p0 ∧ p0 ≤ 2147483647 := r_p0
        have q377 : -2147483648 ≤ vi V374 x 5 ∧ vi V374 x 5 ≤ 2147483647 := vi_ir
        exact GO.reti rfl rfl dX5_digits_113 ⟨rfl, _, rfl, r_i4, ⟨(by first | exact trivial | omega), (by first | exact DGT.end hdg (by omega) h_x hWh (by omega) (Or.inr (Or.inl ⟨by omega, by omega, _, by assumption, by omega, rw109⟩)) | exact DGT.end hdg (by omega) h_x hWh (by omega) (Or.inr (Or.inr ⟨by omega, by omega, rfl, rfl⟩)))⟩⟩
    ·
      refine GO.aload_n dX5_digits_89 rfl rfl ?_
      refine GO.iconst dX5_digits_90 ?_
      refine GO.aload_n dX5_digits_91 rfl rfl ?_
      refine GO.getI h_x fl_RX5_9 rfl rfl dX5_digits_92 (fun _ _ => ?_)
      refine GO.callV (ci := 4) (N := mX5_refuse) dX5_digits_95 (RX5, TX5, 7) rfl gV_RX5_57 h_x (t_X5_refuse h_x (ir_c rfl) vi_ir (by omega)) rfl [] rfl rfl (Nat.le_of_ble_eq_true rfl) rfl (k_vs fun V380 h379 hF378 => ?_)
      have raw_refuse := h379.2
      have rw95 := h379.2
      refine GO.goto (tgt := 112) dX5_digits_98 (by decide) ?_
      refine GO.iload_n dX5_digits_112 rfl rfl ?_
      have q382 : -2147483648 ≤ vi V380 x 5 ∧ vi V380 x 5 ≤ 2147483647 := vi_ir
      exact GO.reti rfl rfl dX5_digits_113 ⟨rfl, _, rfl, r_i4, ⟨(by first | exact trivial | omega), (by first | exact DGT.end hdg (by omega) h_x hWh (by omega) (Or.inl ⟨by omega, _, vi_ir, rfl, rw95⟩) | exact DGT.end hdg (by omega) h_x hWh (by omega) (Or.inr (Or.inr ⟨by omega, by omega, rfl, rfl⟩)))⟩⟩
  ·
    refine GO.aload_n dX5_digits_24 rfl rfl ?_
    refine GO.callV (ci := 4) (N := mX5_next) dX5_digits_25 (RX5, TX5, 7) rfl gV_RX5_61 h_x (t_X5_next h_x) rfl [] rfl rfl (Nat.le_of_ble_eq_true rfl) rfl (k_ip fun X383 r384 h385 => ?_)
    refine GO.callS (N := mX5_isDigit) dX5_digits_28 gS_RX5_124 (t_X5_isDigit r384) rfl [] rfl rfl (Nat.le_of_ble_eq_true rfl) rfl (k_ip fun X386 r387 h388 => ?_)
    refine GO.if_eq (tgt := 81) dX5_digits_31 (by decide) r387 (fun c389 => ?_) (fun c389 => ?_)
    ·
      have q390 := h388.2.2 (by omega)
      refine GO.aload_n dX5_digits_81 rfl rfl ?_
      refine GO.getI h_x fl_RX5_9 rfl rfl dX5_digits_82 (fun _ _ => ?_)
      refine GO.iload_n dX5_digits_85 rfl rfl ?_
      refine GO.icmp_ne (tgt := 101) dX5_digits_86 (by decide) vi_ir r3 (fun c391 => ?_) (fun c391 => ?_)
      ·
        refine GO.iload_n dX5_digits_101 rfl rfl ?_
        refine GO.iload_n dX5_digits_102 rfl rfl ?_
        refine GO.icmp_le (tgt := 112) dX5_digits_103 (by decide) r_i4 r_p0 (fun c392 => ?_) (fun c392 => ?_)
        ·
          refine GO.iload_n dX5_digits_112 rfl rfl ?_
          have q393 : -2147483648 ≤ p0 ∧ p0 ≤ 2147483647 := r_p0
          have q394 : -2147483648 ≤ vi Wi4 x 5 ∧ vi Wi4 x 5 ≤ 2147483647 := vi_ir
          exact GO.reti rfl rfl dX5_digits_113 ⟨rfl, _, rfl, r_i4, ⟨(by first | exact trivial | omega), (by first | exact DGT.end hdg (by omega) h_x hWh (by omega) (Or.inr (Or.inr ⟨by omega, by omega, rfl, rfl⟩)))⟩⟩
        ·
          refine GO.aload_n dX5_digits_106 rfl rfl ?_
          refine GO.iconst dX5_digits_107 ?_
          refine GO.iload_n dX5_digits_108 rfl rfl ?_
          refine GO.callV (ci := 4) (N := mX5_refuse) dX5_digits_109 (RX5, TX5, 7) rfl gV_RX5_57 h_x (t_X5_refuse h_x (ir_c rfl) r3 (by omega)) rfl [] rfl rfl (Nat.le_of_ble_eq_true rfl) rfl (k_vs fun V397 h396 hF395 => ?_)
          have raw_refuse := h396.2
          have rw109 := h396.2
          refine GO.iload_n dX5_digits_112 rfl rfl ?_
          have q399 : -2147483648 ≤ p0 ∧ p0 ≤ 2147483647 := r_p0
          have q400 : -2147483648 ≤ vi V397 x 5 ∧ vi V397 x 5 ≤ 2147483647 := vi_ir
          exact GO.reti rfl rfl dX5_digits_113 ⟨rfl, _, rfl, r_i4, ⟨(by first | exact trivial | omega), (by first | exact DGT.end hdg (by omega) h_x hWh (by omega) (Or.inr (Or.inl ⟨by omega, by omega, _, by assumption, by omega, rw109⟩)) | exact DGT.end hdg (by omega) h_x hWh (by omega) (Or.inr (Or.inr ⟨by omega, by omega, rfl, rfl⟩)))⟩⟩
      ·
        refine GO.aload_n dX5_digits_89 rfl rfl ?_
        refine GO.iconst dX5_digits_90 ?_
        refine GO.aload_n dX5_digits_91 rfl rfl ?_
        refine GO.getI h_x fl_RX5_9 rfl rfl dX5_digits_92 (fun _ _ => ?_)
        refine GO.callV (ci := 4) (N := mX5_refuse) dX5_digits_95 (RX5, TX5, 7) rfl gV_RX5_57 h_x (t_X5_refuse h_x (ir_c rfl) vi_ir (by omega)) rfl [] rfl rfl (Nat.le_of_ble_eq_true rfl) rfl (k_vs fun V403 h402 hF401 => ?_)
        have raw_refuse := h402.2
        have rw95 := h402.2
        refine GO.goto (tgt := 112) dX5_digits_98 (by decide) ?_
        refine GO.iload_n dX5_digits_112 rfl rfl ?_
        have q405 : -2147483648 ≤ vi V403 x 5 ∧ vi V403 x 5 ≤ 2147483647 := vi_ir
        exact GO.reti rfl rfl dX5_digits_113 ⟨rfl, _, rfl, r_i4, ⟨(by first | exact trivial | omega), (by first | exact DGT.end hdg (by omega) h_x hWh (by omega) (Or.inl ⟨by omega, _, vi_ir, rfl, rw95⟩) | exact DGT.end hdg (by omega) h_x hWh (by omega) (Or.inr (Or.inr ⟨by omega, by omega, rfl, rfl⟩)))⟩⟩
    ·
      have q406 := h388.2.1 (by omega)
      refine GO.iload dX5_digits_34 rfl ?_
      refine GO.bipush dX5_digits_36 rfl ?_
      refine GO.icmp_ne (tgt := 52) dX5_digits_38 (by decide) r_i5 (ir_c rfl) (fun c407 => ?_) (fun c407 => ?_)
      ·
        refine GO.bipush dX5_digits_52 rfl ?_
        refine GO.iload_n dX5_digits_54 rfl rfl ?_
        refine GO.imul dX5_digits_55 ?_
        refine GO.aload_n dX5_digits_56 rfl rfl ?_
        refine GO.callV (ci := 4) (N := mX5_next) dX5_digits_57 (RX5, TX5, 7) rfl gV_RX5_61 h_x (t_X5_next h_x) rfl [ti (10 * i4)] rfl rfl (Nat.le_of_ble_eq_true rfl) rfl (k_ip fun X408 r409 h410 => ?_)
        refine GO.iadd dX5_digits_60 ?_
        refine GO.bipush dX5_digits_61 rfl ?_
        refine GO.isub dX5_digits_63 ?_
        refine GO.name (fun z411 hz412 => ?_)
        refine GO.istore_n (ls1 := [some (.ref x), some (ti p0), some (ti z1), some (ti z411), some (ti i5)]) dX5_digits_64 rfl rfl rfl ?_
        refine GO.aload_n dX5_digits_65 rfl rfl ?_
        refine GO.dup dX5_digits_66 rfl ?_
        refine GO.getI h_x fl_RX5_9 rfl rfl dX5_digits_67 (fun _ _ => ?_)
        refine GO.iconst dX5_digits_70 ?_
        refine GO.iadd dX5_digits_71 ?_
        refine GO.norm (fun z413 r414 hn415 => ?_)
        refine GO.putI h_x fp_RX5_9 rfl (by decide +kernel) r414 (r414).1 (r414).2 dX5_digits_72 (fun V417 e416 => ?_)
        refine GO.iinc (X := i5) (n := 1) (Y := i5 + 1) (ls1 := [some (.ref x), some (ti p0), some (ti z1), some (ti z411), some (ti (i5 + 1))]) dX5_digits_75 rfl rfl rfl rfl ?_
        refine GO.goto (tgt := 10) dX5_digits_78 (by decide) ?_
        have e418 : vi V417 x 5 = vi Wi4 x 5 := vi_up e416 (Or.inr (by decide))
        have q419 : -2147483648 ≤ vi Wi4 x 5 ∧ vi Wi4 x 5 ≤ 2147483647 := vi_ir
        exact ih364 z411 (i5 + 1) V417 ⟨by omega, by omega, by omega, by omega, by omega, (by first | exact DGI.nil | exact DGI.step hdg h_x hWh (by omega) (by omega) (by omega) (by omega) (by omega) (by assumption) (by assumption) (by assumption)), trivial⟩ (by show (2147483647 - (i5 + 1)).toNat < (2147483647 - i5).toNat; omega)
      ·
        refine GO.aload_n dX5_digits_41 rfl rfl ?_
        refine GO.iconst dX5_digits_42 ?_
        refine GO.aload_n dX5_digits_43 rfl rfl ?_
        refine GO.getI h_x fl_RX5_9 rfl rfl dX5_digits_44 (fun _ _ => ?_)
        refine GO.callV (ci := 4) (N := mX5_refuse) dX5_digits_47 (RX5, TX5, 7) rfl gV_RX5_57 h_x (t_X5_refuse h_x (ir_c rfl) vi_ir (by omega)) rfl [] rfl rfl (Nat.le_of_ble_eq_true rfl) rfl (k_vs fun V422 h421 hF420 => ?_)
        have raw_refuse := h421.2
        have rw47 := h421.2
        refine GO.iconst dX5_digits_50 ?_
        have q424 : -2147483648 ≤ vi V422 x 5 ∧ vi V422 x 5 ≤ 2147483647 := vi_ir
        exact GO.reti rfl rfl dX5_digits_51 ⟨rfl, _, rfl, (ir_c rfl), ⟨(by first | exact trivial | omega), (by first | exact DGT.long hdg (by omega) (by omega) (by omega) rw47 h_x hWh vi_ir rfl | exact DGT.end hdg (by omega) h_x hWh (by omega) (Or.inr (Or.inr ⟨by omega, by omega, rfl, rfl⟩)))⟩⟩

set_option maxHeartbeats 1000000 in
theorem t_X4_put_t144 {K : Kmap} {V : Vmap} {p0 n_p0 : Nat} {p1 : Int} {p2 : Int} (h_p0 : K p0 = some (145, n_p0)) (r_p1 : ir p1) (r_p2 : ir p2) : MC mX4_put_t144 K V [.ref p0, ti p1, ti p2] (VS K (fun V1 => (True) ∧ (V1 = rpv V p0 n_p0 p1 p2))) := by
  refine MC.start 0 (by decide +kernel) rfl rfl rfl (ls0 := [some (.ref p0), some (ti p1), some (ti p2)]) rfl ?_
  refine GO.aload_n dX4_put_0 rfl rfl ?_
  refine GO.ifnull dX4_put_1 ?_
  refine GO.iload_n dX4_put_4 rfl rfl ?_
  refine GO.if_lt (tgt := 18) dX4_put_5 (by decide) r_p1 (fun c1 => ?_) (fun c1 => ?_)
  ·
    exact GO.retv rfl rfl dX4_put_18 ⟨rfl, rfl, ⟨trivial, (by first | exact rpv_in (by assumption) (by omega) (by omega) | exact rpv_out (by omega))⟩⟩
  ·
    refine GO.iload_n dX4_put_8 rfl rfl ?_
    refine GO.aload_n dX4_put_9 rfl rfl ?_
    refine GO.alen h_p0 dX4_put_10 (fun h2 => ?_)
    refine GO.icmp_ge (tgt := 18) dX4_put_11 (by decide) r_p1 ⟨by omega, by omega⟩ (fun c3 => ?_) (fun c3 => ?_)
    ·
      exact GO.retv rfl rfl dX4_put_18 ⟨rfl, rfl, ⟨trivial, (by first | exact rpv_in (by assumption) (by omega) (by omega) | exact rpv_out (by omega))⟩⟩
    ·
      refine GO.aload_n dX4_put_14 rfl rfl ?_
      refine GO.iload_n dX4_put_15 rfl rfl ?_
      refine GO.iload_n dX4_put_16 rfl rfl ?_
      have q4 : -2147483648 ≤ p1 ∧ p1 ≤ 2147483647 := r_p1
      refine GO.iast (t := 144) rfl rfl (by decide +kernel) h_p0 r_p1 (by omega) (by omega) r_p2 (r_p2).1 (r_p2).2 dX4_put_17 (fun V6 e5 => ?_)
      exact GO.retv rfl rfl dX4_put_18 ⟨rfl, rfl, ⟨trivial, (by first | exact rpv_in (by assumption) (by omega) (by omega) | exact rpv_out (by omega))⟩⟩

set_option maxHeartbeats 1000000 in
theorem t_X9_addStep {K : Kmap} {V : Vmap} {x : Nat} {p0 : Int} {p1 : Int} (h_x : K x = some (0, 8)) (r_p0 : ir p0) (r_p1 : ir p1) : MC mX9_addStep K V [.ref x, ti p0, ti p1] (IS K (fun X V1 => (X ≥ (-2147483648) ∧ X ≤ 2147483647) ∧ (ADD K V V1 x p0 p1 X))) := by
  refine MC.start 1 (by decide +kernel) rfl rfl rfl (ls0 := [some (.ref x), some (ti p0), some (ti p1), none]) rfl ?_
  refine GO.aload_n dX9_addStep_0 rfl rfl ?_
  refine GO.getI h_x fl_RX9_9 rfl rfl dX9_addStep_1 (fun _ _ => ?_)
  refine GO.name (fun z1 hz2 => ?_)
  have r3 : ir z1 := hz2 ▸ vi_ir
  refine GO.istore_n (ls1 := [some (.ref x), some (ti p0), some (ti p1), some (ti z1)]) dX9_addStep_4 rfl rfl rfl ?_
  refine GO.aload_n dX9_addStep_5 rfl rfl ?_
  refine GO.getB h_x fl_RX9_36 rfl rfl dX9_addStep_6 (fun n6 hv5 h4 b7 => ?_)
  refine GO.iload_n dX9_addStep_9 rfl rfl ?_
  refine GO.iload_n dX9_addStep_10 rfl rfl ?_
  refine GO.iconst dX9_addStep_11 ?_
  refine GO.ishl dX9_addStep_12 ?_
  refine GO.iload_n dX9_addStep_13 rfl rfl ?_
  refine GO.ior dX9_addStep_14 ?_
  refine GO.callS (N := mX4_put_t144) dX9_addStep_15 gS_RX9_47 (t_X4_put_t144 h4 r3 wor_ir) rfl [] rfl rfl (Nat.le_of_ble_eq_true rfl) rfl (k_vs fun V10 h9 hF8 => ?_)
  have raw_put := h9.2
  have rw15 := h9.2
  refine GO.aload_n dX9_addStep_18 rfl rfl ?_
  refine GO.dup dX9_addStep_19 rfl ?_
  refine GO.getI h_x fl_RX9_9 rfl rfl dX9_addStep_20 (fun _ _ => ?_)
  have e11 : vi V10 x 4 = vi V x 4 := vi_fr hF8 h_x h_x (by decide +kernel)
  refine GO.iconst dX9_addStep_23 ?_
  refine GO.iadd dX9_addStep_24 ?_
  refine GO.norm (fun z12 r13 hn14 => ?_)
  refine GO.putI h_x fp_RX9_9 rfl (by decide +kernel) r13 (r13).1 (r13).2 dX9_addStep_25 (fun V16 e15 => ?_)
  refine GO.iload_n dX9_addStep_28 rfl rfl ?_
  have q17 : -2147483648 ≤ z1 ∧ z1 ≤ 2147483647 := r3
  have q18 : -2147483648 ≤ vi V x 4 ∧ vi V x 4 ≤ 2147483647 := vi_ir
  have q19 : -2147483648 ≤ vi V10 x 4 ∧ vi V10 x 4 ≤ 2147483647 := vi_ir
  exact GO.reti rfl rfl dX9_addStep_29 ⟨rfl, _, rfl, r3, ⟨(by first | exact trivial | omega), ADD.mk (by omega) (by assumption) rw15 (by omega) (by assumption) (by assumption) (by assumption)⟩⟩

set_option maxHeartbeats 1000000 in
theorem t_X5_factor_0_F {K : Kmap} {V : Vmap} {x : Nat} (h_x : K x = some (0, 4)) (q_0 : vi V x 5 ≠ 0) : MC mX5_factor_0 K V [.ref x] (VS K (fun V1 => (vi V1 x 4 = vi V x 4 ∧ (vi V x 5 ≠ 0 → vi V1 x 5 ≠ 0)) ∧ (CR K V V1 x (fun src e => facD src e (vi V x 4).toNat)))) := by
  refine MC.start 2 (by decide +kernel) rfl rfl rfl (ls0 := [some (.ref x), none, none]) rfl ?_
  refine GO.useWT (fun hW_0 => ?_)
  refine GO.aload_n dX5_factor_0 rfl rfl ?_
  refine GO.getI h_x fl_RX5_18 rfl rfl dX5_factor_1 (fun _ _ => ?_)
  have q2 : -2147483648 ≤ vi V x 5 ∧ vi V x 5 ≤ 2147483647 := vi_ir
  refine GO.if_eq (tgt := 8) dX5_factor_4 (by decide) vi_ir (fun h => by exfalso; omega) (fun c1 => ?_)
  have q3 : -2147483648 ≤ vi V x 4 ∧ vi V x 4 ≤ 2147483647 := vi_ir
  exact GO.retv rfl rfl dX5_factor_7 ⟨rfl, rfl, ⟨by omega, (by first | exact CRg.bad (by omega))⟩⟩

theorem t_X5_factor_0 {K : Kmap} {V : Vmap} {x : Nat} (h_x : K x = some (0, 4)) (q_0 : vi V x 5 ≠ 0) : MC mX5_factor_0 K V [.ref x] (VS K (fun V1 => (vi V1 x 4 = vi V x 4 ∧ (vi V x 5 ≠ 0 → vi V1 x 5 ≠ 0)) ∧ (CR K V V1 x (fun src e => facD src e (vi V x 4).toNat)))) := by
  exact t_X5_factor_0_F h_x (by omega)

set_option maxHeartbeats 1000000 in
theorem t_X5_isFactorSign {K : Kmap} {V : Vmap} {p0 : Int} (r_p0 : ir p0) : MC mX5_isFactorSign K V [ti p0] (IP K V (fun X => (X = 0 ∨ X = 1) ∧ (X ≠ 0 → (p0 = 42 ∨ p0 = 47 ∨ p0 = 37)) ∧ (X = 0 → p0 ≠ 42 ∧ p0 ≠ 47 ∧ p0 ≠ 37))) := by
  refine MC.start 0 (by decide +kernel) rfl rfl rfl (ls0 := [some (ti p0)]) rfl ?_
  refine GO.iload_n dX5_isFactorSign_0 rfl rfl ?_
  refine GO.bipush dX5_isFactorSign_1 rfl ?_
  refine GO.icmp_eq (tgt := 18) dX5_isFactorSign_3 (by decide) r_p0 (ir_c rfl) (fun c1 => ?_) (fun c1 => ?_)
  ·
    refine GO.iconst dX5_isFactorSign_18 ?_
    refine GO.goto (tgt := 23) dX5_isFactorSign_19 (by decide) ?_
    exact GO.retz rfl rfl dX5_isFactorSign_23 (Or.inr rfl) ⟨rfl, rfl, _, rfl, (ir_c rfl), ⟨Or.inr rfl, fun h => by omega, fun h => absurd h (by decide)⟩⟩
  ·
    refine GO.iload_n dX5_isFactorSign_6 rfl rfl ?_
    refine GO.bipush dX5_isFactorSign_7 rfl ?_
    refine GO.icmp_eq (tgt := 18) dX5_isFactorSign_9 (by decide) r_p0 (ir_c rfl) (fun c2 => ?_) (fun c2 => ?_)
    ·
      refine GO.iconst dX5_isFactorSign_18 ?_
      refine GO.goto (tgt := 23) dX5_isFactorSign_19 (by decide) ?_
      exact GO.retz rfl rfl dX5_isFactorSign_23 (Or.inr rfl) ⟨rfl, rfl, _, rfl, (ir_c rfl), ⟨Or.inr rfl, fun h => by omega, fun h => absurd h (by decide)⟩⟩
    ·
      refine GO.iload_n dX5_isFactorSign_12 rfl rfl ?_
      refine GO.bipush dX5_isFactorSign_13 rfl ?_
      refine GO.icmp_ne (tgt := 22) dX5_isFactorSign_15 (by decide) r_p0 (ir_c rfl) (fun c3 => ?_) (fun c3 => ?_)
      ·
        refine GO.iconst dX5_isFactorSign_22 ?_
        exact GO.retz rfl rfl dX5_isFactorSign_23 (Or.inl rfl) ⟨rfl, rfl, _, rfl, (ir_c rfl), ⟨Or.inl rfl, fun h => absurd rfl h, fun h => by omega⟩⟩
      ·
        refine GO.iconst dX5_isFactorSign_18 ?_
        refine GO.goto (tgt := 23) dX5_isFactorSign_19 (by decide) ?_
        exact GO.retz rfl rfl dX5_isFactorSign_23 (Or.inr rfl) ⟨rfl, rfl, _, rfl, (ir_c rfl), ⟨Or.inr rfl, fun h => by omega, fun h => absurd h (by decide)⟩⟩

set_option maxHeartbeats 1000000 in
theorem t_X5_factors_0_F {K : Kmap} {V : Vmap} {x : Nat} (h_x : K x = some (0, 4)) (q_0 : vi V x 5 ≠ 0) : MC mX5_factors_0 K V [.ref x] (VS K (fun V1 => (vi V1 x 4 = vi V x 4 ∧ (vi V x 5 ≠ 0 → vi V1 x 5 ≠ 0)) ∧ (CR K V V1 x (fun src e => facsG src e (facD src e (vi V x 4).toNat))))) := by
  refine MC.start 2 (by decide +kernel) rfl rfl rfl (ls0 := [some (.ref x), none, none]) rfl ?_
  refine GO.useWT (fun hW_0 => ?_)
  refine GO.aload_n dX5_factors_0 rfl rfl ?_
  have q1 : -2147483648 ≤ vi V x 5 ∧ vi V x 5 ≤ 2147483647 := vi_ir
  refine GO.callV (ci := 4) (N := mX5_factor_0) dX5_factors_1 (RX5, TX5, 7) rfl gV_RX5_111 h_x (t_X5_factor_0 h_x (by omega)) rfl [] rfl rfl (Nat.le_of_ble_eq_true rfl) rfl (k_vs fun V4 h3 hF2 => ?_)
  have raw_factor := h3.2
  have rw1 := h3.2
  have e5 : vi V4 x 4 = vi V x 4 := vi_fr hF2 h_x h_x (by decide +kernel)
  have e6 : vi V4 x 5 = vi V x 5 := vi_fr hF2 h_x h_x (by decide +kernel)
  refine GO.iconst dX5_factors_4 ?_
  refine GO.istore_n (ls1 := [some (.ref x), some (ti 0), none]) dX5_factors_5 rfl rfl rfl ?_
  have q8 : -2147483648 ≤ vi V x 4 ∧ vi V x 4 ≤ 2147483647 := vi_ir
  refine GO.loop1 (fun i7 W => 0 ≤ i7 ∧ i7 ≤ 0 ∧ (vi W x 4 = vi V4 x 4 ∧ (vi V4 x 5 ≠ 0 → vi W x 5 ≠ 0)) ∧ (FSI K V W x (vi V x 4).toNat i7) ∧ True) (fun i7 => [some (.ref x), some (ti i7), none]) (fun i7 W => (2147483647 - i7).toNat) 0 ⟨by omega, by omega, by omega, (by first | exact FSI.beg rw1), trivial⟩ rfl (fun i7 Wi7 hp14 ih13 => ?_)
  obtain ⟨l_i7, u_i7, n_i7, hfs, -⟩ := hp14
  have r_i7 : ir i7 := ⟨by omega, by omega⟩
  show GO mX5_factors_0 K V (VS K (fun V1 => (vi V1 x 4 = vi V x 4 ∧ (vi V x 5 ≠ 0 → vi V1 x 5 ≠ 0)) ∧ (CR K V V1 x (fun src e => facsG src e (facD src e (vi V x 4).toNat))))) K Wi7 0 0 6 [some (.ref x), some (ti i7), none] []
  refine GO.useWT (fun hWh => ?_)
  refine GO.iload_n dX5_factors_6 rfl rfl ?_
  refine GO.sipush dX5_factors_7 rfl ?_
  refine GO.icmp_ge (tgt := 91) dX5_factors_10 (by decide) r_i7 (ir_c rfl) (fun h => by exfalso; omega) (fun c15 => ?_)
  refine GO.aload_n dX5_factors_13 rfl rfl ?_
  refine GO.getI h_x fl_RX5_18 rfl rfl dX5_factors_14 (fun _ _ => ?_)
  have q17 : -2147483648 ≤ vi Wi7 x 5 ∧ vi Wi7 x 5 ≤ 2147483647 := vi_ir
  refine GO.if_ne (tgt := 91) dX5_factors_17 (by decide) vi_ir (fun c16 => ?_) (fun h => by exfalso; omega)
  have q18 : -2147483648 ≤ vi Wi7 x 4 ∧ vi Wi7 x 4 ≤ 2147483647 := vi_ir
  exact GO.retv rfl rfl dX5_factors_91 ⟨rfl, rfl, ⟨by omega, FSI.end hfs (by omega) (by omega)⟩⟩

theorem t_X5_factors_0 {K : Kmap} {V : Vmap} {x : Nat} (h_x : K x = some (0, 4)) (q_0 : vi V x 5 ≠ 0) : MC mX5_factors_0 K V [.ref x] (VS K (fun V1 => (vi V1 x 4 = vi V x 4 ∧ (vi V x 5 ≠ 0 → vi V1 x 5 ≠ 0)) ∧ (CR K V V1 x (fun src e => facsG src e (facD src e (vi V x 4).toNat))))) := by
  exact t_X5_factors_0_F h_x (by omega)

set_option maxHeartbeats 1000000 in
theorem t_X5_terms_0_F {K : Kmap} {V : Vmap} {x : Nat} (h_x : K x = some (0, 4)) (q_0 : vi V x 5 ≠ 0) : MC mX5_terms_0 K V [.ref x] (VS K (fun V1 => (vi V1 x 4 = vi V x 4 ∧ (vi V x 5 ≠ 0 → vi V1 x 5 ≠ 0)) ∧ (CR K V V1 x (fun src e => terD src e (vi V x 4).toNat)))) := by
  refine MC.start 2 (by decide +kernel) rfl rfl rfl (ls0 := [some (.ref x), none, none]) rfl ?_
  refine GO.useWT (fun hW_0 => ?_)
  refine GO.aload_n dX5_terms_0 rfl rfl ?_
  have q1 : -2147483648 ≤ vi V x 5 ∧ vi V x 5 ≤ 2147483647 := vi_ir
  refine GO.callV (ci := 4) (N := mX5_factors_0) dX5_terms_1 (RX5, TX5, 7) rfl gV_RX5_108 h_x (t_X5_factors_0 h_x (by omega)) rfl [] rfl rfl (Nat.le_of_ble_eq_true rfl) rfl (k_vs fun V4 h3 hF2 => ?_)
  have raw_factors := h3.2
  have rw1 := h3.2
  have e5 : vi V4 x 4 = vi V x 4 := vi_fr hF2 h_x h_x (by decide +kernel)
  have e6 : vi V4 x 5 = vi V x 5 := vi_fr hF2 h_x h_x (by decide +kernel)
  refine GO.iconst dX5_terms_4 ?_
  refine GO.istore_n (ls1 := [some (.ref x), some (ti 0), none]) dX5_terms_5 rfl rfl rfl ?_
  have q8 : -2147483648 ≤ vi V x 4 ∧ vi V x 4 ≤ 2147483647 := vi_ir
  refine GO.loop1 (fun i7 W => 0 ≤ i7 ∧ i7 ≤ 0 ∧ (vi W x 4 = vi V4 x 4 ∧ (vi V4 x 5 ≠ 0 → vi W x 5 ≠ 0)) ∧ (TSI K V W x (vi V x 4).toNat i7) ∧ True) (fun i7 => [some (.ref x), some (ti i7), none]) (fun i7 W => (2147483647 - i7).toNat) 0 ⟨by omega, by omega, by omega, (by first | exact TSI.beg rw1 (by omega) | exact TSI.bad rw1 (by omega)), trivial⟩ rfl (fun i7 Wi7 hp14 ih13 => ?_)
  obtain ⟨l_i7, u_i7, n_i7, hts, -⟩ := hp14
  have r_i7 : ir i7 := ⟨by omega, by omega⟩
  show GO mX5_terms_0 K V (VS K (fun V1 => (vi V1 x 4 = vi V x 4 ∧ (vi V x 5 ≠ 0 → vi V1 x 5 ≠ 0)) ∧ (CR K V V1 x (fun src e => terD src e (vi V x 4).toNat)))) K Wi7 0 0 6 [some (.ref x), some (ti i7), none] []
  refine GO.useWT (fun hWh => ?_)
  refine GO.iload_n dX5_terms_6 rfl rfl ?_
  refine GO.sipush dX5_terms_7 rfl ?_
  refine GO.icmp_ge (tgt := 84) dX5_terms_10 (by decide) r_i7 (ir_c rfl) (fun h => by exfalso; omega) (fun c15 => ?_)
  refine GO.aload_n dX5_terms_13 rfl rfl ?_
  refine GO.getI h_x fl_RX5_18 rfl rfl dX5_terms_14 (fun _ _ => ?_)
  have q17 : -2147483648 ≤ vi Wi7 x 5 ∧ vi Wi7 x 5 ≤ 2147483647 := vi_ir
  refine GO.if_ne (tgt := 84) dX5_terms_17 (by decide) vi_ir (fun c16 => ?_) (fun h => by exfalso; omega)
  have q18 : -2147483648 ≤ vi Wi7 x 4 ∧ vi Wi7 x 4 ≤ 2147483647 := vi_ir
  exact GO.retv rfl rfl dX5_terms_84 ⟨rfl, rfl, ⟨by omega, TSI.end hts (by omega) (by omega)⟩⟩

theorem t_X5_terms_0 {K : Kmap} {V : Vmap} {x : Nat} (h_x : K x = some (0, 4)) (q_0 : vi V x 5 ≠ 0) : MC mX5_terms_0 K V [.ref x] (VS K (fun V1 => (vi V1 x 4 = vi V x 4 ∧ (vi V x 5 ≠ 0 → vi V1 x 5 ≠ 0)) ∧ (CR K V V1 x (fun src e => terD src e (vi V x 4).toNat)))) := by
  exact t_X5_terms_0_F h_x (by omega)

set_option maxHeartbeats 1000000 in
theorem t_X5_take {K : Kmap} {V : Vmap} {x : Nat} {p0 : Int} (h_x : K x = some (0, 4)) (r_p0 : ir p0) (q_0 : p0 ≥ 0) : MC mX5_take K V [.ref x, ti p0] (VS K (fun V1 => ((vi V x 5 ≠ 0 → vi V1 x 5 ≠ 0)) ∧ (CRg K V V1 x 0 1 0 (fun src e => tak src e p0)))) := by
  refine MC.start 0 (by decide +kernel) rfl rfl rfl (ls0 := [some (.ref x), some (ti p0)]) rfl ?_
  refine GO.useWT (fun hW_0 => ?_)
  refine GO.aload_n dX5_take_0 rfl rfl ?_
  refine GO.callV (ci := 4) (N := mX5_next) dX5_take_1 (RX5, TX5, 7) rfl gV_RX5_61 h_x (t_X5_next h_x) rfl [] rfl rfl (Nat.le_of_ble_eq_true rfl) rfl (k_ip fun X1 r2 h3 => ?_)
  refine GO.iload_n dX5_take_4 rfl rfl ?_
  refine GO.icmp_eq (tgt := 20) dX5_take_5 (by decide) r2 r_p0 (fun c4 => ?_) (fun c4 => ?_)
  ·
    refine GO.aload_n dX5_take_20 rfl rfl ?_
    refine GO.getI h_x fl_RX5_18 rfl rfl dX5_take_21 (fun _ _ => ?_)
    refine GO.if_ne (tgt := 37) dX5_take_24 (by decide) vi_ir (fun c5 => ?_) (fun c5 => ?_)
    ·
      have q6 : -2147483648 ≤ vi V x 5 ∧ vi V x 5 ≤ 2147483647 := vi_ir
      exact GO.retv rfl rfl dX5_take_37 ⟨rfl, rfl, ⟨by omega, (by first | exact CRg.bad (by omega) | exact CRg.adv h_x hW_0 (by omega) (by omega) (by assumption) (by assumption) (by assumption))⟩⟩
    ·
      refine GO.aload_n dX5_take_27 rfl rfl ?_
      refine GO.dup dX5_take_28 rfl ?_
      refine GO.getI h_x fl_RX5_9 rfl rfl dX5_take_29 (fun _ _ => ?_)
      refine GO.iconst dX5_take_32 ?_
      refine GO.iadd dX5_take_33 ?_
      refine GO.norm (fun z7 r8 hn9 => ?_)
      refine GO.putI h_x fp_RX5_9 rfl (by decide +kernel) r8 (r8).1 (r8).2 dX5_take_34 (fun V11 e10 => ?_)
      have q12 : -2147483648 ≤ vi V x 5 ∧ vi V x 5 ≤ 2147483647 := vi_ir
      have e13 : vi V11 x 5 = vi V x 5 := vi_up e10 (Or.inr (by decide))
      exact GO.retv rfl rfl dX5_take_37 ⟨rfl, rfl, ⟨by omega, (by first | exact CRg.bad (by omega) | exact CRg.adv h_x hW_0 (by omega) (by omega) (by assumption) (by assumption) (by assumption))⟩⟩
  ·
    refine GO.aload_n dX5_take_8 rfl rfl ?_
    refine GO.iconst dX5_take_9 ?_
    refine GO.aload_n dX5_take_10 rfl rfl ?_
    refine GO.getI h_x fl_RX5_9 rfl rfl dX5_take_11 (fun _ _ => ?_)
    refine GO.callV (ci := 4) (N := mX5_refuse) dX5_take_14 (RX5, TX5, 7) rfl gV_RX5_57 h_x (t_X5_refuse h_x (ir_c rfl) vi_ir (by omega)) rfl [] rfl rfl (Nat.le_of_ble_eq_true rfl) rfl (k_vs fun V16 h15 hF14 => ?_)
    have raw_refuse := h15.2
    have rw14 := h15.2
    refine GO.goto (tgt := 37) dX5_take_17 (by decide) ?_
    have q18 : -2147483648 ≤ vi V x 5 ∧ vi V x 5 ≤ 2147483647 := vi_ir
    have q19 : -2147483648 ≤ vi V16 x 5 ∧ vi V16 x 5 ≤ 2147483647 := vi_ir
    exact GO.retv rfl rfl dX5_take_37 ⟨rfl, rfl, ⟨by omega, (by first | exact CRg.bad (by omega) | exact CRg.adv h_x hW_0 (by omega) (by omega) (by assumption) (by assumption) (by assumption) | exact TAK.no (by omega) rw14 h_x hW_0 vi_ir rfl)⟩⟩

set_option maxHeartbeats 1000000 in
theorem t_X5_factor_1_F {K : Kmap} {V : Vmap} {x : Nat} (h_x : K x = some (0, 4)) (q_0 : vi V x 5 ≠ 0) : MC mX5_factor_1 K V [.ref x] (VS K (fun V1 => (vi V1 x 4 = vi V x 4 ∧ (vi V x 5 ≠ 0 → vi V1 x 5 ≠ 0)) ∧ (CR K V V1 x (fun src e => facD src e (vi V x 4).toNat)))) := by
  refine MC.start 2 (by decide +kernel) rfl rfl rfl (ls0 := [some (.ref x), none, none]) rfl ?_
  refine GO.useWT (fun hW_0 => ?_)
  refine GO.aload_n dX5_factor_0 rfl rfl ?_
  refine GO.getI h_x fl_RX5_18 rfl rfl dX5_factor_1 (fun _ _ => ?_)
  have q2 : -2147483648 ≤ vi V x 5 ∧ vi V x 5 ≤ 2147483647 := vi_ir
  refine GO.if_eq (tgt := 8) dX5_factor_4 (by decide) vi_ir (fun h => by exfalso; omega) (fun c1 => ?_)
  have q3 : -2147483648 ≤ vi V x 4 ∧ vi V x 4 ≤ 2147483647 := vi_ir
  exact GO.retv rfl rfl dX5_factor_7 ⟨rfl, rfl, ⟨by omega, (by first | exact CRg.bad (by omega))⟩⟩

set_option maxHeartbeats 1000000 in
theorem t_X5_factor_1_G {K : Kmap} {V : Vmap} {x : Nat} (h_x : K x = some (0, 4)) (q_0 : vi V x 5 = 0) (q_1 : vi V x 4 ≥ 8) (q_2 : vi V x 4 ≤ 8) : MC mX5_factor_1 K V [.ref x] (VS K (fun V1 => (vi V1 x 4 = vi V x 4 ∧ (vi V x 5 ≠ 0 → vi V1 x 5 ≠ 0)) ∧ (CR K V V1 x (fun src e => facD src e (vi V x 4).toNat)))) := by
  refine MC.start 2 (by decide +kernel) rfl rfl rfl (ls0 := [some (.ref x), none, none]) rfl ?_
  refine GO.useWT (fun hW_0 => ?_)
  refine GO.aload_n dX5_factor_0 rfl rfl ?_
  refine GO.getI h_x fl_RX5_18 rfl rfl dX5_factor_1 (fun _ _ => ?_)
  have q2 : -2147483648 ≤ vi V x 5 ∧ vi V x 5 ≤ 2147483647 := vi_ir
  refine GO.if_eq (tgt := 8) dX5_factor_4 (by decide) vi_ir (fun c1 => ?_) (fun h => by exfalso; omega)
  refine GO.aload_n dX5_factor_8 rfl rfl ?_
  refine GO.callV (ci := 4) (N := mX5_next) dX5_factor_9 (RX5, TX5, 7) rfl gV_RX5_61 h_x (t_X5_next h_x) rfl [] rfl rfl (Nat.le_of_ble_eq_true rfl) rfl (k_ip fun X3 r4 h5 => ?_)
  refine GO.istore_n (ls1 := [some (.ref x), some (ti X3), none]) dX5_factor_12 rfl rfl rfl ?_
  refine GO.iload_n dX5_factor_13 rfl rfl ?_
  refine GO.if_ge (tgt := 21) dX5_factor_14 (by decide) r4 (fun c6 => ?_) (fun c6 => ?_)
  ·
    refine GO.letters dX5_factor_21 dX5_factor_23 dX5_factor_24 dX5_factor_25 rfl gV_RX5_119 rfl rfl (Nat.le_of_ble_eq_true rfl) rfl rfl (fun X7 r8 h9 hlet => ?_)
    refine GO.istore_n (ls1 := [some (.ref x), some (ti X3), some (ti X7)]) dX5_factor_28 rfl rfl rfl ?_
    have hlt : 0 ≤ sgC V x → sgC V x ≤ 255 → X7 = letN (sgC V x) := by first | (intro g0 g1; exfalso; omega) | (intro g0 g1; have hq := hlet (by omega) (by omega); rw [show sgC V x = X3 by omega]; exact hq)
    refine GO.iload_n dX5_factor_29 rfl rfl ?_
    refine GO.bipush dX5_factor_30 rfl ?_
    refine GO.icmp_ne (tgt := 64) dX5_factor_32 (by decide) r4 (ir_c rfl) (fun c10 => ?_) (fun c10 => ?_)
    ·
      refine GO.iload_n dX5_factor_64 rfl rfl ?_
      refine GO.if_lt (tgt := 91) dX5_factor_65 (by decide) r8 (fun c11 => ?_) (fun c11 => ?_)
      ·
        refine GO.aload_n dX5_factor_91 rfl rfl ?_
        refine GO.getR h_x fl_RX5_31 rfl rfl dX5_factor_92 (fun hv13 h12 => ?_)
        refine GO.iconst dX5_factor_95 ?_
        refine GO.aload_n dX5_factor_96 rfl rfl ?_
        refine GO.ldc (X := 999999) dX5_factor_97 gw_790 rfl ?_
        refine GO.callV (ci := 4) (N := mX5_digits) dX5_factor_99 (RX5, TX5, 7) rfl gV_RX5_69 h_x (t_X5_digits h_x (ir_c rfl)) rfl [ti 0, .ref (vq V x 2)] rfl rfl (Nat.le_of_ble_eq_true rfl) rfl (k_is fun X14 V18 r15 h16 hF17 => ?_)
        have raw_digits := h16.2
        have rw99 := h16.2
        refine GO.useWT (fun hWn => ?_)
        refine GO.callV (ci := 8) (N := mX9_addStep) dX5_factor_102 (RX9, TX9, 5) rfl gV_RX5_92 h12 (t_X9_addStep h12 (ir_c rfl) r15) rfl [] rfl rfl (Nat.le_of_ble_eq_true rfl) rfl (k_is fun X20 V24 r21 h22 hF23 => ?_)
        have raw_addStep := h22.2
        have rw102 := h22.2
        refine GO.pop dX5_factor_105 rfl ?_
        have e26 : vi V18 x 4 = vi V x 4 := vi_fr hF17 h_x h_x (by decide +kernel)
        have e25 : vi V24 x 4 = vi V18 x 4 := vi_fr hF23 h_x h_x (by decide +kernel)
        have q27 : -2147483648 ≤ vi V x 4 ∧ vi V x 4 ≤ 2147483647 := vi_ir
        have e28 : vi V24 x 5 = vi V18 x 5 := vi_fr hF23 h_x h_x (by decide +kernel)
        have q29 : -2147483648 ≤ vi V18 x 5 ∧ vi V18 x 5 ≤ 2147483647 := vi_ir
        exact GO.retv rfl rfl dX5_factor_106 ⟨rfl, rfl, ⟨by omega, (by first | exact CRg.bad (by omega) | exact FAC.num (by omega) (Or.inl (by omega)) rw99 rw102 (by assumption) (by decide +kernel) h_x hWn (by omega) (by omega) | exact FAC.num (by omega) (Or.inr ⟨by omega, hlt⟩) rw99 rw102 (by assumption) (by decide +kernel) h_x hWn (by omega) (by omega))⟩⟩
      ·
        refine GO.aload_n dX5_factor_68 rfl rfl ?_
        refine GO.dup dX5_factor_69 rfl ?_
        refine GO.getI h_x fl_RX5_9 rfl rfl dX5_factor_70 (fun _ _ => ?_)
        refine GO.iconst dX5_factor_73 ?_
        refine GO.iadd dX5_factor_74 ?_
        refine GO.norm (fun z30 r31 hn32 => ?_)
        refine GO.putI h_x fp_RX5_9 rfl (by decide +kernel) r31 (r31).1 (r31).2 dX5_factor_75 (fun V34 e33 => ?_)
        refine GO.useWT (fun hWa => ?_)
        refine GO.aload_n dX5_factor_78 rfl rfl ?_
        refine GO.getR h_x fl_RX5_31 rfl rfl dX5_factor_79 (fun hv36 h35 => ?_)
        refine GO.iconst dX5_factor_82 ?_
        refine GO.iload_n dX5_factor_83 rfl rfl ?_
        refine GO.callV (ci := 8) (N := mX9_addStep) dX5_factor_84 (RX9, TX9, 5) rfl gV_RX5_92 h35 (t_X9_addStep h35 (ir_c rfl) r8) rfl [] rfl rfl (Nat.le_of_ble_eq_true rfl) rfl (k_is fun X37 V41 r38 h39 hF40 => ?_)
        have raw_addStep := h39.2
        have rw84 := h39.2
        refine GO.pop dX5_factor_87 rfl ?_
        refine GO.goto (tgt := 106) dX5_factor_88 (by decide) ?_
        have e43 : vi V34 x 4 = vi V x 4 := vi_up e33 (Or.inr (by decide))
        have e42 : vi V41 x 4 = vi V34 x 4 := vi_fr hF40 h_x h_x (by decide +kernel)
        have q44 : -2147483648 ≤ vi V x 4 ∧ vi V x 4 ≤ 2147483647 := vi_ir
        have e46 : vi V34 x 5 = vi V x 5 := vi_up e33 (Or.inr (by decide))
        have e45 : vi V41 x 5 = vi V34 x 5 := vi_fr hF40 h_x h_x (by decide +kernel)
        exact GO.retv rfl rfl dX5_factor_106 ⟨rfl, rfl, ⟨by omega, (by first | exact CRg.bad (by omega) | exact FAC.ltr rfl (by omega) hlt (by omega) (CRg.adv h_x hW_0 rfl (by omega) (by assumption) (by assumption) (by assumption)) (CRg.add rw84 h_x hWa (by decide) (by decide) (by omega) (by omega)))⟩⟩
    ·
      refine GO.aload_n dX5_factor_35 rfl rfl ?_
      refine GO.bipush dX5_factor_36 rfl ?_
      have q47 : -2147483648 ≤ vi V x 4 ∧ vi V x 4 ≤ 2147483647 := vi_ir
      refine GO.callV (ci := 4) (N := mX5_deepen) dX5_factor_38 (RX5, TX5, 7) rfl gV_RX5_80 h_x (t_X5_deepen h_x (ir_c rfl) (by omega) (by omega) (by omega)) rfl [] rfl rfl (Nat.le_of_ble_eq_true rfl) rfl (k_vs fun V50 h49 hF48 => ?_)
      have raw_deepen := h49.2
      have rw38 := h49.2
      refine GO.aload_n dX5_factor_41 rfl rfl ?_
      have q53 : -2147483648 ≤ vi V50 x 5 ∧ vi V50 x 5 ≤ 2147483647 := vi_ir
      refine GO.callV (ci := 4) (N := mX5_terms_0) dX5_factor_42 (RX5, TX5, 7) rfl gV_RX5_102 h_x (t_X5_terms_0 h_x (by omega)) rfl [] rfl rfl (Nat.le_of_ble_eq_true rfl) rfl (k_vs fun V56 h55 hF54 => ?_)
      have raw_terms := h55.2
      have rw42 := h55.2
      have e57 : vi V56 x 4 = vi V50 x 4 := vi_fr hF54 h_x h_x (by decide +kernel)
      have e58 : vi V56 x 5 = vi V50 x 5 := vi_fr hF54 h_x h_x (by decide +kernel)
      refine GO.useWT (fun hWb => ?_)
      refine GO.aload_n dX5_factor_45 rfl rfl ?_
      refine GO.dup dX5_factor_46 rfl ?_
      refine GO.getI h_x fl_RX5_15 rfl rfl dX5_factor_47 (fun _ _ => ?_)
      refine GO.iconst dX5_factor_50 ?_
      refine GO.isub dX5_factor_51 ?_
      have q60 : -2147483648 ≤ vi V50 x 4 ∧ vi V50 x 4 ≤ 2147483647 := vi_ir
      refine GO.putI h_x fp_RX5_15 rfl (by decide +kernel) ⟨by omega, by omega⟩ (by omega) (by omega) dX5_factor_52 (fun V61 e59 => ?_)
      refine GO.aload_n dX5_factor_55 rfl rfl ?_
      refine GO.bipush dX5_factor_56 rfl ?_
      have e62 : vi V61 x 5 = vi V56 x 5 := vi_up e59 (Or.inr (by decide))
      refine GO.callV (ci := 4) (N := mX5_take) dX5_factor_58 (RX5, TX5, 7) rfl gV_RX5_38 h_x (t_X5_take h_x (ir_c rfl) (by omega)) rfl [] rfl rfl (Nat.le_of_ble_eq_true rfl) rfl (k_vs fun V65 h64 hF63 => ?_)
      have raw_take := h64.2
      have rw58 := h64.2
      refine GO.goto (tgt := 106) dX5_factor_61 (by decide) ?_
      have e68 : vi V61 x 4 = (vi V56 x 4) - 1 := upd2_int e59 ⟨by omega, by omega⟩
      have e67 : vi V65 x 4 = vi V61 x 4 := vi_fr hF63 h_x h_x (by decide +kernel)
      have q69 : -2147483648 ≤ vi V65 x 5 ∧ vi V65 x 5 ≤ 2147483647 := vi_ir
      exact GO.retv rfl rfl dX5_factor_106 ⟨rfl, rfl, ⟨by omega, (by first | exact CRg.bad (by omega) | exact FAC.br (by omega) rw38 rw42 (by omega) h_x hWb (by assumption) rw58)⟩⟩
  ·
    refine GO.iconst dX5_factor_17 ?_
    refine GO.goto (tgt := 28) dX5_factor_18 (by decide) ?_
    refine GO.istore_n (ls1 := [some (.ref x), some (ti X3), some (ti (-1))]) dX5_factor_28 rfl rfl rfl ?_
    have hlt : 0 ≤ sgC V x → sgC V x ≤ 255 → (-1) = letN (sgC V x) := by first | (intro g0 g1; exfalso; omega) | (intro g0 g1; have hq := hlet (by omega) (by omega); rw [show sgC V x = X3 by omega]; exact hq)
    refine GO.iload_n dX5_factor_29 rfl rfl ?_
    refine GO.bipush dX5_factor_30 rfl ?_
    refine GO.icmp_ne (tgt := 64) dX5_factor_32 (by decide) r4 (ir_c rfl) (fun c70 => ?_) (fun h => by exfalso; omega)
    refine GO.iload_n dX5_factor_64 rfl rfl ?_
    refine GO.if_lt (tgt := 91) dX5_factor_65 (by decide) (ir_c rfl) (fun c71 => ?_) (fun h => by exfalso; omega)
    refine GO.aload_n dX5_factor_91 rfl rfl ?_
    refine GO.getR h_x fl_RX5_31 rfl rfl dX5_factor_92 (fun hv73 h72 => ?_)
    refine GO.iconst dX5_factor_95 ?_
    refine GO.aload_n dX5_factor_96 rfl rfl ?_
    refine GO.ldc (X := 999999) dX5_factor_97 gw_790 rfl ?_
    refine GO.callV (ci := 4) (N := mX5_digits) dX5_factor_99 (RX5, TX5, 7) rfl gV_RX5_69 h_x (t_X5_digits h_x (ir_c rfl)) rfl [ti 0, .ref (vq V x 2)] rfl rfl (Nat.le_of_ble_eq_true rfl) rfl (k_is fun X74 V78 r75 h76 hF77 => ?_)
    have raw_digits := h76.2
    have rw99 := h76.2
    refine GO.useWT (fun hWn => ?_)
    refine GO.callV (ci := 8) (N := mX9_addStep) dX5_factor_102 (RX9, TX9, 5) rfl gV_RX5_92 h72 (t_X9_addStep h72 (ir_c rfl) r75) rfl [] rfl rfl (Nat.le_of_ble_eq_true rfl) rfl (k_is fun X80 V84 r81 h82 hF83 => ?_)
    have raw_addStep := h82.2
    have rw102 := h82.2
    refine GO.pop dX5_factor_105 rfl ?_
    have e86 : vi V78 x 4 = vi V x 4 := vi_fr hF77 h_x h_x (by decide +kernel)
    have e85 : vi V84 x 4 = vi V78 x 4 := vi_fr hF83 h_x h_x (by decide +kernel)
    have q87 : -2147483648 ≤ vi V x 4 ∧ vi V x 4 ≤ 2147483647 := vi_ir
    have e88 : vi V84 x 5 = vi V78 x 5 := vi_fr hF83 h_x h_x (by decide +kernel)
    have q89 : -2147483648 ≤ vi V78 x 5 ∧ vi V78 x 5 ≤ 2147483647 := vi_ir
    exact GO.retv rfl rfl dX5_factor_106 ⟨rfl, rfl, ⟨by omega, (by first | exact CRg.bad (by omega) | exact FAC.num (by omega) (Or.inl (by omega)) rw99 rw102 (by assumption) (by decide +kernel) h_x hWn (by omega) (by omega) | exact FAC.num (by omega) (Or.inr ⟨by omega, hlt⟩) rw99 rw102 (by assumption) (by decide +kernel) h_x hWn (by omega) (by omega))⟩⟩

theorem t_X5_factor_1 {K : Kmap} {V : Vmap} {x : Nat} (h_x : K x = some (0, 4)) (q_0 : (vi V x 5 ≠ 0 ∨ (vi V x 5 = 0 ∧ vi V x 4 ≥ 8 ∧ vi V x 4 ≤ 8))) : MC mX5_factor_1 K V [.ref x] (VS K (fun V1 => (vi V1 x 4 = vi V x 4 ∧ (vi V x 5 ≠ 0 → vi V1 x 5 ≠ 0)) ∧ (CR K V V1 x (fun src e => facD src e (vi V x 4).toNat)))) := by
  rcases q_0 with h | h
  · exact t_X5_factor_1_F h_x (by omega)
  · exact t_X5_factor_1_G h_x (by omega) (by omega) (by omega)

set_option maxHeartbeats 1000000 in
theorem t_X5_factors_1_F {K : Kmap} {V : Vmap} {x : Nat} (h_x : K x = some (0, 4)) (q_0 : vi V x 5 ≠ 0) : MC mX5_factors_1 K V [.ref x] (VS K (fun V1 => (vi V1 x 4 = vi V x 4 ∧ (vi V x 5 ≠ 0 → vi V1 x 5 ≠ 0)) ∧ (CR K V V1 x (fun src e => facsG src e (facD src e (vi V x 4).toNat))))) := by
  refine MC.start 2 (by decide +kernel) rfl rfl rfl (ls0 := [some (.ref x), none, none]) rfl ?_
  refine GO.useWT (fun hW_0 => ?_)
  refine GO.aload_n dX5_factors_0 rfl rfl ?_
  have q1 : -2147483648 ≤ vi V x 4 ∧ vi V x 4 ≤ 2147483647 := vi_ir
  have q2 : -2147483648 ≤ vi V x 5 ∧ vi V x 5 ≤ 2147483647 := vi_ir
  refine GO.callV (ci := 4) (N := mX5_factor_1) dX5_factors_1 (RX5, TX5, 7) rfl gV_RX5_111 h_x (t_X5_factor_1 h_x (by omega)) rfl [] rfl rfl (Nat.le_of_ble_eq_true rfl) rfl (k_vs fun V5 h4 hF3 => ?_)
  have raw_factor := h4.2
  have rw1 := h4.2
  refine GO.iconst dX5_factors_4 ?_
  refine GO.istore_n (ls1 := [some (.ref x), some (ti 0), none]) dX5_factors_5 rfl rfl rfl ?_
  have q9 : -2147483648 ≤ vi V5 x 4 ∧ vi V5 x 4 ≤ 2147483647 := vi_ir
  have q10 : -2147483648 ≤ vi V5 x 5 ∧ vi V5 x 5 ≤ 2147483647 := vi_ir
  refine GO.loop1 (fun i8 W => 0 ≤ i8 ∧ i8 ≤ 0 ∧ (vi W x 4 = vi V5 x 4 ∧ (vi V5 x 5 ≠ 0 → vi W x 5 ≠ 0)) ∧ (FSI K V W x (vi V x 4).toNat i8) ∧ True) (fun i8 => [some (.ref x), some (ti i8), none]) (fun i8 W => (2147483647 - i8).toNat) 0 ⟨by omega, by omega, by omega, (by first | exact FSI.beg rw1), trivial⟩ rfl (fun i8 Wi8 hp16 ih15 => ?_)
  obtain ⟨l_i8, u_i8, n_i8, hfs, -⟩ := hp16
  have r_i8 : ir i8 := ⟨by omega, by omega⟩
  show GO mX5_factors_1 K V (VS K (fun V1 => (vi V1 x 4 = vi V x 4 ∧ (vi V x 5 ≠ 0 → vi V1 x 5 ≠ 0)) ∧ (CR K V V1 x (fun src e => facsG src e (facD src e (vi V x 4).toNat))))) K Wi8 0 0 6 [some (.ref x), some (ti i8), none] []
  refine GO.useWT (fun hWh => ?_)
  refine GO.iload_n dX5_factors_6 rfl rfl ?_
  refine GO.sipush dX5_factors_7 rfl ?_
  refine GO.icmp_ge (tgt := 91) dX5_factors_10 (by decide) r_i8 (ir_c rfl) (fun h => by exfalso; omega) (fun c17 => ?_)
  refine GO.aload_n dX5_factors_13 rfl rfl ?_
  refine GO.getI h_x fl_RX5_18 rfl rfl dX5_factors_14 (fun _ _ => ?_)
  have q19 : -2147483648 ≤ vi Wi8 x 5 ∧ vi Wi8 x 5 ≤ 2147483647 := vi_ir
  refine GO.if_ne (tgt := 91) dX5_factors_17 (by decide) vi_ir (fun c18 => ?_) (fun h => by exfalso; omega)
  have q20 : -2147483648 ≤ vi Wi8 x 4 ∧ vi Wi8 x 4 ≤ 2147483647 := vi_ir
  exact GO.retv rfl rfl dX5_factors_91 ⟨rfl, rfl, ⟨by omega, FSI.end hfs (by omega) (by omega)⟩⟩

set_option maxHeartbeats 1000000 in
theorem t_X5_factors_1_G {K : Kmap} {V : Vmap} {x : Nat} (h_x : K x = some (0, 4)) (q_0 : vi V x 5 = 0) (q_1 : vi V x 4 ≥ 8) (q_2 : vi V x 4 ≤ 8) : MC mX5_factors_1 K V [.ref x] (VS K (fun V1 => (vi V1 x 4 = vi V x 4 ∧ (vi V x 5 ≠ 0 → vi V1 x 5 ≠ 0)) ∧ (CR K V V1 x (fun src e => facsG src e (facD src e (vi V x 4).toNat))))) := by
  refine MC.start 2 (by decide +kernel) rfl rfl rfl (ls0 := [some (.ref x), none, none]) rfl ?_
  refine GO.useWT (fun hW_0 => ?_)
  refine GO.aload_n dX5_factors_0 rfl rfl ?_
  have q1 : -2147483648 ≤ vi V x 4 ∧ vi V x 4 ≤ 2147483647 := vi_ir
  have q2 : -2147483648 ≤ vi V x 5 ∧ vi V x 5 ≤ 2147483647 := vi_ir
  refine GO.callV (ci := 4) (N := mX5_factor_1) dX5_factors_1 (RX5, TX5, 7) rfl gV_RX5_111 h_x (t_X5_factor_1 h_x (by omega)) rfl [] rfl rfl (Nat.le_of_ble_eq_true rfl) rfl (k_vs fun V5 h4 hF3 => ?_)
  have raw_factor := h4.2
  have rw1 := h4.2
  refine GO.iconst dX5_factors_4 ?_
  refine GO.istore_n (ls1 := [some (.ref x), some (ti 0), none]) dX5_factors_5 rfl rfl rfl ?_
  have q9 : -2147483648 ≤ vi V5 x 4 ∧ vi V5 x 4 ≤ 2147483647 := vi_ir
  have q10 : -2147483648 ≤ vi V5 x 5 ∧ vi V5 x 5 ≤ 2147483647 := vi_ir
  refine GO.loop1 (fun i8 W => 0 ≤ i8 ∧ i8 ≤ 200 ∧ (vi W x 4 = vi V5 x 4 ∧ (vi V5 x 5 ≠ 0 → vi W x 5 ≠ 0)) ∧ (FSI K V W x (vi V x 4).toNat i8) ∧ True) (fun i8 => [some (.ref x), some (ti i8), none]) (fun i8 W => (2147483647 - i8).toNat) 0 ⟨by omega, by omega, by omega, (by first | exact FSI.beg rw1), trivial⟩ rfl (fun i8 Wi8 hp790 ih789 => ?_)
  obtain ⟨l_i8, u_i8, n_i8, hfs, -⟩ := hp790
  have r_i8 : ir i8 := ⟨by omega, by omega⟩
  show GO mX5_factors_1 K V (VS K (fun V1 => (vi V1 x 4 = vi V x 4 ∧ (vi V x 5 ≠ 0 → vi V1 x 5 ≠ 0)) ∧ (CR K V V1 x (fun src e => facsG src e (facD src e (vi V x 4).toNat))))) K Wi8 0 0 6 [some (.ref x), some (ti i8), none] []
  refine GO.useWT (fun hWh => ?_)
  refine GO.iload_n dX5_factors_6 rfl rfl ?_
  refine GO.sipush dX5_factors_7 rfl ?_
  refine GO.icmp_ge (tgt := 91) dX5_factors_10 (by decide) r_i8 (ir_c rfl) (fun c791 => ?_) (fun c791 => ?_)
  ·
    have q792 : -2147483648 ≤ vi Wi8 x 4 ∧ vi Wi8 x 4 ≤ 2147483647 := vi_ir
    have q793 : -2147483648 ≤ vi Wi8 x 5 ∧ vi Wi8 x 5 ≤ 2147483647 := vi_ir
    exact GO.retv rfl rfl dX5_factors_91 ⟨rfl, rfl, ⟨by omega, FSI.end hfs (by omega) (by omega)⟩⟩
  ·
    refine GO.aload_n dX5_factors_13 rfl rfl ?_
    refine GO.getI h_x fl_RX5_18 rfl rfl dX5_factors_14 (fun _ _ => ?_)
    refine GO.if_ne (tgt := 91) dX5_factors_17 (by decide) vi_ir (fun c794 => ?_) (fun c794 => ?_)
    ·
      have q795 : -2147483648 ≤ vi Wi8 x 4 ∧ vi Wi8 x 4 ≤ 2147483647 := vi_ir
      have q796 : -2147483648 ≤ vi Wi8 x 5 ∧ vi Wi8 x 5 ≤ 2147483647 := vi_ir
      exact GO.retv rfl rfl dX5_factors_91 ⟨rfl, rfl, ⟨by omega, FSI.end hfs (by omega) (by omega)⟩⟩
    ·
      refine GO.aload_n dX5_factors_20 rfl rfl ?_
      refine GO.callV (ci := 4) (N := mX5_next) dX5_factors_21 (RX5, TX5, 7) rfl gV_RX5_61 h_x (t_X5_next h_x) rfl [] rfl rfl (Nat.le_of_ble_eq_true rfl) rfl (k_ip fun X797 r798 h799 => ?_)
      refine GO.callS (N := mX5_isFactorSign) dX5_factors_24 gS_RX5_114 (t_X5_isFactorSign r798) rfl [] rfl rfl (Nat.le_of_ble_eq_true rfl) rfl (k_ip fun X800 r801 h802 => ?_)
      refine GO.if_eq (tgt := 91) dX5_factors_27 (by decide) r801 (fun c803 => ?_) (fun c803 => ?_)
      ·
        have q804 := h802.2.2 (by omega)
        have q805 : -2147483648 ≤ vi Wi8 x 4 ∧ vi Wi8 x 4 ≤ 2147483647 := vi_ir
        have q806 : -2147483648 ≤ vi Wi8 x 5 ∧ vi Wi8 x 5 ≤ 2147483647 := vi_ir
        exact GO.retv rfl rfl dX5_factors_91 ⟨rfl, rfl, ⟨by omega, FSI.end hfs (by omega) (by omega)⟩⟩
      ·
        have q807 := h802.2.1 (by omega)
        refine GO.aload_n dX5_factors_30 rfl rfl ?_
        refine GO.callV (ci := 4) (N := mX5_next) dX5_factors_31 (RX5, TX5, 7) rfl gV_RX5_61 h_x (t_X5_next h_x) rfl [] rfl rfl (Nat.le_of_ble_eq_true rfl) rfl (k_ip fun X808 r809 h810 => ?_)
        refine GO.bipush dX5_factors_34 rfl ?_
        refine GO.icmp_ne (tgt := 44) dX5_factors_36 (by decide) r809 (ir_c rfl) (fun c811 => ?_) (fun c811 => ?_)
        ·
          refine GO.aload_n dX5_factors_44 rfl rfl ?_
          refine GO.callV (ci := 4) (N := mX5_next) dX5_factors_45 (RX5, TX5, 7) rfl gV_RX5_61 h_x (t_X5_next h_x) rfl [] rfl rfl (Nat.le_of_ble_eq_true rfl) rfl (k_ip fun X812 r813 h814 => ?_)
          refine GO.bipush dX5_factors_48 rfl ?_
          refine GO.icmp_ne (tgt := 58) dX5_factors_50 (by decide) r813 (ir_c rfl) (fun c815 => ?_) (fun c815 => ?_)
          ·
            refine GO.bipush dX5_factors_58 rfl ?_
            refine GO.istore_n (ls1 := [some (.ref x), some (ti i8), some (ti 9)]) dX5_factors_60 rfl rfl rfl ?_
            refine GO.aload_n dX5_factors_61 rfl rfl ?_
            refine GO.dup dX5_factors_62 rfl ?_
            refine GO.getI h_x fl_RX5_9 rfl rfl dX5_factors_63 (fun _ _ => ?_)
            refine GO.iconst dX5_factors_66 ?_
            refine GO.iadd dX5_factors_67 ?_
            refine GO.norm (fun z816 r817 hn818 => ?_)
            refine GO.putI h_x fp_RX5_9 rfl (by decide +kernel) r817 (r817).1 (r817).2 dX5_factors_68 (fun V820 e819 => ?_)
            refine GO.aload_n dX5_factors_71 rfl rfl ?_
            have e821 : vi V820 x 5 = vi Wi8 x 5 := vi_up e819 (Or.inr (by decide))
            have e822 : vi V820 x 4 = vi Wi8 x 4 := vi_up e819 (Or.inr (by decide))
            have q823 : -2147483648 ≤ vi Wi8 x 4 ∧ vi Wi8 x 4 ≤ 2147483647 := vi_ir
            have q824 : -2147483648 ≤ vi Wi8 x 5 ∧ vi Wi8 x 5 ≤ 2147483647 := vi_ir
            refine GO.callV (ci := 4) (N := mX5_factor_1) dX5_factors_72 (RX5, TX5, 7) rfl gV_RX5_111 h_x (t_X5_factor_1 h_x (by omega)) rfl [] rfl rfl (Nat.le_of_ble_eq_true rfl) rfl (k_vs fun V827 h826 hF825 => ?_)
            have raw_factor := h826.2
            have rw72 := h826.2
            refine GO.useWT (fun hWs => ?_)
            refine GO.aload_n dX5_factors_75 rfl rfl ?_
            refine GO.getR h_x fl_RX5_31 rfl rfl dX5_factors_76 (fun hv831 h830 => ?_)
            refine GO.iload_n dX5_factors_79 rfl rfl ?_
            refine GO.iconst dX5_factors_80 ?_
            refine GO.callV (ci := 8) (N := mX9_addStep) dX5_factors_81 (RX9, TX9, 5) rfl gV_RX5_92 h830 (t_X9_addStep h830 (ir_c rfl) (ir_c rfl)) rfl [] rfl rfl (Nat.le_of_ble_eq_true rfl) rfl (k_is fun X832 V836 r833 h834 hF835 => ?_)
            have raw_addStep := h834.2
            have rw81 := h834.2
            refine GO.pop dX5_factors_84 rfl ?_
            refine GO.iinc (X := i8) (n := 1) (Y := i8 + 1) (ls1 := [some (.ref x), some (ti (i8 + 1)), some (ti 9)]) dX5_factors_85 rfl rfl rfl rfl ?_
            refine GO.goto (tgt := 6) dX5_factors_88 (by decide) ?_
            refine GO.drop [true, true, false] rfl ?_
            have e837 : vi V836 x 4 = vi V827 x 4 := vi_fr hF835 h_x h_x (by decide +kernel)
            have q838 : -2147483648 ≤ vi V827 x 4 ∧ vi V827 x 4 ≤ 2147483647 := vi_ir
            have e839 : vi V836 x 5 = vi V827 x 5 := vi_fr hF835 h_x h_x (by decide +kernel)
            have q840 : -2147483648 ≤ vi V827 x 5 ∧ vi V827 x 5 ≤ 2147483647 := vi_ir
            exact ih789 (i8 + 1) V836 ⟨by omega, by omega, by omega, (by first | exact FSI.beg rw1 | exact FSI.step hfs (by omega) (by omega) rfl (by omega) h_x hWh hWs (by assumption) (by assumption) (by assumption) (CR.fac rw72 (by omega)) rw81), trivial⟩ (by show (2147483647 - (i8 + 1)).toNat < (2147483647 - i8).toNat; omega)
          ·
            refine GO.bipush dX5_factors_53 rfl ?_
            refine GO.goto (tgt := 60) dX5_factors_55 (by decide) ?_
            refine GO.istore_n (ls1 := [some (.ref x), some (ti i8), some (ti 8)]) dX5_factors_60 rfl rfl rfl ?_
            refine GO.aload_n dX5_factors_61 rfl rfl ?_
            refine GO.dup dX5_factors_62 rfl ?_
            refine GO.getI h_x fl_RX5_9 rfl rfl dX5_factors_63 (fun _ _ => ?_)
            refine GO.iconst dX5_factors_66 ?_
            refine GO.iadd dX5_factors_67 ?_
            refine GO.norm (fun z841 r842 hn843 => ?_)
            refine GO.putI h_x fp_RX5_9 rfl (by decide +kernel) r842 (r842).1 (r842).2 dX5_factors_68 (fun V845 e844 => ?_)
            refine GO.aload_n dX5_factors_71 rfl rfl ?_
            have e846 : vi V845 x 5 = vi Wi8 x 5 := vi_up e844 (Or.inr (by decide))
            have e847 : vi V845 x 4 = vi Wi8 x 4 := vi_up e844 (Or.inr (by decide))
            have q848 : -2147483648 ≤ vi Wi8 x 4 ∧ vi Wi8 x 4 ≤ 2147483647 := vi_ir
            have q849 : -2147483648 ≤ vi Wi8 x 5 ∧ vi Wi8 x 5 ≤ 2147483647 := vi_ir
            refine GO.callV (ci := 4) (N := mX5_factor_1) dX5_factors_72 (RX5, TX5, 7) rfl gV_RX5_111 h_x (t_X5_factor_1 h_x (by omega)) rfl [] rfl rfl (Nat.le_of_ble_eq_true rfl) rfl (k_vs fun V852 h851 hF850 => ?_)
            have raw_factor := h851.2
            have rw72 := h851.2
            refine GO.useWT (fun hWs => ?_)
            refine GO.aload_n dX5_factors_75 rfl rfl ?_
            refine GO.getR h_x fl_RX5_31 rfl rfl dX5_factors_76 (fun hv856 h855 => ?_)
            refine GO.iload_n dX5_factors_79 rfl rfl ?_
            refine GO.iconst dX5_factors_80 ?_
            refine GO.callV (ci := 8) (N := mX9_addStep) dX5_factors_81 (RX9, TX9, 5) rfl gV_RX5_92 h855 (t_X9_addStep h855 (ir_c rfl) (ir_c rfl)) rfl [] rfl rfl (Nat.le_of_ble_eq_true rfl) rfl (k_is fun X857 V861 r858 h859 hF860 => ?_)
            have raw_addStep := h859.2
            have rw81 := h859.2
            refine GO.pop dX5_factors_84 rfl ?_
            refine GO.iinc (X := i8) (n := 1) (Y := i8 + 1) (ls1 := [some (.ref x), some (ti (i8 + 1)), some (ti 8)]) dX5_factors_85 rfl rfl rfl rfl ?_
            refine GO.goto (tgt := 6) dX5_factors_88 (by decide) ?_
            refine GO.drop [true, true, false] rfl ?_
            have e862 : vi V861 x 4 = vi V852 x 4 := vi_fr hF860 h_x h_x (by decide +kernel)
            have q863 : -2147483648 ≤ vi V852 x 4 ∧ vi V852 x 4 ≤ 2147483647 := vi_ir
            have e864 : vi V861 x 5 = vi V852 x 5 := vi_fr hF860 h_x h_x (by decide +kernel)
            have q865 : -2147483648 ≤ vi V852 x 5 ∧ vi V852 x 5 ≤ 2147483647 := vi_ir
            exact ih789 (i8 + 1) V861 ⟨by omega, by omega, by omega, (by first | exact FSI.beg rw1 | exact FSI.step hfs (by omega) (by omega) rfl (by omega) h_x hWh hWs (by assumption) (by assumption) (by assumption) (CR.fac rw72 (by omega)) rw81), trivial⟩ (by show (2147483647 - (i8 + 1)).toNat < (2147483647 - i8).toNat; omega)
        ·
          refine GO.bipush dX5_factors_39 rfl ?_
          refine GO.goto (tgt := 60) dX5_factors_41 (by decide) ?_
          refine GO.istore_n (ls1 := [some (.ref x), some (ti i8), some (ti 7)]) dX5_factors_60 rfl rfl rfl ?_
          refine GO.aload_n dX5_factors_61 rfl rfl ?_
          refine GO.dup dX5_factors_62 rfl ?_
          refine GO.getI h_x fl_RX5_9 rfl rfl dX5_factors_63 (fun _ _ => ?_)
          refine GO.iconst dX5_factors_66 ?_
          refine GO.iadd dX5_factors_67 ?_
          refine GO.norm (fun z866 r867 hn868 => ?_)
          refine GO.putI h_x fp_RX5_9 rfl (by decide +kernel) r867 (r867).1 (r867).2 dX5_factors_68 (fun V870 e869 => ?_)
          refine GO.aload_n dX5_factors_71 rfl rfl ?_
          have e871 : vi V870 x 5 = vi Wi8 x 5 := vi_up e869 (Or.inr (by decide))
          have e872 : vi V870 x 4 = vi Wi8 x 4 := vi_up e869 (Or.inr (by decide))
          have q873 : -2147483648 ≤ vi Wi8 x 4 ∧ vi Wi8 x 4 ≤ 2147483647 := vi_ir
          have q874 : -2147483648 ≤ vi Wi8 x 5 ∧ vi Wi8 x 5 ≤ 2147483647 := vi_ir
          refine GO.callV (ci := 4) (N := mX5_factor_1) dX5_factors_72 (RX5, TX5, 7) rfl gV_RX5_111 h_x (t_X5_factor_1 h_x (by omega)) rfl [] rfl rfl (Nat.le_of_ble_eq_true rfl) rfl (k_vs fun V877 h876 hF875 => ?_)
          have raw_factor := h876.2
          have rw72 := h876.2
          refine GO.useWT (fun hWs => ?_)
          refine GO.aload_n dX5_factors_75 rfl rfl ?_
          refine GO.getR h_x fl_RX5_31 rfl rfl dX5_factors_76 (fun hv881 h880 => ?_)
          refine GO.iload_n dX5_factors_79 rfl rfl ?_
          refine GO.iconst dX5_factors_80 ?_
          refine GO.callV (ci := 8) (N := mX9_addStep) dX5_factors_81 (RX9, TX9, 5) rfl gV_RX5_92 h880 (t_X9_addStep h880 (ir_c rfl) (ir_c rfl)) rfl [] rfl rfl (Nat.le_of_ble_eq_true rfl) rfl (k_is fun X882 V886 r883 h884 hF885 => ?_)
          have raw_addStep := h884.2
          have rw81 := h884.2
          refine GO.pop dX5_factors_84 rfl ?_
          refine GO.iinc (X := i8) (n := 1) (Y := i8 + 1) (ls1 := [some (.ref x), some (ti (i8 + 1)), some (ti 7)]) dX5_factors_85 rfl rfl rfl rfl ?_
          refine GO.goto (tgt := 6) dX5_factors_88 (by decide) ?_
          refine GO.drop [true, true, false] rfl ?_
          have e887 : vi V886 x 4 = vi V877 x 4 := vi_fr hF885 h_x h_x (by decide +kernel)
          have q888 : -2147483648 ≤ vi V877 x 4 ∧ vi V877 x 4 ≤ 2147483647 := vi_ir
          have e889 : vi V886 x 5 = vi V877 x 5 := vi_fr hF885 h_x h_x (by decide +kernel)
          have q890 : -2147483648 ≤ vi V877 x 5 ∧ vi V877 x 5 ≤ 2147483647 := vi_ir
          exact ih789 (i8 + 1) V886 ⟨by omega, by omega, by omega, (by first | exact FSI.beg rw1 | exact FSI.step hfs (by omega) (by omega) rfl (by omega) h_x hWh hWs (by assumption) (by assumption) (by assumption) (CR.fac rw72 (by omega)) rw81), trivial⟩ (by show (2147483647 - (i8 + 1)).toNat < (2147483647 - i8).toNat; omega)

theorem t_X5_factors_1 {K : Kmap} {V : Vmap} {x : Nat} (h_x : K x = some (0, 4)) (q_0 : (vi V x 5 ≠ 0 ∨ (vi V x 5 = 0 ∧ vi V x 4 ≥ 8 ∧ vi V x 4 ≤ 8))) : MC mX5_factors_1 K V [.ref x] (VS K (fun V1 => (vi V1 x 4 = vi V x 4 ∧ (vi V x 5 ≠ 0 → vi V1 x 5 ≠ 0)) ∧ (CR K V V1 x (fun src e => facsG src e (facD src e (vi V x 4).toNat))))) := by
  rcases q_0 with h | h
  · exact t_X5_factors_1_F h_x (by omega)
  · exact t_X5_factors_1_G h_x (by omega) (by omega) (by omega)
