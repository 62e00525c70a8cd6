def mX11_study : MRec := (RX11, cX11_study, 4, (some .boolean), yX11_study, 1, 22, 0, 0, 118842243771396506390315925504)
def mX11_say : MRec := (RX11, cX11_say, 6, (some .boolean), yX11_say, 1, 21, 0, 0, 475368975085586025561263702016)
def mX4_put_t135 : MRec := (RX4, cX4_put, 3, (none : Option Jvm.ClassFile.FieldType), yX4_put, 0, 0, 0, 0, 165263992197562149737978827008192759957101170741070304821162198818601447809077836456297302609928821211897803006255839576064)
def mX11_tellLetters : MRec := (RX11, cX11_tellLetters, 5, (none : Option Jvm.ClassFile.FieldType), yX11_tellLetters, 1, 22, 0, 0, 165263992197562149737978827008192759957101170741070304821162198818601447809077836456297302609928821211897803006255839576064)
def mX11_tellNeighbours : MRec := (RX11, cX11_tellNeighbours, 8, (none : Option Jvm.ClassFile.FieldType), yX11_tellNeighbours, 3, 66, 0, 0, 165263992197562149737978827008192759957101170741070304821162198818601447809077836456297302609928821211897803006255839576064)
def mX11_decidingOn : MRec := (RX11, cX11_decidingOn, 5, (some .int), yX11_decidingOn, 1, 21, 0, 0, 0)
def mX11_hasConsent : MRec := (RX11, cX11_hasConsent, 4, (some .boolean), yX11_hasConsent, 2, 45, 0, 0, 0)
def mX11_judge : MRec := (RX11, cX11_judge, 5, (some .int), yX11_judge, 5, 127, 0, 0, 619739970740858061517420601280722849839129390279013643079358245569755429284041886711114884787233079544616761273459458703360)
def mX11_may : MRec := (RX11, cX11_may, 5, (some .int), yX11_may, 6, 151, 0, 0, 619739970740858061517420601280722849839129390279013643079358245569755429284041886711114884787233079544616761273459458703360)
set_option maxHeartbeats 1000000 in
theorem t_X11_study {K : Kmap} {V : Vmap} {x : Nat} {p0 : Int} {p1 : Int} (h_x : K x = some (0, 10)) (r_p0 : ir p0) (r_p1 : ir p1) : MC mX11_study K V [.ref x, ti p0, ti p1] (IS K (fun X V1 => (X = 0 ∨ X = 1) ∧ (X ≠ 0 → True) ∧ (X = 0 → True) ∧ (WKC (SYq p1) (wset 11 (tdy V x)) V V1 x p0 X))) := by
  refine MC.start 1 (by decide +kernel) rfl rfl rfl (ls0 := [some (.ref x), some (ti p0), some (ti p1), none]) rfl ?_
  refine GO.useWT (fun hW_0 => ?_)
  refine GO.aload_n dX11_study_0 rfl rfl ?_
  refine GO.iload_n dX11_study_1 rfl rfl ?_
  refine GO.callV (ci := 10) (N := mX11_workOf) dX11_study_2 (RX11, TX11, 20) rfl gV_RX11_309 h_x (t_X11_workOf h_x r_p0) rfl [] rfl rfl (Nat.le_of_ble_eq_true rfl) rfl (k_rp (fun h3 => ?_) (fun o1 h2 h3 => ?_))
  ·
    have rwn2 := h3.2
    have hn4 : NN 8 7 V x → p0 < 0 ∨ vi V x 8 ≤ p0 := h3.2
    refine GO.astore_nN (ls1 := [some (.ref x), some (ti p0), some (ti p1), some (.null)]) dX11_study_5 rfl rfl rfl ?_
    refine GO.aload_nN dX11_study_6 rfl rfl ?_
    refine GO.ifnullN (tgt := 29) dX11_study_7 (by decide) ?_
    refine GO.iconst dX11_study_29 ?_
    exact GO.retz rfl rfl dX11_study_30 (Or.inl rfl) ⟨rfl, _, rfl, (ir_c rfl), ⟨Or.inl rfl, fun _ => trivial, fun _ => trivial, (by first | exact WKC.nw rwn2 rfl)⟩⟩
  ·
    have hp5 : p0 ≥ 0 ∧ p0 < vi V x 8 := h3.1
    have rwp2 := h3.2
    have hq6 : o1 = wkO V x (p0).toNat ∧ 0 ≤ p0 ∧ p0 < vi V x 8 := h3.2
    refine GO.astore_n (ls1 := [some (.ref x), some (ti p0), some (ti p1), some (.ref o1)]) dX11_study_5 rfl rfl rfl ?_
    refine GO.aload_n dX11_study_6 rfl rfl ?_
    refine GO.ifnull dX11_study_7 ?_
    refine GO.iload_n dX11_study_10 rfl rfl ?_
    refine GO.iconst dX11_study_11 ?_
    refine GO.sipush dX11_study_12 rfl ?_
    refine GO.callS (N := mX11_between) dX11_study_15 gS_RX11_112 (t_X11_between r_p1 (ir_c rfl) (ir_c rfl)) rfl [] rfl rfl (Nat.le_of_ble_eq_true rfl) rfl (k_ip fun X7 r8 h9 => ?_)
    refine GO.if_eq (tgt := 29) dX11_study_18 (by decide) r8 (fun c10 => ?_) (fun c10 => ?_)
    ·
      have q11 := h9.2.2 (by omega)
      refine GO.iconst dX11_study_29 ?_
      exact GO.retz rfl rfl dX11_study_30 (Or.inl rfl) ⟨rfl, _, rfl, (ir_c rfl), ⟨Or.inl rfl, fun _ => trivial, fun _ => trivial, (by first | exact SYC.nd rwp2.1 (by omega) rfl)⟩⟩
    ·
      have q12 := h9.2.1 (by omega)
      refine GO.aload_n dX11_study_21 rfl rfl ?_
      refine GO.getI h2 fl_RX11_319 rfl rfl dX11_study_22 (fun _ _ => ?_)
      refine GO.iconst dX11_study_25 ?_
      refine GO.icmp_eq (tgt := 31) dX11_study_26 (by decide) vi_ir (ir_c rfl) (fun c13 => ?_) (fun c13 => ?_)
      ·
        refine GO.aload_n dX11_study_31 rfl rfl ?_
        refine GO.aload_n dX11_study_32 rfl rfl ?_
        refine GO.getR h_x fl_RX11_12 rfl rfl dX11_study_33 (fun hv15 h14 => ?_)
        refine GO.getI h14 fl_RX11_145 rfl rfl dX11_study_36 (fun l16 u17 => ?_)
        refine GO.putI h2 fp_RX11_319 rfl (by decide +kernel) vi_ir (vi_ir).1 (vi_ir).2 dX11_study_39 (fun V19 e18 => ?_)
        refine GO.useWT (fun hWb => ?_)
        refine GO.aload_n dX11_study_42 rfl rfl ?_
        refine GO.iload_n dX11_study_43 rfl rfl ?_
        refine GO.putI h2 fp_RX11_322 rfl (by decide +kernel) r_p1 (r_p1).1 (r_p1).2 dX11_study_44 (fun V21 e20 => ?_)
        refine GO.iconst dX11_study_47 ?_
        exact GO.retz rfl rfl dX11_study_48 (Or.inr rfl) ⟨rfl, _, rfl, (ir_c rfl), ⟨Or.inr rfl, fun _ => trivial, fun _ => trivial, (by first | exact SYC.nd rwp2.1 (by omega) rfl | exact WKC.fr (SYC.ok hW_0 h_x rwp2 (by omega) (by omega) (by omega) e18 (by omega)) (by omega) (FR.put FR.rf (by assumption) (by decide +kernel : Nat.testBit (2 ^ keyK (0, 9) 12) (keyK (0, 9) 12) = true) e20) ext.rf hWb h_x (by decide +kernel))⟩⟩
      ·
        refine GO.iconst dX11_study_29 ?_
        exact GO.retz rfl rfl dX11_study_30 (Or.inl rfl) ⟨rfl, _, rfl, (ir_c rfl), ⟨Or.inl rfl, fun _ => trivial, fun _ => trivial, (by first | exact SYC.nd rwp2.1 (by omega) rfl)⟩⟩

set_option maxHeartbeats 1000000 in
theorem t_X11_say {K : Kmap} {V : Vmap} {x : Nat} {p0 : Int} {p1 : Int} {p2 : Int} (h_x : K x = some (0, 10)) (r_p0 : ir p0) (r_p1 : ir p1) (r_p2 : ir p2) (z_p2 : p2 = 0 ∨ p2 = 1) (w_0 : PN V x) : MC mX11_say K V [.ref x, ti p0, ti p1, ti p2] (IS K (fun X V1 => (X = 0 ∨ X = 1) ∧ (X ≠ 0 → True) ∧ (X = 0 → True) ∧ (NN 8 7 V x → (X ≠ 0 ↔ 0 ≤ p0 ∧ p0 < vi V x 4 ∧ 0 ≤ p1 ∧ p1 < vi V x 8)))) := by
  refine MC.start 2 (by decide +kernel) rfl rfl rfl (ls0 := [some (.ref x), some (ti p0), some (ti p1), some (ti p2), none, none]) rfl ?_
  refine GO.aload_n dX11_say_0 rfl rfl ?_
  refine GO.iload_n dX11_say_1 rfl rfl ?_
  refine GO.callV (ci := 10) (N := mX11_workOf) dX11_say_2 (RX11, TX11, 20) rfl gV_RX11_309 h_x (t_X11_workOf h_x r_p1) rfl [] rfl rfl (Nat.le_of_ble_eq_true rfl) rfl (k_rp (fun h3 => ?_) (fun o1 h2 h3 => ?_))
  ·
    have rwn2 := h3.2
    have hn4 : NN 8 7 V x → p1 < 0 ∨ vi V x 8 ≤ p1 := h3.2
    refine GO.astoreN (ls1 := [some (.ref x), some (ti p0), some (ti p1), some (ti p2), some (.null), none]) dX11_say_5 rfl rfl ?_
    refine GO.aload_n dX11_say_7 rfl rfl ?_
    refine GO.iload_n dX11_say_8 rfl rfl ?_
    refine GO.callV (ci := 10) (N := mX11_partyOf) dX11_say_9 (RX11, TX11, 20) rfl gV_RX11_151 h_x (t_X11_partyOf h_x r_p0) rfl [] rfl rfl (Nat.le_of_ble_eq_true rfl) rfl (k_rp (fun h7 => ?_) (fun o5 h6 h7 => ?_))
    ·
      have rwn9 := h7.2
      have hn8 : PN V x → p0 < 0 ∨ vi V x 4 ≤ p0 := h7.2
      have hnn9 := hn8 w_0
      refine GO.ifnullN (tgt := 20) dX11_say_12 (by decide) ?_
      refine GO.iconst dX11_say_20 ?_
      exact GO.retz rfl rfl dX11_say_21 (Or.inl rfl) ⟨rfl, _, rfl, (ir_c rfl), ⟨Or.inl rfl, fun _ => trivial, fun _ => trivial, (by first | exact fun hn => ⟨fun g => absurd rfl g, fun g => by have h9 := rwn2 hn; omega⟩ | exact fun _ => ⟨fun g => absurd rfl g, fun g => by have h9 := rwn9 w_0; omega⟩ | exact fun _ => ⟨fun _ => by omega, fun _ => by omega⟩)⟩⟩
    ·
      have hp10 : p0 ≥ 0 ∧ p0 < vi V x 4 := h7.1
      have rwp9 := h7.2
      have hq11 : o5 = vq V (vq V x 3) (p0).toNat := h7.2
      refine GO.ifnull dX11_say_12 ?_
      refine GO.aloadN dX11_say_15 rfl ?_
      refine GO.ifnonnullN dX11_say_17 ?_
      refine GO.iconst dX11_say_20 ?_
      exact GO.retz rfl rfl dX11_say_21 (Or.inl rfl) ⟨rfl, _, rfl, (ir_c rfl), ⟨Or.inl rfl, fun _ => trivial, fun _ => trivial, (by first | exact fun hn => ⟨fun g => absurd rfl g, fun g => by have h9 := rwn2 hn; omega⟩ | exact fun _ => ⟨fun _ => by omega, fun _ => by omega⟩)⟩⟩
  ·
    have hp12 : p1 ≥ 0 ∧ p1 < vi V x 8 := h3.1
    have rwp2 := h3.2
    have hq13 : o1 = wkO V x (p1).toNat ∧ 0 ≤ p1 ∧ p1 < vi V x 8 := h3.2
    refine GO.astore (ls1 := [some (.ref x), some (ti p0), some (ti p1), some (ti p2), some (.ref o1), none]) dX11_say_5 rfl rfl ?_
    refine GO.aload_n dX11_say_7 rfl rfl ?_
    refine GO.iload_n dX11_say_8 rfl rfl ?_
    refine GO.callV (ci := 10) (N := mX11_partyOf) dX11_say_9 (RX11, TX11, 20) rfl gV_RX11_151 h_x (t_X11_partyOf h_x r_p0) rfl [] rfl rfl (Nat.le_of_ble_eq_true rfl) rfl (k_rp (fun h16 => ?_) (fun o14 h15 h16 => ?_))
    ·
      have rwn9 := h16.2
      have hn17 : PN V x → p0 < 0 ∨ vi V x 4 ≤ p0 := h16.2
      have hnn18 := hn17 w_0
      refine GO.ifnullN (tgt := 20) dX11_say_12 (by decide) ?_
      refine GO.iconst dX11_say_20 ?_
      exact GO.retz rfl rfl dX11_say_21 (Or.inl rfl) ⟨rfl, _, rfl, (ir_c rfl), ⟨Or.inl rfl, fun _ => trivial, fun _ => trivial, (by first | exact fun _ => ⟨fun g => absurd rfl g, fun g => by have h9 := rwn9 w_0; omega⟩ | exact fun _ => ⟨fun _ => by omega, fun _ => by omega⟩)⟩⟩
    ·
      have hp19 : p0 ≥ 0 ∧ p0 < vi V x 4 := h16.1
      have rwp9 := h16.2
      have hq20 : o14 = vq V (vq V x 3) (p0).toNat := h16.2
      refine GO.ifnull dX11_say_12 ?_
      refine GO.aload dX11_say_15 rfl ?_
      refine GO.ifnonnull (tgt := 22) dX11_say_17 (by decide) ?_
      refine GO.iconst dX11_say_22 ?_
      refine GO.iload_n dX11_say_23 rfl rfl ?_
      refine GO.ishl dX11_say_24 ?_
      refine GO.name (fun z21 hz22 => ?_)
      have r23 : ir z21 := hz22 ▸ wshl_ir
      refine GO.istore (ls1 := [some (.ref x), some (ti p0), some (ti p1), some (ti p2), some (.ref o1), some (ti z21)]) dX11_say_25 rfl rfl ?_
      refine GO.aload dX11_say_27 rfl ?_
      refine GO.iload_n dX11_say_29 rfl rfl ?_
      refine GO.if_eq (tgt := 44) dX11_say_30 (by decide) r_p2 (fun c24 => ?_) (fun c24 => ?_)
      ·
        refine GO.aload dX11_say_44 rfl ?_
        refine GO.getI h2 fl_RX11_325 rfl rfl dX11_say_46 (fun _ _ => ?_)
        refine GO.iload dX11_say_49 rfl ?_
        refine GO.iconst dX11_say_51 ?_
        refine GO.ixor dX11_say_52 ?_
        refine GO.iand dX11_say_53 ?_
        refine GO.putI h2 fp_RX11_325 rfl (by decide +kernel) wand_ir (wand_ir).1 (wand_ir).2 dX11_say_54 (fun V26 e25 => ?_)
        refine GO.aload dX11_say_57 rfl ?_
        refine GO.iload_n dX11_say_59 rfl rfl ?_
        refine GO.if_eq (tgt := 76) dX11_say_60 (by decide) r_p2 (fun c27 => ?_) (fun h => by exfalso; omega)
        refine GO.aload dX11_say_76 rfl ?_
        refine GO.getI h2 fl_RX11_328 rfl rfl dX11_say_78 (fun _ _ => ?_)
        refine GO.iload dX11_say_81 rfl ?_
        refine GO.ior dX11_say_83 ?_
        refine GO.putI h2 fp_RX11_328 rfl (by decide +kernel) wor_ir (wor_ir).1 (wor_ir).2 dX11_say_84 (fun V29 e28 => ?_)
        refine GO.iconst dX11_say_87 ?_
        exact GO.retz rfl rfl dX11_say_88 (Or.inr rfl) ⟨rfl, _, rfl, (ir_c rfl), ⟨Or.inr rfl, fun _ => trivial, fun _ => trivial, (by first | exact fun _ => ⟨fun _ => by omega, fun _ => by omega⟩)⟩⟩
      ·
        refine GO.aload dX11_say_33 rfl ?_
        refine GO.getI h2 fl_RX11_325 rfl rfl dX11_say_35 (fun _ _ => ?_)
        refine GO.iload dX11_say_38 rfl ?_
        refine GO.ior dX11_say_40 ?_
        refine GO.goto (tgt := 54) dX11_say_41 (by decide) ?_
        refine GO.putI h2 fp_RX11_325 rfl (by decide +kernel) wor_ir (wor_ir).1 (wor_ir).2 dX11_say_54 (fun V31 e30 => ?_)
        refine GO.aload dX11_say_57 rfl ?_
        refine GO.iload_n dX11_say_59 rfl rfl ?_
        refine GO.if_eq (tgt := 76) dX11_say_60 (by decide) r_p2 (fun h => by exfalso; omega) (fun c32 => ?_)
        refine GO.aload dX11_say_63 rfl ?_
        refine GO.getI h2 fl_RX11_328 rfl rfl dX11_say_65 (fun _ _ => ?_)
        refine GO.iload dX11_say_68 rfl ?_
        refine GO.iconst dX11_say_70 ?_
        refine GO.ixor dX11_say_71 ?_
        refine GO.iand dX11_say_72 ?_
        refine GO.goto (tgt := 84) dX11_say_73 (by decide) ?_
        refine GO.putI h2 fp_RX11_328 rfl (by decide +kernel) wand_ir (wand_ir).1 (wand_ir).2 dX11_say_84 (fun V34 e33 => ?_)
        refine GO.iconst dX11_say_87 ?_
        exact GO.retz rfl rfl dX11_say_88 (Or.inr rfl) ⟨rfl, _, rfl, (ir_c rfl), ⟨Or.inr rfl, fun _ => trivial, fun _ => trivial, (by first | exact fun _ => ⟨fun _ => by omega, fun _ => by omega⟩)⟩⟩

set_option maxHeartbeats 1000000 in
theorem t_X4_put_t135 {K : Kmap} {V : Vmap} {p0 n_p0 : Nat} {p1 : Int} {p2 : Int} (h_p0 : K p0 = some (136, n_p0)) (r_p1 : ir p1) (r_p2 : ir p2) : MC mX4_put_t135 K V [.ref p0, ti p1, ti p2] (VS K (fun V1 => (True) ∧ (V1 = rpv V p0 n_p0 p1 p2))) := by
  refine MC.start 0 (by decide +kernel) rfl rfl rfl (ls0 := [some (.ref p0), some (ti p1), some (ti p2)]) rfl ?_
  refine GO.aload_n dX4_put_0 rfl rfl ?_
  refine GO.ifnull dX4_put_1 ?_
  refine GO.iload_n dX4_put_4 rfl rfl ?_
  refine GO.if_lt (tgt := 18) dX4_put_5 (by decide) r_p1 (fun c1 => ?_) (fun c1 => ?_)
  ·
    exact GO.retv rfl rfl dX4_put_18 ⟨rfl, rfl, ⟨trivial, (by first | exact rpv_in (by assumption) (by omega) (by omega) | exact rpv_out (by omega))⟩⟩
  ·
    refine GO.iload_n dX4_put_8 rfl rfl ?_
    refine GO.aload_n dX4_put_9 rfl rfl ?_
    refine GO.alen h_p0 dX4_put_10 (fun h2 => ?_)
    refine GO.icmp_ge (tgt := 18) dX4_put_11 (by decide) r_p1 ⟨by omega, by omega⟩ (fun c3 => ?_) (fun c3 => ?_)
    ·
      exact GO.retv rfl rfl dX4_put_18 ⟨rfl, rfl, ⟨trivial, (by first | exact rpv_in (by assumption) (by omega) (by omega) | exact rpv_out (by omega))⟩⟩
    ·
      refine GO.aload_n dX4_put_14 rfl rfl ?_
      refine GO.iload_n dX4_put_15 rfl rfl ?_
      refine GO.iload_n dX4_put_16 rfl rfl ?_
      have q4 : -2147483648 ≤ p1 ∧ p1 ≤ 2147483647 := r_p1
      refine GO.iast (t := 135) rfl rfl (by decide +kernel) h_p0 r_p1 (by omega) (by omega) r_p2 (r_p2).1 (r_p2).2 dX4_put_17 (fun V6 e5 => ?_)
      exact GO.retv rfl rfl dX4_put_18 ⟨rfl, rfl, ⟨trivial, (by first | exact rpv_in (by assumption) (by omega) (by omega) | exact rpv_out (by omega))⟩⟩

set_option maxHeartbeats 1000000 in
theorem t_X11_tellLetters {K : Kmap} {V : Vmap} {x : Nat} {p0 : Nat} {p1 : Nat} {p2 : Int} (h_x : K x = some (0, 10)) (h_p0 : K p0 = some (0, 9)) (h_p1 : K p1 = some (0, 2)) (r_p2 : ir p2) : MC mX11_tellLetters K V [.ref x, .ref p0, .ref p1, ti p2] (VS K (fun V1 => (True))) := by
  refine MC.start 1 (by decide +kernel) rfl rfl rfl (ls0 := [some (.ref x), some (.ref p0), some (.ref p1), some (ti p2), none]) rfl ?_
  refine GO.aload_n dX11_tellLetters_0 rfl rfl ?_
  refine GO.getR h_x fl_RX11_19 rfl rfl dX11_tellLetters_1 (fun hv2 h1 => ?_)
  refine GO.getA (n := 14) h1 fl_RX11_372 rfl rfl rfl rfl dX11_tellLetters_4 (fun hv4 h3 => ?_)
  refine GO.astore (ls1 := [some (.ref x), some (.ref p0), some (.ref p1), some (ti p2), some (.ref (vq V (vq V x 1) 8))]) dX11_tellLetters_7 rfl rfl ?_
  refine GO.aload dX11_tellLetters_9 rfl ?_
  refine GO.iconst dX11_tellLetters_11 ?_
  refine GO.aload_n dX11_tellLetters_12 rfl rfl ?_
  refine GO.getI h_p0 fl_RX11_375 rfl rfl dX11_tellLetters_13 (fun _ _ => ?_)
  refine GO.callS (N := mX4_put_t135) dX11_tellLetters_16 gS_RX11_108 (t_X4_put_t135 h3 (ir_c rfl) vi_ir) rfl [] rfl rfl (Nat.le_of_ble_eq_true rfl) rfl (k_vs fun V7 h6 hF5 => ?_)
  have raw_put := h6.2
  have rw16 := h6.2
  refine GO.aload dX11_tellLetters_19 rfl ?_
  refine GO.iconst dX11_tellLetters_21 ?_
  refine GO.aload_n dX11_tellLetters_22 rfl rfl ?_
  refine GO.getI h_p0 fl_RX11_353 rfl rfl dX11_tellLetters_23 (fun _ _ => ?_)
  refine GO.callS (N := mX4_put_t135) dX11_tellLetters_26 gS_RX11_108 (t_X4_put_t135 h3 (ir_c rfl) vi_ir) rfl [] rfl rfl (Nat.le_of_ble_eq_true rfl) rfl (k_vs fun V10 h9 hF8 => ?_)
  have raw_put := h9.2
  have rw26 := h9.2
  refine GO.aload dX11_tellLetters_29 rfl ?_
  refine GO.iconst dX11_tellLetters_31 ?_
  refine GO.aload_n dX11_tellLetters_32 rfl rfl ?_
  refine GO.iload_n dX11_tellLetters_33 rfl rfl ?_
  refine GO.callV (ci := 2) (N := mX2_decidesOn) dX11_tellLetters_34 (RX2, TX2, 5) rfl gV_RX11_301 h_p1 (t_X2_decidesOn h_p1 r_p2) rfl [ti 2, .ref (vq V (vq V x 1) 8)] rfl rfl (Nat.le_of_ble_eq_true rfl) rfl (k_ip fun X11 r12 h13 => ?_)
  have hj16 : ∀ (z15 : Int), ∀ (l17 : 0 ≤ z15), ∀ (u18 : z15 ≤ 1), GO mX11_tellLetters K V (VS K (fun V1 => (True))) K V10 0 0 45 [some (.ref x), some (.ref p0), some (.ref p1), some (ti p2), some (.ref (vq V (vq V x 1) 8))] [ti z15, ti 2, .ref (vq V (vq V x 1) 8)] := by
    intro z15 l17 u18
    have r19 : ir z15 := ⟨by omega, by omega⟩
    refine GO.callS (N := mX4_put_t135) dX11_tellLetters_45 gS_RX11_108 (t_X4_put_t135 h3 (ir_c rfl) r19) rfl [] rfl rfl (Nat.le_of_ble_eq_true rfl) rfl (k_vs fun V22 h21 hF20 => ?_)
    have raw_put := h21.2
    have rw45 := h21.2
    refine GO.aload dX11_tellLetters_48 rfl ?_
    refine GO.iconst dX11_tellLetters_50 ?_
    refine GO.aload_n dX11_tellLetters_51 rfl rfl ?_
    refine GO.getR h_x fl_RX11_12 rfl rfl dX11_tellLetters_52 (fun hv24 h23 => ?_)
    refine GO.getA (n := 144) h23 fl_RX11_123 rfl rfl rfl rfl dX11_tellLetters_55 (fun hv26 h25 => ?_)
    refine GO.aload_n dX11_tellLetters_58 rfl rfl ?_
    refine GO.getI h_p0 fl_RX11_378 rfl rfl dX11_tellLetters_59 (fun _ _ => ?_)
    refine GO.callS (N := mX4_get) dX11_tellLetters_62 gS_RX11_253 (t_X4_get rfl h25 vi_ir) rfl [ti 3, .ref (vq V (vq V x 1) 8)] rfl rfl (Nat.le_of_ble_eq_true rfl) rfl (k_ip fun X27 r28 h29 => ?_)
    have raw_get := h29.2
    have rw62 := h29.2
    refine GO.callS (N := mX4_put_t135) dX11_tellLetters_65 gS_RX11_108 (t_X4_put_t135 h3 (ir_c rfl) r28) rfl [] rfl rfl (Nat.le_of_ble_eq_true rfl) rfl (k_vs fun V32 h31 hF30 => ?_)
    have raw_put := h31.2
    have rw65 := h31.2
    refine GO.aload dX11_tellLetters_68 rfl ?_
    refine GO.iconst dX11_tellLetters_70 ?_
    refine GO.aload_n dX11_tellLetters_71 rfl rfl ?_
    refine GO.getRaw h_x fl_RX11_12 (Eq.trans (hF30 _ _ _ h_x h_x (by decide +kernel)) hv24) dX11_tellLetters_72 ?_
    refine GO.getA (n := 144) h23 fl_RX11_126 rfl rfl rfl rfl dX11_tellLetters_75 (fun hv36 h35 => ?_)
    refine GO.aload_n dX11_tellLetters_78 rfl rfl ?_
    refine GO.getI h_p0 fl_RX11_378 rfl rfl dX11_tellLetters_79 (fun _ _ => ?_)
    refine GO.callS (N := mX4_get) dX11_tellLetters_82 gS_RX11_253 (t_X4_get rfl h35 vi_ir) rfl [ti 4, .ref (vq V (vq V x 1) 8)] rfl rfl (Nat.le_of_ble_eq_true rfl) rfl (k_ip fun X37 r38 h39 => ?_)
    have raw_get := h39.2
    have rw82 := h39.2
    refine GO.callS (N := mX4_put_t135) dX11_tellLetters_85 gS_RX11_108 (t_X4_put_t135 h3 (ir_c rfl) r38) rfl [] rfl rfl (Nat.le_of_ble_eq_true rfl) rfl (k_vs fun V42 h41 hF40 => ?_)
    have raw_put := h41.2
    have rw85 := h41.2
    refine GO.aload dX11_tellLetters_88 rfl ?_
    refine GO.bipush dX11_tellLetters_90 rfl ?_
    refine GO.aload_n dX11_tellLetters_92 rfl rfl ?_
    refine GO.getI h_p0 fl_RX11_305 rfl rfl dX11_tellLetters_93 (fun _ _ => ?_)
    refine GO.callS (N := mX4_put_t135) dX11_tellLetters_96 gS_RX11_108 (t_X4_put_t135 h3 (ir_c rfl) vi_ir) rfl [] rfl rfl (Nat.le_of_ble_eq_true rfl) rfl (k_vs fun V45 h44 hF43 => ?_)
    have raw_put := h44.2
    have rw96 := h44.2
    refine GO.aload dX11_tellLetters_99 rfl ?_
    refine GO.bipush dX11_tellLetters_101 rfl ?_
    refine GO.aload_n dX11_tellLetters_103 rfl rfl ?_
    refine GO.getI h_p0 fl_RX11_306 rfl rfl dX11_tellLetters_104 (fun _ _ => ?_)
    refine GO.callS (N := mX4_put_t135) dX11_tellLetters_107 gS_RX11_108 (t_X4_put_t135 h3 (ir_c rfl) vi_ir) rfl [] rfl rfl (Nat.le_of_ble_eq_true rfl) rfl (k_vs fun V48 h47 hF46 => ?_)
    have raw_put := h47.2
    have rw107 := h47.2
    refine GO.aload dX11_tellLetters_110 rfl ?_
    refine GO.bipush dX11_tellLetters_112 rfl ?_
    refine GO.iload_n dX11_tellLetters_114 rfl rfl ?_
    refine GO.sipush dX11_tellLetters_115 rfl ?_
    refine GO.irem dX11_tellLetters_118 (ir_c rfl) (by omega) ?_
    refine GO.callS (N := mX4_put_t135) dX11_tellLetters_119 gS_RX11_108 (t_X4_put_t135 h3 (ir_c rfl) wrem_ir) rfl [] rfl rfl (Nat.le_of_ble_eq_true rfl) rfl (k_vs fun V51 h50 hF49 => ?_)
    have raw_put := h50.2
    have rw119 := h50.2
    refine GO.aload dX11_tellLetters_122 rfl ?_
    refine GO.bipush dX11_tellLetters_124 rfl ?_
    refine GO.iload_n dX11_tellLetters_126 rfl rfl ?_
    refine GO.sipush dX11_tellLetters_127 rfl ?_
    refine GO.idiv dX11_tellLetters_130 (ir_c rfl) (by omega) ?_
    refine GO.callS (N := mX4_put_t135) dX11_tellLetters_131 gS_RX11_108 (t_X4_put_t135 h3 (ir_c rfl) wdiv_ir) rfl [] rfl rfl (Nat.le_of_ble_eq_true rfl) rfl (k_vs fun V54 h53 hF52 => ?_)
    have raw_put := h53.2
    have rw131 := h53.2
    refine GO.aload dX11_tellLetters_134 rfl ?_
    refine GO.bipush dX11_tellLetters_136 rfl ?_
    refine GO.aload_n dX11_tellLetters_138 rfl rfl ?_
    refine GO.getRaw h_x fl_RX11_12 (Eq.trans (hF52 _ _ _ h_x h_x (by decide +kernel)) (Eq.trans (hF49 _ _ _ h_x h_x (by decide +kernel)) (Eq.trans (hF46 _ _ _ h_x h_x (by decide +kernel)) (Eq.trans (hF43 _ _ _ h_x h_x (by decide +kernel)) (Eq.trans (hF40 _ _ _ h_x h_x (by decide +kernel)) (Eq.trans (hF30 _ _ _ h_x h_x (by decide +kernel)) hv24)))))) dX11_tellLetters_139 ?_
    refine GO.iload_n dX11_tellLetters_142 rfl rfl ?_
    refine GO.callV (ci := 0) (N := mX0_isDark) dX11_tellLetters_143 (RX0, TX0, 13) rfl gV_RX11_381 h23 (t_X0_isDark h23 r_p2) rfl [ti 13, .ref (vq V (vq V x 1) 8)] rfl rfl (Nat.le_of_ble_eq_true rfl) rfl (k_ip fun X57 r58 h59 => ?_)
    refine GO.if_eq (tgt := 153) dX11_tellLetters_146 (by decide) r58 (fun c60 => ?_) (fun c60 => ?_)
    ·
      refine GO.iconst dX11_tellLetters_153 ?_
      refine GO.callS (N := mX4_put_t135) dX11_tellLetters_154 gS_RX11_108 (t_X4_put_t135 h3 (ir_c rfl) (ir_c rfl)) rfl [] rfl rfl (Nat.le_of_ble_eq_true rfl) rfl (k_vs fun V63 h62 hF61 => ?_)
      have raw_put := h62.2
      have rw154 := h62.2
      exact GO.retv rfl rfl dX11_tellLetters_157 ⟨rfl, rfl, trivial⟩
    ·
      refine GO.iconst dX11_tellLetters_149 ?_
      refine GO.goto (tgt := 154) dX11_tellLetters_150 (by decide) ?_
      refine GO.callS (N := mX4_put_t135) dX11_tellLetters_154 gS_RX11_108 (t_X4_put_t135 h3 (ir_c rfl) (ir_c rfl)) rfl [] rfl rfl (Nat.le_of_ble_eq_true rfl) rfl (k_vs fun V66 h65 hF64 => ?_)
      have raw_put := h65.2
      have rw154 := h65.2
      exact GO.retv rfl rfl dX11_tellLetters_157 ⟨rfl, rfl, trivial⟩
  refine GO.if_eq (tgt := 44) dX11_tellLetters_37 (by decide) r12 (fun c67 => ?_) (fun c67 => ?_)
  ·
    refine GO.iconst dX11_tellLetters_44 ?_
    exact hj16 0 (by omega) (by omega)
  ·
    refine GO.iconst dX11_tellLetters_40 ?_
    refine GO.goto (tgt := 45) dX11_tellLetters_41 (by decide) ?_
    exact hj16 1 (by omega) (by omega)

set_option maxHeartbeats 1000000 in
theorem t_X11_tellNeighbours {K : Kmap} {V : Vmap} {x : Nat} {p0 : Nat} (h_x : K x = some (0, 10)) (h_p0 : K p0 = some (0, 9)) : MC mX11_tellNeighbours K V [.ref x, .ref p0] (VS K (fun V1 => (True))) := by
  refine MC.start 6 (by decide +kernel) rfl rfl rfl (ls0 := [some (.ref x), some (.ref p0), none, none, none, none, none, none]) rfl ?_
  refine GO.iconst dX11_tellNeighbours_0 ?_
  refine GO.istore_n (ls1 := [some (.ref x), some (.ref p0), some (ti 0), none, none, none, none, none]) dX11_tellNeighbours_1 rfl rfl rfl ?_
  refine GO.iconst dX11_tellNeighbours_2 ?_
  refine GO.istore_n (ls1 := [some (.ref x), some (.ref p0), some (ti 0), some (ti 0), none, none, none, none]) dX11_tellNeighbours_3 rfl rfl rfl ?_
  refine GO.iconst dX11_tellNeighbours_4 ?_
  refine GO.istore (ls1 := [some (.ref x), some (.ref p0), some (ti 0), some (ti 0), some (ti 0), none, none, none]) dX11_tellNeighbours_5 rfl rfl ?_
  refine GO.iconst dX11_tellNeighbours_7 ?_
  refine GO.istore (ls1 := [some (.ref x), some (.ref p0), some (ti 0), some (ti 0), some (ti 0), some (ti 0), none, none]) dX11_tellNeighbours_8 rfl rfl ?_
  refine GO.iconst dX11_tellNeighbours_10 ?_
  refine GO.istore (ls1 := [some (.ref x), some (.ref p0), some (ti 0), some (ti 0), some (ti 0), some (ti 0), some (ti 0), none]) dX11_tellNeighbours_11 rfl rfl ?_
  refine GO.loop5 (fun i1 i2 i3 i4 i5 W => 0 ≤ i1 ∧ i1 ≤ 2147483647 ∧ (-2147483648) ≤ i2 ∧ i2 ≤ 2147483647 ∧ (-2147483648) ≤ i3 ∧ i3 ≤ 2147483647 ∧ (-2147483648) ≤ i4 ∧ i4 ≤ 2147483647 ∧ 0 ≤ i5 ∧ i5 ≤ 60 ∧ V = W) (fun i1 i2 i3 i4 i5 => [some (.ref x), some (.ref p0), some (ti i1), some (ti i2), some (ti i3), some (ti i4), some (ti i5), none]) (fun i1 i2 i3 i4 i5 W => (2147483647 - i5).toNat) 0 0 0 0 0 ⟨by omega, by omega, by omega, by omega, by omega, by omega, by omega, by omega, by omega, by omega, rfl⟩ rfl (fun i1 i2 i3 i4 i5 V10196 hp10198 ih10197 => ?_)
  obtain ⟨l_i1, u_i1, l_i2, u_i2, l_i3, u_i3, l_i4, u_i4, l_i5, u_i5, rfl⟩ := hp10198
  have r_i1 : ir i1 := ⟨by omega, by omega⟩
  have r_i2 : ir i2 := ⟨by omega, by omega⟩
  have r_i3 : ir i3 := ⟨by omega, by omega⟩
  have r_i4 : ir i4 := ⟨by omega, by omega⟩
  have r_i5 : ir i5 := ⟨by omega, by omega⟩
  show GO mX11_tellNeighbours K V (VS K (fun V1 => (True))) K V 0 0 13 [some (.ref x), some (.ref p0), some (ti i1), some (ti i2), some (ti i3), some (ti i4), some (ti i5), none] []
  refine GO.iload dX11_tellNeighbours_13 rfl ?_
  refine GO.aload_n dX11_tellNeighbours_15 rfl rfl ?_
  refine GO.getI h_x fl_RX11_46 rfl rfl dX11_tellNeighbours_16 (fun l10199 u10200 => ?_)
  refine GO.icmp_ge (tgt := 204) dX11_tellNeighbours_19 (by decide) r_i5 vi_ir (fun c10201 => ?_) (fun c10201 => ?_)
  ·
    refine GO.aload_n dX11_tellNeighbours_204 rfl rfl ?_
    refine GO.getR h_x fl_RX11_19 rfl rfl dX11_tellNeighbours_205 (fun hv10203 h10202 => ?_)
    refine GO.getA (n := 14) h10202 fl_RX11_372 rfl rfl rfl rfl dX11_tellNeighbours_208 (fun hv10205 h10204 => ?_)
    refine GO.iconst dX11_tellNeighbours_211 ?_
    refine GO.iload_n dX11_tellNeighbours_212 rfl rfl ?_
    refine GO.callS (N := mX4_put_t135) dX11_tellNeighbours_213 gS_RX11_108 (t_X4_put_t135 h10204 (ir_c rfl) r_i1) rfl [] rfl rfl (Nat.le_of_ble_eq_true rfl) rfl (k_vs fun V10208 h10207 hF10206 => ?_)
    have raw_put := h10207.2
    have rw213 := h10207.2
    refine GO.aload_n dX11_tellNeighbours_216 rfl rfl ?_
    refine GO.getRaw h_x fl_RX11_19 (Eq.trans (hF10206 _ _ _ h_x h_x (by decide +kernel)) hv10203) dX11_tellNeighbours_217 ?_
    refine GO.getA (n := 14) h10202 fl_RX11_372 rfl rfl rfl rfl dX11_tellNeighbours_220 (fun hv10212 h10211 => ?_)
    refine GO.bipush dX11_tellNeighbours_223 rfl ?_
    refine GO.iload_n dX11_tellNeighbours_225 rfl rfl ?_
    refine GO.callS (N := mX4_put_t135) dX11_tellNeighbours_226 gS_RX11_108 (t_X4_put_t135 h10211 (ir_c rfl) r_i2) rfl [] rfl rfl (Nat.le_of_ble_eq_true rfl) rfl (k_vs fun V10215 h10214 hF10213 => ?_)
    have raw_put := h10214.2
    have rw226 := h10214.2
    refine GO.aload_n dX11_tellNeighbours_229 rfl rfl ?_
    refine GO.getRaw h_x fl_RX11_19 (Eq.trans (hF10213 _ _ _ h_x h_x (by decide +kernel)) (Eq.trans (hF10206 _ _ _ h_x h_x (by decide +kernel)) hv10203)) dX11_tellNeighbours_230 ?_
    refine GO.getA (n := 14) h10202 fl_RX11_372 rfl rfl rfl rfl dX11_tellNeighbours_233 (fun hv10219 h10218 => ?_)
    refine GO.bipush dX11_tellNeighbours_236 rfl ?_
    refine GO.iload dX11_tellNeighbours_238 rfl ?_
    refine GO.callS (N := mX4_put_t135) dX11_tellNeighbours_240 gS_RX11_108 (t_X4_put_t135 h10218 (ir_c rfl) r_i3) rfl [] rfl rfl (Nat.le_of_ble_eq_true rfl) rfl (k_vs fun V10222 h10221 hF10220 => ?_)
    have raw_put := h10221.2
    have rw240 := h10221.2
    refine GO.aload_n dX11_tellNeighbours_243 rfl rfl ?_
    refine GO.getRaw h_x fl_RX11_19 (Eq.trans (hF10220 _ _ _ h_x h_x (by decide +kernel)) (Eq.trans (hF10213 _ _ _ h_x h_x (by decide +kernel)) (Eq.trans (hF10206 _ _ _ h_x h_x (by decide +kernel)) hv10203))) dX11_tellNeighbours_244 ?_
    refine GO.getA (n := 14) h10202 fl_RX11_372 rfl rfl rfl rfl dX11_tellNeighbours_247 (fun hv10226 h10225 => ?_)
    refine GO.bipush dX11_tellNeighbours_250 rfl ?_
    refine GO.iload dX11_tellNeighbours_252 rfl ?_
    refine GO.callS (N := mX4_put_t135) dX11_tellNeighbours_254 gS_RX11_108 (t_X4_put_t135 h10225 (ir_c rfl) r_i4) rfl [] rfl rfl (Nat.le_of_ble_eq_true rfl) rfl (k_vs fun V10229 h10228 hF10227 => ?_)
    have raw_put := h10228.2
    have rw254 := h10228.2
    exact GO.retv rfl rfl dX11_tellNeighbours_257 ⟨rfl, rfl, trivial⟩
  ·
    refine GO.aload_n dX11_tellNeighbours_22 rfl rfl ?_
    refine GO.iload dX11_tellNeighbours_23 rfl ?_
    refine GO.callV (ci := 10) (N := mX11_anyPlace) dX11_tellNeighbours_25 (RX11, TX11, 20) rfl gV_RX11_384 h_x (t_X11_anyPlace h_x r_i5) rfl [] rfl rfl (Nat.le_of_ble_eq_true rfl) rfl (k_rp (fun h10232 => ?_) (fun o10230 h10231 h10232 => ?_))
    ·
      have rwn25 := h10232.2
      have hn10233 : NN 6 5 V x → i5 < 0 ∨ vi V x 6 ≤ i5 := h10232.2
      refine GO.astoreN (ls1 := [some (.ref x), some (.ref p0), some (ti i1), some (ti i2), some (ti i3), some (ti i4), some (ti i5), some (.null)]) dX11_tellNeighbours_28 rfl rfl ?_
      refine GO.aloadN dX11_tellNeighbours_30 rfl ?_
      refine GO.ifnonnullN dX11_tellNeighbours_32 ?_
      refine GO.goto (tgt := 198) dX11_tellNeighbours_35 (by decide) ?_
      refine GO.iinc (X := i5) (n := 1) (Y := i5 + 1) (ls1 := [some (.ref x), some (.ref p0), some (ti i1), some (ti i2), some (ti i3), some (ti i4), some (ti (i5 + 1)), some (.null)]) dX11_tellNeighbours_198 rfl rfl rfl rfl ?_
      refine GO.goto (tgt := 13) dX11_tellNeighbours_201 (by decide) ?_
      refine GO.drop [true, true, true, true, true, true, true, false] rfl ?_
      exact ih10197 i1 i2 i3 i4 (i5 + 1) V ⟨by omega, by omega, by omega, by omega, by omega, by omega, by omega, by omega, by omega, by omega, rfl⟩ (by show (2147483647 - (i5 + 1)).toNat < (2147483647 - i5).toNat; omega)
    ·
      have hp10234 : i5 ≥ 0 ∧ i5 < vi V x 6 := h10232.1
      have rwp25 := h10232.2
      have hq10235 : o10230 = plO V x (i5).toNat := h10232.2
      refine GO.astore (ls1 := [some (.ref x), some (.ref p0), some (ti i1), some (ti i2), some (ti i3), some (ti i4), some (ti i5), some (.ref o10230)]) dX11_tellNeighbours_28 rfl rfl ?_
      refine GO.aload dX11_tellNeighbours_30 rfl ?_
      refine GO.ifnonnull (tgt := 38) dX11_tellNeighbours_32 (by decide) ?_
      refine GO.aload dX11_tellNeighbours_38 rfl ?_
      refine GO.getI h10231 fl_RX11_387 rfl rfl dX11_tellNeighbours_40 (fun _ _ => ?_)
      refine GO.iconst dX11_tellNeighbours_43 ?_
      have hj10248 : GO mX11_tellNeighbours K V (VS K (fun V1 => (True))) K V 0 0 84 [some (.ref x), some (.ref p0), some (ti i1), some (ti i2), some (ti i3), some (ti i4), some (ti i5), some (.ref o10230)] [] := by
        skip
        refine GO.aload dX11_tellNeighbours_84 rfl ?_
        refine GO.getI h10231 fl_RX11_387 rfl rfl dX11_tellNeighbours_86 (fun _ _ => ?_)
        refine GO.iconst dX11_tellNeighbours_89 ?_
        have hj10258 : GO mX11_tellNeighbours K V (VS K (fun V1 => (True))) K V 0 0 119 [some (.ref x), some (.ref p0), some (ti i1), some (ti i2), some (ti i3), some (ti i4), some (ti i5), some (.ref o10230)] [] := by
          skip
          refine GO.aload dX11_tellNeighbours_119 rfl ?_
          refine GO.getI h10231 fl_RX11_387 rfl rfl dX11_tellNeighbours_121 (fun _ _ => ?_)
          refine GO.iconst dX11_tellNeighbours_124 ?_
          have hj10268 : GO mX11_tellNeighbours K V (VS K (fun V1 => (True))) K V 0 0 154 [some (.ref x), some (.ref p0), some (ti i1), some (ti i2), some (ti i3), some (ti i4), some (ti i5), some (.ref o10230)] [] := by
            skip
            refine GO.aload dX11_tellNeighbours_154 rfl ?_
            refine GO.getI h10231 fl_RX11_387 rfl rfl dX11_tellNeighbours_156 (fun _ _ => ?_)
            refine GO.iconst dX11_tellNeighbours_159 ?_
            refine GO.icmp_ne (tgt := 198) dX11_tellNeighbours_160 (by decide) vi_ir (ir_c rfl) (fun c10269 => ?_) (fun c10269 => ?_)
            ·
              refine GO.iinc (X := i5) (n := 1) (Y := i5 + 1) (ls1 := [some (.ref x), some (.ref p0), some (ti i1), some (ti i2), some (ti i3), some (ti i4), some (ti (i5 + 1)), some (.ref o10230)]) dX11_tellNeighbours_198 rfl rfl rfl rfl ?_
              refine GO.goto (tgt := 13) dX11_tellNeighbours_201 (by decide) ?_
              refine GO.drop [true, true, true, true, true, true, true, false] rfl ?_
              exact ih10197 i1 i2 i3 i4 (i5 + 1) V ⟨by omega, by omega, by omega, by omega, by omega, by omega, by omega, by omega, by omega, by omega, rfl⟩ (by show (2147483647 - (i5 + 1)).toNat < (2147483647 - i5).toNat; omega)
            ·
              refine GO.aload dX11_tellNeighbours_163 rfl ?_
              refine GO.getI h10231 fl_RX11_173 rfl rfl dX11_tellNeighbours_165 (fun _ _ => ?_)
              refine GO.aload_n dX11_tellNeighbours_168 rfl rfl ?_
              refine GO.getI h_p0 fl_RX11_353 rfl rfl dX11_tellNeighbours_169 (fun _ _ => ?_)
              refine GO.icmp_eq (tgt := 198) dX11_tellNeighbours_172 (by decide) vi_ir vi_ir (fun c10270 => ?_) (fun c10270 => ?_)
              ·
                refine GO.iinc (X := i5) (n := 1) (Y := i5 + 1) (ls1 := [some (.ref x), some (.ref p0), some (ti i1), some (ti i2), some (ti i3), some (ti i4), some (ti (i5 + 1)), some (.ref o10230)]) dX11_tellNeighbours_198 rfl rfl rfl rfl ?_
                refine GO.goto (tgt := 13) dX11_tellNeighbours_201 (by decide) ?_
                refine GO.drop [true, true, true, true, true, true, true, false] rfl ?_
                exact ih10197 i1 i2 i3 i4 (i5 + 1) V ⟨by omega, by omega, by omega, by omega, by omega, by omega, by omega, by omega, by omega, by omega, rfl⟩ (by show (2147483647 - (i5 + 1)).toNat < (2147483647 - i5).toNat; omega)
              ·
                refine GO.aload_n dX11_tellNeighbours_175 rfl rfl ?_
                refine GO.getR h_x fl_RX11_12 rfl rfl dX11_tellNeighbours_176 (fun hv10272 h10271 => ?_)
                refine GO.aload_n dX11_tellNeighbours_179 rfl rfl ?_
                refine GO.getI h_p0 fl_RX11_378 rfl rfl dX11_tellNeighbours_180 (fun _ _ => ?_)
                refine GO.aload dX11_tellNeighbours_183 rfl ?_
                refine GO.getI h10231 fl_RX11_344 rfl rfl dX11_tellNeighbours_185 (fun _ _ => ?_)
                refine GO.callV (ci := 0) (N := mX0_far) dX11_tellNeighbours_188 (RX0, TX0, 13) rfl gV_RX11_388 h10271 (t_X0_far h10271 vi_ir vi_ir) rfl [] rfl rfl (Nat.le_of_ble_eq_true rfl) rfl (k_ip fun X10273 r10274 h10275 => ?_)
                refine GO.iconst dX11_tellNeighbours_191 ?_
                refine GO.icmp_gt (tgt := 198) dX11_tellNeighbours_192 (by decide) r10274 (ir_c rfl) (fun c10276 => ?_) (fun c10276 => ?_)
                ·
                  refine GO.iinc (X := i5) (n := 1) (Y := i5 + 1) (ls1 := [some (.ref x), some (.ref p0), some (ti i1), some (ti i2), some (ti i3), some (ti i4), some (ti (i5 + 1)), some (.ref o10230)]) dX11_tellNeighbours_198 rfl rfl rfl rfl ?_
                  refine GO.goto (tgt := 13) dX11_tellNeighbours_201 (by decide) ?_
                  refine GO.drop [true, true, true, true, true, true, true, false] rfl ?_
                  exact ih10197 i1 i2 i3 i4 (i5 + 1) V ⟨by omega, by omega, by omega, by omega, by omega, by omega, by omega, by omega, by omega, by omega, rfl⟩ (by show (2147483647 - (i5 + 1)).toNat < (2147483647 - i5).toNat; omega)
                ·
                  refine GO.iincN (X := i4) (n := 1) dX11_tellNeighbours_195 rfl rfl (fun z10277 r10278 => ?_)
                  show GO mX11_tellNeighbours K V (VS K (fun V1 => (True))) K V 0 0 198 [some (.ref x), some (.ref p0), some (ti i1), some (ti i2), some (ti i3), some (ti z10277), some (ti i5), some (.ref o10230)] []
                  refine GO.iinc (X := i5) (n := 1) (Y := i5 + 1) (ls1 := [some (.ref x), some (.ref p0), some (ti i1), some (ti i2), some (ti i3), some (ti z10277), some (ti (i5 + 1)), some (.ref o10230)]) dX11_tellNeighbours_198 rfl rfl rfl rfl ?_
                  refine GO.goto (tgt := 13) dX11_tellNeighbours_201 (by decide) ?_
                  refine GO.drop [true, true, true, true, true, true, true, false] rfl ?_
                  have q10279 : -2147483648 ≤ z10277 ∧ z10277 ≤ 2147483647 := r10278
                  exact ih10197 i1 i2 i3 z10277 (i5 + 1) V ⟨by omega, by omega, by omega, by omega, by omega, by omega, by omega, by omega, by omega, by omega, rfl⟩ (by show (2147483647 - (i5 + 1)).toNat < (2147483647 - i5).toNat; omega)
          refine GO.icmp_ne (tgt := 154) dX11_tellNeighbours_125 (by decide) vi_ir (ir_c rfl) (fun c10280 => ?_) (fun c10280 => ?_)
          ·
            exact hj10268 
          ·
            refine GO.aload_n dX11_tellNeighbours_128 rfl rfl ?_
            refine GO.getR h_x fl_RX11_12 rfl rfl dX11_tellNeighbours_129 (fun hv10282 h10281 => ?_)
            refine GO.aload_n dX11_tellNeighbours_132 rfl rfl ?_
            refine GO.getI h_p0 fl_RX11_378 rfl rfl dX11_tellNeighbours_133 (fun _ _ => ?_)
            refine GO.aload dX11_tellNeighbours_136 rfl ?_
            refine GO.getI h10231 fl_RX11_344 rfl rfl dX11_tellNeighbours_138 (fun _ _ => ?_)
            refine GO.callV (ci := 0) (N := mX0_far) dX11_tellNeighbours_141 (RX0, TX0, 13) rfl gV_RX11_388 h10281 (t_X0_far h10281 vi_ir vi_ir) rfl [] rfl rfl (Nat.le_of_ble_eq_true rfl) rfl (k_ip fun X10283 r10284 h10285 => ?_)
            refine GO.iconst dX11_tellNeighbours_144 ?_
            refine GO.icmp_gt (tgt := 154) dX11_tellNeighbours_145 (by decide) r10284 (ir_c rfl) (fun c10286 => ?_) (fun c10286 => ?_)
            ·
              exact hj10268 
            ·
              refine GO.iincN (X := i3) (n := 1) dX11_tellNeighbours_148 rfl rfl (fun z10287 r10288 => ?_)
              show GO mX11_tellNeighbours K V (VS K (fun V1 => (True))) K V 0 0 151 [some (.ref x), some (.ref p0), some (ti i1), some (ti i2), some (ti z10287), some (ti i4), some (ti i5), some (.ref o10230)] []
              refine GO.goto (tgt := 198) dX11_tellNeighbours_151 (by decide) ?_
              refine GO.iinc (X := i5) (n := 1) (Y := i5 + 1) (ls1 := [some (.ref x), some (.ref p0), some (ti i1), some (ti i2), some (ti z10287), some (ti i4), some (ti (i5 + 1)), some (.ref o10230)]) dX11_tellNeighbours_198 rfl rfl rfl rfl ?_
              refine GO.goto (tgt := 13) dX11_tellNeighbours_201 (by decide) ?_
              refine GO.drop [true, true, true, true, true, true, true, false] rfl ?_
              have q10289 : -2147483648 ≤ z10287 ∧ z10287 ≤ 2147483647 := r10288
              exact ih10197 i1 i2 z10287 i4 (i5 + 1) V ⟨by omega, by omega, by omega, by omega, by omega, by omega, by omega, by omega, by omega, by omega, rfl⟩ (by show (2147483647 - (i5 + 1)).toNat < (2147483647 - i5).toNat; omega)
        refine GO.icmp_ne (tgt := 119) dX11_tellNeighbours_90 (by decide) vi_ir (ir_c rfl) (fun c10290 => ?_) (fun c10290 => ?_)
        ·
          exact hj10258 
        ·
          refine GO.aload_n dX11_tellNeighbours_93 rfl rfl ?_
          refine GO.getR h_x fl_RX11_12 rfl rfl dX11_tellNeighbours_94 (fun hv10292 h10291 => ?_)
          refine GO.aload_n dX11_tellNeighbours_97 rfl rfl ?_
          refine GO.getI h_p0 fl_RX11_378 rfl rfl dX11_tellNeighbours_98 (fun _ _ => ?_)
          refine GO.aload dX11_tellNeighbours_101 rfl ?_
          refine GO.getI h10231 fl_RX11_344 rfl rfl dX11_tellNeighbours_103 (fun _ _ => ?_)
          refine GO.callV (ci := 0) (N := mX0_far) dX11_tellNeighbours_106 (RX0, TX0, 13) rfl gV_RX11_388 h10291 (t_X0_far h10291 vi_ir vi_ir) rfl [] rfl rfl (Nat.le_of_ble_eq_true rfl) rfl (k_ip fun X10293 r10294 h10295 => ?_)
          refine GO.iconst dX11_tellNeighbours_109 ?_
          refine GO.icmp_gt (tgt := 119) dX11_tellNeighbours_110 (by decide) r10294 (ir_c rfl) (fun c10296 => ?_) (fun c10296 => ?_)
          ·
            exact hj10258 
          ·
            refine GO.iincN (X := i2) (n := 1) dX11_tellNeighbours_113 rfl rfl (fun z10297 r10298 => ?_)
            show GO mX11_tellNeighbours K V (VS K (fun V1 => (True))) K V 0 0 116 [some (.ref x), some (.ref p0), some (ti i1), some (ti z10297), some (ti i3), some (ti i4), some (ti i5), some (.ref o10230)] []
            refine GO.goto (tgt := 198) dX11_tellNeighbours_116 (by decide) ?_
            refine GO.iinc (X := i5) (n := 1) (Y := i5 + 1) (ls1 := [some (.ref x), some (.ref p0), some (ti i1), some (ti z10297), some (ti i3), some (ti i4), some (ti (i5 + 1)), some (.ref o10230)]) dX11_tellNeighbours_198 rfl rfl rfl rfl ?_
            refine GO.goto (tgt := 13) dX11_tellNeighbours_201 (by decide) ?_
            refine GO.drop [true, true, true, true, true, true, true, false] rfl ?_
            have q10299 : -2147483648 ≤ z10297 ∧ z10297 ≤ 2147483647 := r10298
            exact ih10197 i1 z10297 i3 i4 (i5 + 1) V ⟨by omega, by omega, by omega, by omega, by omega, by omega, by omega, by omega, by omega, by omega, rfl⟩ (by show (2147483647 - (i5 + 1)).toNat < (2147483647 - i5).toNat; omega)
      refine GO.icmp_ne (tgt := 84) dX11_tellNeighbours_44 (by decide) vi_ir (ir_c rfl) (fun c10300 => ?_) (fun c10300 => ?_)
      ·
        exact hj10248 
      ·
        refine GO.aload_n dX11_tellNeighbours_47 rfl rfl ?_
        refine GO.getR h_x fl_RX11_12 rfl rfl dX11_tellNeighbours_48 (fun hv10302 h10301 => ?_)
        refine GO.aload_n dX11_tellNeighbours_51 rfl rfl ?_
        refine GO.getI h_p0 fl_RX11_378 rfl rfl dX11_tellNeighbours_52 (fun _ _ => ?_)
        refine GO.aload dX11_tellNeighbours_55 rfl ?_
        refine GO.getI h10231 fl_RX11_344 rfl rfl dX11_tellNeighbours_57 (fun _ _ => ?_)
        refine GO.aload dX11_tellNeighbours_60 rfl ?_
        refine GO.getI h10231 fl_RX11_347 rfl rfl dX11_tellNeighbours_62 (fun _ _ => ?_)
        refine GO.callV (ci := 0) (N := mX0_isWithin) dX11_tellNeighbours_65 (RX0, TX0, 13) rfl gV_RX11_350 h10301 (t_X0_isWithin h10301 vi_ir vi_ir vi_ir) rfl [] rfl rfl (Nat.le_of_ble_eq_true rfl) rfl (k_ip fun X10303 r10304 h10305 => ?_)
        refine GO.if_eq (tgt := 84) dX11_tellNeighbours_68 (by decide) r10304 (fun c10306 => ?_) (fun c10306 => ?_)
        ·
          exact hj10248 
        ·
          refine GO.iload_n dX11_tellNeighbours_71 rfl rfl ?_
          refine GO.aload dX11_tellNeighbours_72 rfl ?_
          refine GO.getI h10231 fl_RX11_176 rfl rfl dX11_tellNeighbours_74 (fun _ _ => ?_)
          refine GO.callS (N := mJ9_max_7cf53) dX11_tellNeighbours_77 gS_RX11_296 (t_J9_max_7cf53 r_i1 vi_ir) rfl [] rfl rfl (Nat.le_of_ble_eq_true rfl) rfl (k_ip fun X10307 r10308 h10309 => ?_)
          have q10310 : -2147483648 ≤ vi V o10230 4 ∧ vi V o10230 4 ≤ 2147483647 := vi_ir
          have q10311 : -2147483648 ≤ X10307 ∧ X10307 ≤ 2147483647 := r10308
          refine GO.istore_n (ls1 := [some (.ref x), some (.ref p0), some (ti X10307), some (ti i2), some (ti i3), some (ti i4), some (ti i5), some (.ref o10230)]) dX11_tellNeighbours_80 rfl rfl rfl ?_
          refine GO.goto (tgt := 198) dX11_tellNeighbours_81 (by decide) ?_
          refine GO.iinc (X := i5) (n := 1) (Y := i5 + 1) (ls1 := [some (.ref x), some (.ref p0), some (ti X10307), some (ti i2), some (ti i3), some (ti i4), some (ti (i5 + 1)), some (.ref o10230)]) dX11_tellNeighbours_198 rfl rfl rfl rfl ?_
          refine GO.goto (tgt := 13) dX11_tellNeighbours_201 (by decide) ?_
          refine GO.drop [true, true, true, true, true, true, true, false] rfl ?_
          exact ih10197 X10307 i2 i3 i4 (i5 + 1) V ⟨by omega, by omega, by omega, by omega, by omega, by omega, by omega, by omega, by omega, by omega, rfl⟩ (by show (2147483647 - (i5 + 1)).toNat < (2147483647 - i5).toNat; omega)

set_option maxHeartbeats 1000000 in
theorem t_X11_decidingOn {K : Kmap} {V : Vmap} {x : Nat} {p0 : Int} (h_x : K x = some (0, 10)) (r_p0 : ir p0) : MC mX11_decidingOn K V [.ref x, ti p0] (IP K V (fun X => True)) := by
  refine MC.start 3 (by decide +kernel) rfl rfl rfl (ls0 := [some (.ref x), some (ti p0), none, none, none]) rfl ?_
  refine GO.iconst dX11_decidingOn_0 ?_
  refine GO.istore_n (ls1 := [some (.ref x), some (ti p0), some (ti 0), none, none]) dX11_decidingOn_1 rfl rfl rfl ?_
  refine GO.iconst dX11_decidingOn_2 ?_
  refine GO.istore_n (ls1 := [some (.ref x), some (ti p0), some (ti 0), some (ti 0), none]) dX11_decidingOn_3 rfl rfl rfl ?_
  refine GO.loop2 (fun i1 i2 W => (-2147483648) ≤ i1 ∧ i1 ≤ 2147483647 ∧ 0 ≤ i2 ∧ i2 ≤ 9 ∧ V = W) (fun i1 i2 => [some (.ref x), some (ti p0), some (ti i1), some (ti i2), none]) (fun i1 i2 W => (2147483647 - i2).toNat) 0 0 ⟨by omega, by omega, by omega, by omega, rfl⟩ rfl (fun i1 i2 V451 hp453 ih452 => ?_)
  obtain ⟨l_i1, u_i1, l_i2, u_i2, rfl⟩ := hp453
  have r_i1 : ir i1 := ⟨by omega, by omega⟩
  have r_i2 : ir i2 := ⟨by omega, by omega⟩
  show GO mX11_decidingOn K V (IP K V (fun X => True)) K V 0 0 4 [some (.ref x), some (ti p0), some (ti i1), some (ti i2), none] []
  refine GO.iload_n dX11_decidingOn_4 rfl rfl ?_
  refine GO.aload_n dX11_decidingOn_5 rfl rfl ?_
  refine GO.getI h_x fl_RX11_36 rfl rfl dX11_decidingOn_6 (fun l454 u455 => ?_)
  refine GO.icmp_ge (tgt := 45) dX11_decidingOn_9 (by decide) r_i2 vi_ir (fun c456 => ?_) (fun c456 => ?_)
  ·
    refine GO.iload_n dX11_decidingOn_45 rfl rfl ?_
    exact GO.reti rfl rfl dX11_decidingOn_46 ⟨rfl, rfl, _, rfl, r_i1, trivial⟩
  ·
    refine GO.aload_n dX11_decidingOn_12 rfl rfl ?_
    refine GO.iload_n dX11_decidingOn_13 rfl rfl ?_
    refine GO.callV (ci := 10) (N := mX11_partyOf) dX11_decidingOn_14 (RX11, TX11, 20) rfl gV_RX11_151 h_x (t_X11_partyOf h_x r_i2) rfl [] rfl rfl (Nat.le_of_ble_eq_true rfl) rfl (k_rp (fun h459 => ?_) (fun o457 h458 h459 => ?_))
    ·
      have rwn14 := h459.2
      have hn460 : PN V x → i2 < 0 ∨ vi V x 4 ≤ i2 := h459.2
      refine GO.astoreN (ls1 := [some (.ref x), some (ti p0), some (ti i1), some (ti i2), some (.null)]) dX11_decidingOn_17 rfl rfl ?_
      refine GO.aloadN dX11_decidingOn_19 rfl ?_
      refine GO.ifnullN (tgt := 39) dX11_decidingOn_21 (by decide) ?_
      refine GO.iinc (X := i2) (n := 1) (Y := i2 + 1) (ls1 := [some (.ref x), some (ti p0), some (ti i1), some (ti (i2 + 1)), some (.null)]) dX11_decidingOn_39 rfl rfl rfl rfl ?_
      refine GO.goto (tgt := 4) dX11_decidingOn_42 (by decide) ?_
      refine GO.drop [true, true, true, true, false] rfl ?_
      exact ih452 i1 (i2 + 1) V ⟨by omega, by omega, by omega, by omega, rfl⟩ (by show (2147483647 - (i2 + 1)).toNat < (2147483647 - i2).toNat; omega)
    ·
      have hp461 : i2 ≥ 0 ∧ i2 < vi V x 4 := h459.1
      have rwp14 := h459.2
      have hq462 : o457 = vq V (vq V x 3) (i2).toNat := h459.2
      refine GO.astore (ls1 := [some (.ref x), some (ti p0), some (ti i1), some (ti i2), some (.ref o457)]) dX11_decidingOn_17 rfl rfl ?_
      refine GO.aload dX11_decidingOn_19 rfl ?_
      refine GO.ifnull dX11_decidingOn_21 ?_
      refine GO.aload dX11_decidingOn_24 rfl ?_
      refine GO.iload_n dX11_decidingOn_26 rfl rfl ?_
      refine GO.callV (ci := 2) (N := mX2_decidesOn) dX11_decidingOn_27 (RX2, TX2, 5) rfl gV_RX11_301 h458 (t_X2_decidesOn h458 r_p0) rfl [] rfl rfl (Nat.le_of_ble_eq_true rfl) rfl (k_ip fun X463 r464 h465 => ?_)
      refine GO.if_eq (tgt := 39) dX11_decidingOn_30 (by decide) r464 (fun c466 => ?_) (fun c466 => ?_)
      ·
        refine GO.iinc (X := i2) (n := 1) (Y := i2 + 1) (ls1 := [some (.ref x), some (ti p0), some (ti i1), some (ti (i2 + 1)), some (.ref o457)]) dX11_decidingOn_39 rfl rfl rfl rfl ?_
        refine GO.goto (tgt := 4) dX11_decidingOn_42 (by decide) ?_
        refine GO.drop [true, true, true, true, false] rfl ?_
        exact ih452 i1 (i2 + 1) V ⟨by omega, by omega, by omega, by omega, rfl⟩ (by show (2147483647 - (i2 + 1)).toNat < (2147483647 - i2).toNat; omega)
      ·
        refine GO.iload_n dX11_decidingOn_33 rfl rfl ?_
        refine GO.iconst dX11_decidingOn_34 ?_
        refine GO.iload_n dX11_decidingOn_35 rfl rfl ?_
        refine GO.ishl dX11_decidingOn_36 ?_
        refine GO.ior dX11_decidingOn_37 ?_
        refine GO.name (fun z467 hz468 => ?_)
        have r469 : ir z467 := hz468 ▸ wor_ir
        refine GO.istore_n (ls1 := [some (.ref x), some (ti p0), some (ti z467), some (ti i2), some (.ref o457)]) dX11_decidingOn_38 rfl rfl rfl ?_
        refine GO.iinc (X := i2) (n := 1) (Y := i2 + 1) (ls1 := [some (.ref x), some (ti p0), some (ti z467), some (ti (i2 + 1)), some (.ref o457)]) dX11_decidingOn_39 rfl rfl rfl rfl ?_
        refine GO.goto (tgt := 4) dX11_decidingOn_42 (by decide) ?_
        refine GO.drop [true, true, true, true, false] rfl ?_
        have q470 : -2147483648 ≤ z467 ∧ z467 ≤ 2147483647 := r469
        have q471 : -2147483648 ≤ wor i1 (wshl 1 i2) ∧ wor i1 (wshl 1 i2) ≤ 2147483647 := wor_ir
        exact ih452 z467 (i2 + 1) V ⟨by omega, by omega, by omega, by omega, rfl⟩ (by show (2147483647 - (i2 + 1)).toNat < (2147483647 - i2).toNat; omega)

set_option maxHeartbeats 1000000 in
theorem t_X11_hasConsent {K : Kmap} {V : Vmap} {x : Nat} {p0 : Nat} {p1 : Int} (h_x : K x = some (0, 10)) (h_p0 : K p0 = some (0, 9)) (r_p1 : ir p1) : MC mX11_hasConsent K V [.ref x, .ref p0, ti p1] (IP K V (fun X => (X = 0 ∨ X = 1) ∧ (X ≠ 0 → True) ∧ (X = 0 → True))) := by
  refine MC.start 1 (by decide +kernel) rfl rfl rfl (ls0 := [some (.ref x), some (.ref p0), some (ti p1), none]) rfl ?_
  refine GO.aload_n dX11_hasConsent_0 rfl rfl ?_
  refine GO.iload_n dX11_hasConsent_1 rfl rfl ?_
  refine GO.callV (ci := 10) (N := mX11_decidingOn) dX11_hasConsent_2 (RX11, TX11, 20) rfl gV_RX11_369 h_x (t_X11_decidingOn h_x r_p1) rfl [] rfl rfl (Nat.le_of_ble_eq_true rfl) rfl (k_ip fun X1 r2 h3 => ?_)
  refine GO.istore_n (ls1 := [some (.ref x), some (.ref p0), some (ti p1), some (ti X1)]) dX11_hasConsent_5 rfl rfl rfl ?_
  refine GO.aload_n dX11_hasConsent_6 rfl rfl ?_
  refine GO.getI h_p0 fl_RX11_328 rfl rfl dX11_hasConsent_7 (fun _ _ => ?_)
  refine GO.iload_n dX11_hasConsent_10 rfl rfl ?_
  refine GO.iand dX11_hasConsent_11 ?_
  refine GO.if_eq (tgt := 17) dX11_hasConsent_12 (by decide) wand_ir (fun c4 => ?_) (fun c4 => ?_)
  ·
    refine GO.iconst dX11_hasConsent_17 ?_
    refine GO.aload_n dX11_hasConsent_18 rfl rfl ?_
    refine GO.getI h_p0 fl_RX11_325 rfl rfl dX11_hasConsent_19 (fun _ _ => ?_)
    refine GO.iload_n dX11_hasConsent_22 rfl rfl ?_
    refine GO.iand dX11_hasConsent_23 ?_
    refine GO.callS (N := mJ6_bitCount_0f7a4) dX11_hasConsent_24 gS_RX11_286 (t_J6_bitCount_0f7a4 wand_ir) rfl [ti 2] rfl rfl (Nat.le_of_ble_eq_true rfl) rfl (k_ip fun X5 r6 h7 => ?_)
    have raw_bitCount := h7.2
    have rw24 := h7.2
    refine GO.imul dX11_hasConsent_27 ?_
    refine GO.norm (fun z8 r9 hn10 => ?_)
    refine GO.iload_n dX11_hasConsent_28 rfl rfl ?_
    refine GO.callS (N := mJ6_bitCount_0f7a4) dX11_hasConsent_29 gS_RX11_286 (t_J6_bitCount_0f7a4 r2) rfl [ti z8] rfl rfl (Nat.le_of_ble_eq_true rfl) rfl (k_ip fun X11 r12 h13 => ?_)
    have raw_bitCount := h13.2
    have rw29 := h13.2
    refine GO.icmp_le (tgt := 39) dX11_hasConsent_32 (by decide) r9 r12 (fun c14 => ?_) (fun c14 => ?_)
    ·
      refine GO.iconst dX11_hasConsent_39 ?_
      exact GO.retz rfl rfl dX11_hasConsent_40 (Or.inl rfl) ⟨rfl, rfl, _, rfl, (ir_c rfl), ⟨Or.inl rfl, fun _ => trivial, fun _ => trivial⟩⟩
    ·
      refine GO.iconst dX11_hasConsent_35 ?_
      refine GO.goto (tgt := 40) dX11_hasConsent_36 (by decide) ?_
      exact GO.retz rfl rfl dX11_hasConsent_40 (Or.inr rfl) ⟨rfl, rfl, _, rfl, (ir_c rfl), ⟨Or.inr rfl, fun _ => trivial, fun _ => trivial⟩⟩
  ·
    refine GO.iconst dX11_hasConsent_15 ?_
    exact GO.retz rfl rfl dX11_hasConsent_16 (Or.inl rfl) ⟨rfl, rfl, _, rfl, (ir_c rfl), ⟨Or.inl rfl, fun _ => trivial, fun _ => trivial⟩⟩

set_option maxHeartbeats 1000000 in
theorem t_X11_judge {K : Kmap} {V : Vmap} {x : Nat} {p0 : Nat} {p1 : Int} {p2 : Int} (h_x : K x = some (0, 10)) (h_p0 : K p0 = some (0, 9)) (r_p1 : ir p1) (r_p2 : ir p2) (z_p2 : p2 = 0 ∨ p2 = 1) (w_0 : CWI K V x) : MC mX11_judge K V [.ref x, .ref p0, ti p1, ti p2] (IS K (fun X V1 => (True) ∧ (CWI K V1 x))) := by
  refine MC.start 1 (by decide +kernel) rfl rfl rfl (ls0 := [some (.ref x), some (.ref p0), some (ti p1), some (ti p2), none]) rfl ?_
  refine GO.useWT (fun hW_0 => ?_)
  refine GO.aload_n dX11_judge_0 rfl rfl ?_
  refine GO.aload_n dX11_judge_1 rfl rfl ?_
  refine GO.getI h_p0 fl_RX11_353 rfl rfl dX11_judge_2 (fun _ _ => ?_)
  refine GO.callV (ci := 10) (N := mX11_partyOf) dX11_judge_5 (RX11, TX11, 20) rfl gV_RX11_151 h_x (t_X11_partyOf h_x vi_ir) rfl [] rfl rfl (Nat.le_of_ble_eq_true rfl) rfl (k_rp (fun h3 => ?_) (fun o1 h2 h3 => ?_))
  ·
    have rwn5 := h3.2
    have hn4 : PN V x → (vi V p0 1) < 0 ∨ vi V x 4 ≤ (vi V p0 1) := h3.2
    refine GO.astoreN (ls1 := [some (.ref x), some (.ref p0), some (ti p1), some (ti p2), some (.null)]) dX11_judge_8 rfl rfl ?_
    refine GO.aloadN dX11_judge_10 rfl ?_
    refine GO.ifnonnullN dX11_judge_12 ?_
    refine GO.iconst dX11_judge_15 ?_
    exact GO.reti rfl rfl dX11_judge_16 ⟨rfl, _, rfl, (ir_c rfl), ⟨(by first | exact trivial | omega), (by first | exact w_0)⟩⟩
  ·
    have hp5 : (vi V p0 1) ≥ 0 ∧ (vi V p0 1) < vi V x 4 := h3.1
    have rwp5 := h3.2
    have hq6 : o1 = vq V (vq V x 3) ((vi V p0 1)).toNat := h3.2
    refine GO.astore (ls1 := [some (.ref x), some (.ref p0), some (ti p1), some (ti p2), some (.ref o1)]) dX11_judge_8 rfl rfl ?_
    refine GO.aload dX11_judge_10 rfl ?_
    refine GO.ifnonnull (tgt := 17) dX11_judge_12 (by decide) ?_
    refine GO.aload_n dX11_judge_17 rfl rfl ?_
    refine GO.aload_n dX11_judge_18 rfl rfl ?_
    refine GO.aload dX11_judge_19 rfl ?_
    refine GO.iload_n dX11_judge_21 rfl rfl ?_
    refine GO.callV (ci := 10) (N := mX11_tellLetters) dX11_judge_22 (RX11, TX11, 20) rfl gV_RX11_354 h_x (t_X11_tellLetters h_x h_p0 h2 r_p1) rfl [] rfl rfl (Nat.le_of_ble_eq_true rfl) rfl (k_vs fun V9 h8 hF7 => ?_)
    refine GO.useWT (fun hWa => ?_)
    have hc1 := CWI.fr w_0 hF7 ext.rf hW_0 h_x (by decide +kernel) (by decide +kernel) (by decide +kernel)
    have hq1 := pty_k rwp5 ⟨by omega, by omega⟩ hF7 hW_0 h_x w_0.1 (by decide +kernel)
    have ho1 : vi V9 p0 1 = vi V p0 1 := vi_fr hF7 h_p0 h_p0 (by decide +kernel)
    refine GO.aload_n dX11_judge_25 rfl rfl ?_
    refine GO.aload_n dX11_judge_26 rfl rfl ?_
    refine GO.callV (ci := 10) (N := mX11_tellNeighbours) dX11_judge_27 (RX11, TX11, 20) rfl gV_RX11_358 h_x (t_X11_tellNeighbours h_x h_p0) rfl [] rfl rfl (Nat.le_of_ble_eq_true rfl) rfl (k_vs fun V12 h11 hF10 => ?_)
    refine GO.useWT (fun hWb => ?_)
    have hc2 := CWI.fr hc1 hF10 ext.rf hWa h_x (by decide +kernel) (by decide +kernel) (by decide +kernel)
    have hq2 := pty_k hq1.1 ⟨by omega, by have h9 := hq1.2; omega⟩ hF10 hWa h_x hc1.1 (by decide +kernel)
    have ho2 := (vi_fr (k := 1) hF10 h_p0 h_p0 (by decide +kernel)).trans ho1
    refine GO.aload_n dX11_judge_30 rfl rfl ?_
    refine GO.getR h_x fl_RX11_19 rfl rfl dX11_judge_31 (fun hv14 h13 => ?_)
    refine GO.aload_n dX11_judge_34 rfl rfl ?_
    refine GO.getI h_p0 fl_RX11_353 rfl rfl dX11_judge_35 (fun _ _ => ?_)
    refine GO.aload dX11_judge_38 rfl ?_
    refine GO.iload_n dX11_judge_40 rfl rfl ?_
    refine GO.callV (ci := 1) (N := mX1_weigh) dX11_judge_41 (RX1, TX1, 13) rfl gV_RX11_279 h13 (t_X1_weigh h13 vi_ir h2 r_p1) rfl [] rfl rfl (Nat.le_of_ble_eq_true rfl) rfl (k_vs fun V17 h16 hF15 => ?_)
    have raw_weigh := h16.2
    have rw41 := h16.2
    refine GO.useWT (fun hWc => ?_)
    have hcw := CWI.weigh hc2 rw41 rfl (by rw [ho2]; exact hq2.1) ⟨by omega, by have h9 := hq1.2; have h8 := hq2.2; omega⟩ hF15 hWb h_x (by decide +kernel) (by decide +kernel)
    refine GO.aload_n dX11_judge_44 rfl rfl ?_
    refine GO.getRaw h_x fl_RX11_19 (Eq.trans (hF15 _ _ _ h_x h_x (by decide +kernel)) hv14) dX11_judge_45 ?_
    refine GO.aload_n dX11_judge_48 rfl rfl ?_
    refine GO.iload_n dX11_judge_49 rfl rfl ?_
    refine GO.iload_n dX11_judge_50 rfl rfl ?_
    refine GO.aload_n dX11_judge_51 rfl rfl ?_
    refine GO.aload_n dX11_judge_52 rfl rfl ?_
    refine GO.iload_n dX11_judge_53 rfl rfl ?_
    refine GO.callV (ci := 10) (N := mX11_hasConsent) dX11_judge_54 (RX11, TX11, 20) rfl gV_RX11_362 h_x (t_X11_hasConsent h_x h_p0 r_p1) rfl [ti p2, ti p1, .ref p0, .ref (vq V12 x 1)] rfl rfl (Nat.le_of_ble_eq_true rfl) rfl (k_ip fun X20 r21 h22 => ?_)
    refine GO.callV (ci := 1) (N := mX1_judge) dX11_judge_57 (RX1, TX1, 13) rfl gV_RX11_366 h13 (t_X1_judge h13 h_p0 r_p1 r_p2 (by omega) r21 (by omega)) rfl [] rfl rfl (Nat.le_of_ble_eq_true rfl) rfl (k_is fun X23 V27 r24 h25 hF26 => ?_)
    have q28 : -2147483648 ≤ X23 ∧ X23 ≤ 2147483647 := r24
    exact GO.reti rfl rfl dX11_judge_60 ⟨rfl, _, rfl, r24, ⟨(by first | exact trivial | omega), (by first | exact w_0 | exact CWI.fr hcw.1 hF26 ext.rf hWc h_x (by decide +kernel) (by decide +kernel) (by decide +kernel))⟩⟩

set_option maxHeartbeats 1000000 in
theorem t_X11_may {K : Kmap} {V : Vmap} {x : Nat} {p0 : Int} {p1 : Int} {p2 : Int} (h_x : K x = some (0, 10)) (r_p0 : ir p0) (r_p1 : ir p1) (r_p2 : ir p2) (z_p2 : p2 = 0 ∨ p2 = 1) (w_0 : CWI K V x) : MC mX11_may K V [.ref x, ti p0, ti p1, ti p2] (IS K (fun X V1 => (True) ∧ (CWI K V1 x))) := by
  refine MC.start 1 (by decide +kernel) rfl rfl rfl (ls0 := [some (.ref x), some (ti p0), some (ti p1), some (ti p2), none]) rfl ?_
  refine GO.useWT (fun hW_0 => ?_)
  refine GO.aload_n dX11_may_0 rfl rfl ?_
  refine GO.iload_n dX11_may_1 rfl rfl ?_
  refine GO.callV (ci := 10) (N := mX11_workOf) dX11_may_2 (RX11, TX11, 20) rfl gV_RX11_309 h_x (t_X11_workOf h_x r_p0) rfl [] rfl rfl (Nat.le_of_ble_eq_true rfl) rfl (k_rp (fun h3 => ?_) (fun o1 h2 h3 => ?_))
  ·
    have rwn2 := h3.2
    have hn4 : NN 8 7 V x → p0 < 0 ∨ vi V x 8 ≤ p0 := h3.2
    refine GO.astoreN (ls1 := [some (.ref x), some (ti p0), some (ti p1), some (ti p2), some (.null)]) dX11_may_5 rfl rfl ?_
    refine GO.aloadN dX11_may_7 rfl ?_
    refine GO.ifnullN (tgt := 19) dX11_may_9 (by decide) ?_
    refine GO.iconst dX11_may_19 ?_
    exact GO.reti rfl rfl dX11_may_20 ⟨rfl, _, rfl, (ir_c rfl), ⟨(by first | exact trivial | omega), (by first | exact w_0)⟩⟩
  ·
    have hp5 : p0 ≥ 0 ∧ p0 < vi V x 8 := h3.1
    have rwp2 := h3.2
    have hq6 : o1 = wkO V x (p0).toNat ∧ 0 ≤ p0 ∧ p0 < vi V x 8 := h3.2
    refine GO.astore (ls1 := [some (.ref x), some (ti p0), some (ti p1), some (ti p2), some (.ref o1)]) dX11_may_5 rfl rfl ?_
    refine GO.aload dX11_may_7 rfl ?_
    refine GO.ifnull dX11_may_9 ?_
    refine GO.iload_n dX11_may_12 rfl rfl ?_
    refine GO.callS (N := mX11_isDay) dX11_may_13 gS_RX11_276 (t_X11_isDay r_p1) rfl [] rfl rfl (Nat.le_of_ble_eq_true rfl) rfl (k_ip fun X7 r8 h9 => ?_)
    refine GO.if_ne (tgt := 21) dX11_may_16 (by decide) r8 (fun c10 => ?_) (fun c10 => ?_)
    ·
      have q11 := h9.2.1 (by omega)
      refine GO.aload_n dX11_may_21 rfl rfl ?_
      refine GO.aload dX11_may_22 rfl ?_
      refine GO.iload_n dX11_may_24 rfl rfl ?_
      refine GO.iload_n dX11_may_25 rfl rfl ?_
      refine GO.callV (ci := 10) (N := mX11_judge) dX11_may_26 (RX11, TX11, 20) rfl gV_RX11_331 h_x (t_X11_judge h_x h2 r_p1 r_p2 (by omega) (w_0)) rfl [] rfl rfl (Nat.le_of_ble_eq_true rfl) rfl (k_is fun X12 V16 r13 h14 hF15 => ?_)
      have raw_judge := h14.2
      have rw26 := h14.2
      have q17 : -2147483648 ≤ X12 ∧ X12 ≤ 2147483647 := r13
      exact GO.reti rfl rfl dX11_may_29 ⟨rfl, _, rfl, r13, ⟨(by first | exact trivial | omega), (by first | exact w_0 | exact rw26)⟩⟩
    ·
      have q18 := h9.2.2 (by omega)
      refine GO.iconst dX11_may_19 ?_
      exact GO.reti rfl rfl dX11_may_20 ⟨rfl, _, rfl, (ir_c rfl), ⟨(by first | exact trivial | omega), (by first | exact w_0)⟩⟩
