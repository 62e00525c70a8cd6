def mX11_burn : MRec := (RX11, cX11_burn, 4, (none : Option Jvm.ClassFile.FieldType), yX11_burn, 2, 43, 0, 0, 7588550360256754183279148073529370729071901715047420004889892225542596375911333888)
def mX11_carryField : MRec := (RX11, cX11_carryField, 5, (none : Option Jvm.ClassFile.FieldType), yX11_carryField, 2, 46, 0, 0, 77309411328)
def mX11_loseStation : MRec := (RX11, cX11_loseStation, 3, (none : Option Jvm.ClassFile.FieldType), yX11_loseStation, 2, 43, 0, 0, 11382825540385131274918722110294056093607852572571130007334838338313893326916419584)
def mX11_carry : MRec := (RX11, cX11_carry, 8, (none : Option Jvm.ClassFile.FieldType), yX11_carry, 3, 70, 0, 0, 11382825540385131274918722110294056093607852572571130007334838338313895534529609728)
def mX11_passStation : MRec := (RX11, cX11_passStation, 5, (none : Option Jvm.ClassFile.FieldType), yX11_passStation, 4, 97, 0, 0, 11382825540385131274918722110294056093607852572571130007334838338313896634041237504)
set_option maxHeartbeats 1000000 in
theorem t_X11_burn {K : Kmap} {V : Vmap} {x : Nat} {p0 : Nat} {p1 : Int} (h_x : K x = some (0, 10)) (h_p0 : K p0 = some (0, 3)) (r_p1 : ir p1) : MC mX11_burn K V [.ref x, .ref p0, ti p1] (VS K (fun V1 => (True))) := by
  refine MC.start 1 (by decide +kernel) rfl rfl rfl (ls0 := [some (.ref x), some (.ref p0), some (ti p1), none]) rfl ?_
  refine GO.iload_n dX11_burn_0 rfl rfl ?_
  refine GO.aload_n dX11_burn_1 rfl rfl ?_
  refine GO.getI h_p0 fl_RX11_186 rfl rfl dX11_burn_2 (fun _ _ => ?_)
  refine GO.callS (N := mJ9_min_7cf53) dX11_burn_5 gS_RX11_479 (t_J9_min_7cf53 r_p1 vi_ir) rfl [] rfl rfl (Nat.le_of_ble_eq_true rfl) rfl (k_ip fun X1 r2 h3 => ?_)
  have q4 : -2147483648 ≤ vi V p0 7 ∧ vi V p0 7 ≤ 2147483647 := vi_ir
  have q5 : -2147483648 ≤ X1 ∧ X1 ≤ 2147483647 := r2
  have q6 : -2147483648 ≤ p1 ∧ p1 ≤ 2147483647 := r_p1
  refine GO.istore_n (ls1 := [some (.ref x), some (.ref p0), some (ti p1), some (ti X1)]) dX11_burn_8 rfl rfl rfl ?_
  refine GO.aload_n dX11_burn_9 rfl rfl ?_
  refine GO.dup dX11_burn_10 rfl ?_
  refine GO.getI h_p0 fl_RX11_186 rfl rfl dX11_burn_11 (fun _ _ => ?_)
  refine GO.iload_n dX11_burn_14 rfl rfl ?_
  refine GO.isub dX11_burn_15 ?_
  refine GO.norm (fun z7 r8 hn9 => ?_)
  refine GO.putI h_p0 fp_RX11_186 rfl (by decide +kernel) r8 (r8).1 (r8).2 dX11_burn_16 (fun V11 e10 => ?_)
  refine GO.aload_n dX11_burn_19 rfl rfl ?_
  refine GO.iconst dX11_burn_20 ?_
  refine GO.iload_n dX11_burn_21 rfl rfl ?_
  refine GO.callV (ci := 10) (N := mX11_tally) dX11_burn_22 (RX11, TX11, 20) rfl gV_RX11_192 h_x (t_X11_tally h_x (ir_c rfl) r2) rfl [] rfl rfl (Nat.le_of_ble_eq_true rfl) rfl (k_vs fun V14 h13 hF12 => ?_)
  refine GO.aload_n dX11_burn_25 rfl rfl ?_
  refine GO.iload_n dX11_burn_26 rfl rfl ?_
  refine GO.iload_n dX11_burn_27 rfl rfl ?_
  refine GO.icmp_ge (tgt := 40) dX11_burn_28 (by decide) r2 r_p1 (fun c15 => ?_) (fun c15 => ?_)
  ·
    refine GO.iconst dX11_burn_40 ?_
    refine GO.putI h_p0 fp_RX11_501 rfl (by decide +kernel) (ir_c rfl) (by decide) (by decide) dX11_burn_41 (fun V17 e16 => ?_)
    refine GO.aload_n dX11_burn_44 rfl rfl ?_
    refine GO.getI h_p0 fl_RX11_501 rfl rfl dX11_burn_45 (fun _ _ => ?_)
    refine GO.bipush dX11_burn_48 rfl ?_
    refine GO.icmp_ne (tgt := 58) dX11_burn_50 (by decide) vi_ir (ir_c rfl) (fun c18 => ?_) (fun c18 => ?_)
    ·
      exact GO.retv rfl rfl dX11_burn_58 ⟨rfl, rfl, trivial⟩
    ·
      refine GO.aload_n dX11_burn_53 rfl rfl ?_
      refine GO.aload_n dX11_burn_54 rfl rfl ?_
      refine GO.callV (ci := 10) (N := mX11_sendPeopleHome) dX11_burn_55 (RX11, TX11, 20) rfl gV_RX11_504 h_x (t_X11_sendPeopleHome h_x h_p0) rfl [] rfl rfl (Nat.le_of_ble_eq_true rfl) rfl (k_vs fun V21 h20 hF19 => ?_)
      exact GO.retv rfl rfl dX11_burn_58 ⟨rfl, rfl, trivial⟩
  ·
    refine GO.aload_n dX11_burn_31 rfl rfl ?_
    refine GO.getI h_p0 fl_RX11_501 rfl rfl dX11_burn_32 (fun _ _ => ?_)
    refine GO.iconst dX11_burn_35 ?_
    refine GO.iadd dX11_burn_36 ?_
    refine GO.norm (fun z22 r23 hn24 => ?_)
    refine GO.goto (tgt := 41) dX11_burn_37 (by decide) ?_
    refine GO.putI h_p0 fp_RX11_501 rfl (by decide +kernel) r23 (r23).1 (r23).2 dX11_burn_41 (fun V26 e25 => ?_)
    refine GO.aload_n dX11_burn_44 rfl rfl ?_
    refine GO.getI h_p0 fl_RX11_501 rfl rfl dX11_burn_45 (fun _ _ => ?_)
    refine GO.bipush dX11_burn_48 rfl ?_
    refine GO.icmp_ne (tgt := 58) dX11_burn_50 (by decide) vi_ir (ir_c rfl) (fun c27 => ?_) (fun c27 => ?_)
    ·
      exact GO.retv rfl rfl dX11_burn_58 ⟨rfl, rfl, trivial⟩
    ·
      refine GO.aload_n dX11_burn_53 rfl rfl ?_
      refine GO.aload_n dX11_burn_54 rfl rfl ?_
      refine GO.callV (ci := 10) (N := mX11_sendPeopleHome) dX11_burn_55 (RX11, TX11, 20) rfl gV_RX11_504 h_x (t_X11_sendPeopleHome h_x h_p0) rfl [] rfl rfl (Nat.le_of_ble_eq_true rfl) rfl (k_vs fun V30 h29 hF28 => ?_)
      exact GO.retv rfl rfl dX11_burn_58 ⟨rfl, rfl, trivial⟩

set_option maxHeartbeats 1000000 in
theorem t_X11_carryField {K : Kmap} {V : Vmap} {x : Nat} {p0 : Nat} {p1 : Int} {p2 : Int} (h_x : K x = some (0, 10)) (h_p0 : K p0 = some (0, 3)) (r_p1 : ir p1) (r_p2 : ir p2) (z_p2 : p2 = 0 ∨ p2 = 1) : MC mX11_carryField K V [.ref x, .ref p0, ti p1, ti p2] (VS K (fun V1 => (True) ∧ (CFD V V1 x p0 p1 p2))) := by
  refine MC.start 1 (by decide +kernel) rfl rfl rfl (ls0 := [some (.ref x), some (.ref p0), some (ti p1), some (ti p2), none]) rfl ?_
  refine GO.aload_n dX11_carryField_0 rfl rfl ?_
  refine GO.getR h_x fl_RX11_12 rfl rfl dX11_carryField_1 (fun hv2 h1 => ?_)
  refine GO.aload_n dX11_carryField_4 rfl rfl ?_
  refine GO.getI h_p0 fl_RX11_344 rfl rfl dX11_carryField_5 (fun _ _ => ?_)
  refine GO.iload_n dX11_carryField_8 rfl rfl ?_
  refine GO.callV (ci := 0) (N := mX0_beside) dX11_carryField_9 (RX0, TX0, 13) rfl gV_RX11_508 h1 (t_X0_beside h1 vi_ir r_p1) rfl [] rfl rfl (Nat.le_of_ble_eq_true rfl) rfl (k_ip fun X3 r4 h5 => ?_)
  have raw_beside := h5.2
  have rw9 := h5.2
  refine GO.istore (ls1 := [some (.ref x), some (.ref p0), some (ti p1), some (ti p2), some (ti X3)]) dX11_carryField_12 rfl rfl ?_
  refine GO.iload_n dX11_carryField_14 rfl rfl ?_
  refine GO.if_ne (tgt := 30) dX11_carryField_15 (by decide) r_p2 (fun c6 => ?_) (fun c6 => ?_)
  ·
    refine GO.aload_n dX11_carryField_30 rfl rfl ?_
    refine GO.iconst dX11_carryField_31 ?_
    refine GO.putZ h_p0 fp_RX11_511 rfl (by decide +kernel) (by omega) (by omega) (by omega) dX11_carryField_32 (fun V8 e7 => ?_)
    refine GO.iload dX11_carryField_35 rfl ?_
    refine GO.iconst dX11_carryField_37 ?_
    refine GO.icmp_eq (tgt := 47) dX11_carryField_38 (by decide) r4 (ir_c rfl) (fun c9 => ?_) (fun c9 => ?_)
    ·
      exact GO.retv rfl rfl dX11_carryField_47 ⟨rfl, rfl, ⟨trivial, (by first | exact CFD.lf (Y := 0) rw9 (Or.inl (by omega)) e7 (by omega) (by assumption) (by assumption) | exact CFD.la (Y := 0) rw9 (Or.inl (by omega)) e7 (by omega))⟩⟩
    ·
      refine GO.aload_n dX11_carryField_41 rfl rfl ?_
      refine GO.iload dX11_carryField_42 rfl ?_
      refine GO.putI h_p0 fp_RX11_344 rfl (by decide +kernel) r4 (r4).1 (r4).2 dX11_carryField_44 (fun V11 e10 => ?_)
      exact GO.retv rfl rfl dX11_carryField_47 ⟨rfl, rfl, ⟨trivial, (by first | exact CFD.lf (Y := 0) rw9 (Or.inl (by omega)) e7 (by omega) e10 (by assumption) | exact CFD.la (Y := 0) rw9 (Or.inl (by omega)) e7 (by omega))⟩⟩
  ·
    refine GO.aload_n dX11_carryField_18 rfl rfl ?_
    refine GO.getRaw h_x fl_RX11_12 hv2 dX11_carryField_19 ?_
    refine GO.iload dX11_carryField_22 rfl ?_
    refine GO.callV (ci := 0) (N := mX0_isFirm) dX11_carryField_24 (RX0, TX0, 13) rfl gV_RX11_179 h1 (t_X0_isFirm h1 r4) rfl [] rfl rfl (Nat.le_of_ble_eq_true rfl) rfl (k_ip fun X14 r15 h16 => ?_)
    have raw_isFirm := h16.2.2.2
    have rw24 := h16.2.2.2
    refine GO.if_ne (tgt := 35) dX11_carryField_27 (by decide) r15 (fun c17 => ?_) (fun c17 => ?_)
    ·
      refine GO.iload dX11_carryField_35 rfl ?_
      refine GO.iconst dX11_carryField_37 ?_
      refine GO.icmp_eq (tgt := 47) dX11_carryField_38 (by decide) r4 (ir_c rfl) (fun c18 => ?_) (fun c18 => ?_)
      ·
        exact GO.retv rfl rfl dX11_carryField_47 ⟨rfl, rfl, ⟨trivial, (by first | exact CFD.nb rw24 (by omega) (by omega) | exact CFD.f rw9 (by omega) rw24 (by omega) (by omega) (by assumption) (by assumption) | exact CFD.lf (Y := 0) rw9 (Or.inl (by omega)) (by assumption) (by omega) (by assumption) (by assumption) | exact CFD.lf rw9 (Or.inr ⟨by omega, rw24⟩) (by assumption) (by omega) (by assumption) (by assumption) | exact CFD.la (Y := 0) rw9 (Or.inl (by omega)) (by assumption) (by omega) | exact CFD.la rw9 (Or.inr ⟨by omega, rw24⟩) (by assumption) (by omega))⟩⟩
      ·
        refine GO.aload_n dX11_carryField_41 rfl rfl ?_
        refine GO.iload dX11_carryField_42 rfl ?_
        refine GO.putI h_p0 fp_RX11_344 rfl (by decide +kernel) r4 (r4).1 (r4).2 dX11_carryField_44 (fun V20 e19 => ?_)
        exact GO.retv rfl rfl dX11_carryField_47 ⟨rfl, rfl, ⟨trivial, (by first | exact CFD.nb rw24 (by omega) (by omega) | exact CFD.f rw9 (by omega) rw24 (by omega) (by omega) e19 (by assumption) | exact CFD.lf (Y := 0) rw9 (Or.inl (by omega)) (by assumption) (by omega) e19 (by assumption) | exact CFD.lf rw9 (Or.inr ⟨by omega, rw24⟩) (by assumption) (by omega) e19 (by assumption) | exact CFD.la (Y := 0) rw9 (Or.inl (by omega)) (by assumption) (by omega) | exact CFD.la rw9 (Or.inr ⟨by omega, rw24⟩) (by assumption) (by omega))⟩⟩
    ·
      refine GO.aload_n dX11_carryField_30 rfl rfl ?_
      refine GO.iconst dX11_carryField_31 ?_
      refine GO.putZ h_p0 fp_RX11_511 rfl (by decide +kernel) (by omega) (by omega) (by omega) dX11_carryField_32 (fun V22 e21 => ?_)
      refine GO.iload dX11_carryField_35 rfl ?_
      refine GO.iconst dX11_carryField_37 ?_
      refine GO.icmp_eq (tgt := 47) dX11_carryField_38 (by decide) r4 (ir_c rfl) (fun c23 => ?_) (fun c23 => ?_)
      ·
        exact GO.retv rfl rfl dX11_carryField_47 ⟨rfl, rfl, ⟨trivial, (by first | exact CFD.nb rw24 (by omega) (by omega) | exact CFD.f rw9 (by omega) rw24 (by omega) (by omega) (by assumption) (by assumption) | exact CFD.lf (Y := 0) rw9 (Or.inl (by omega)) e21 (by omega) (by assumption) (by assumption) | exact CFD.lf rw9 (Or.inr ⟨by omega, rw24⟩) e21 (by omega) (by assumption) (by assumption) | exact CFD.la (Y := 0) rw9 (Or.inl (by omega)) e21 (by omega) | exact CFD.la rw9 (Or.inr ⟨by omega, rw24⟩) e21 (by omega))⟩⟩
      ·
        refine GO.aload_n dX11_carryField_41 rfl rfl ?_
        refine GO.iload dX11_carryField_42 rfl ?_
        refine GO.putI h_p0 fp_RX11_344 rfl (by decide +kernel) r4 (r4).1 (r4).2 dX11_carryField_44 (fun V25 e24 => ?_)
        exact GO.retv rfl rfl dX11_carryField_47 ⟨rfl, rfl, ⟨trivial, (by first | exact CFD.nb rw24 (by omega) (by omega) | exact CFD.f rw9 (by omega) rw24 (by omega) (by omega) e24 (by assumption) | exact CFD.lf (Y := 0) rw9 (Or.inl (by omega)) e21 (by omega) e24 (by assumption) | exact CFD.lf rw9 (Or.inr ⟨by omega, rw24⟩) e21 (by omega) e24 (by assumption) | exact CFD.la (Y := 0) rw9 (Or.inl (by omega)) e21 (by omega) | exact CFD.la rw9 (Or.inr ⟨by omega, rw24⟩) e21 (by omega))⟩⟩

set_option maxHeartbeats 1000000 in
theorem t_X11_loseStation {K : Kmap} {V : Vmap} {x : Nat} {p0 : Nat} (h_x : K x = some (0, 10)) (h_p0 : K p0 = some (0, 3)) : MC mX11_loseStation K V [.ref x, .ref p0] (VS K (fun V1 => (True) ∧ (LSN K V V1 p0))) := by
  refine MC.start 1 (by decide +kernel) rfl rfl rfl (ls0 := [some (.ref x), some (.ref p0), none]) rfl ?_
  refine GO.aload_n dX11_loseStation_0 rfl rfl ?_
  refine GO.iconst dX11_loseStation_1 ?_
  refine GO.putZ h_p0 fp_RX11_511 rfl (by decide +kernel) (by omega) (by omega) (by omega) dX11_loseStation_2 (fun V2 e1 => ?_)
  refine GO.aload_n dX11_loseStation_5 rfl rfl ?_
  refine GO.iconst dX11_loseStation_6 ?_
  refine GO.aload_n dX11_loseStation_7 rfl rfl ?_
  refine GO.getI h_p0 fl_RX11_186 rfl rfl dX11_loseStation_8 (fun _ _ => ?_)
  refine GO.callV (ci := 10) (N := mX11_tally) dX11_loseStation_11 (RX11, TX11, 20) rfl gV_RX11_192 h_x (t_X11_tally h_x (ir_c rfl) vi_ir) rfl [] rfl rfl (Nat.le_of_ble_eq_true rfl) rfl (k_vs fun V5 h4 hF3 => ?_)
  refine GO.aload_n dX11_loseStation_14 rfl rfl ?_
  refine GO.iconst dX11_loseStation_15 ?_
  refine GO.aload_n dX11_loseStation_16 rfl rfl ?_
  refine GO.getI h_p0 fl_RX11_421 rfl rfl dX11_loseStation_17 (fun _ _ => ?_)
  refine GO.callV (ci := 10) (N := mX11_tally) dX11_loseStation_20 (RX11, TX11, 20) rfl gV_RX11_192 h_x (t_X11_tally h_x (ir_c rfl) vi_ir) rfl [] rfl rfl (Nat.le_of_ble_eq_true rfl) rfl (k_vs fun V8 h7 hF6 => ?_)
  refine GO.aload_n dX11_loseStation_23 rfl rfl ?_
  refine GO.iconst dX11_loseStation_24 ?_
  refine GO.putI h_p0 fp_RX11_186 rfl (by decide +kernel) (ir_c rfl) (by decide) (by decide) dX11_loseStation_25 (fun V10 e9 => ?_)
  refine GO.aload_n dX11_loseStation_28 rfl rfl ?_
  refine GO.iconst dX11_loseStation_29 ?_
  refine GO.putI h_p0 fp_RX11_421 rfl (by decide +kernel) (ir_c rfl) (by decide) (by decide) dX11_loseStation_30 (fun V12 e11 => ?_)
  refine GO.iconst dX11_loseStation_33 ?_
  refine GO.istore_n (ls1 := [some (.ref x), some (.ref p0), some (ti 0)]) dX11_loseStation_34 rfl rfl rfl ?_
  refine GO.loop1 (fun i13 W => 0 ≤ i13 ∧ i13 ≤ 4 ∧ (LSN K V W p0) ∧ True) (fun i13 => [some (.ref x), some (.ref p0), some (ti i13)]) (fun i13 W => (2147483647 - i13).toNat) 0 ⟨by omega, by omega, (by first | exact (LSN.put (LSN.put (LSN.fr (LSN.fr (LSN.mk e1) hF3 h_p0 (by decide +kernel)) hF6 h_p0 (by decide +kernel)) e9 (Or.inl rfl)) e11 (Or.inr rfl))), trivial⟩ rfl (fun i13 Wi13 hp206 ih205 => ?_)
  obtain ⟨l_i13, u_i13, hls, -⟩ := hp206
  have r_i13 : ir i13 := ⟨by omega, by omega⟩
  show GO mX11_loseStation K V (VS K (fun V1 => (True) ∧ (LSN K V V1 p0))) K Wi13 0 0 35 [some (.ref x), some (.ref p0), some (ti i13)] []
  refine GO.iload_n dX11_loseStation_35 rfl rfl ?_
  refine GO.iconst dX11_loseStation_36 ?_
  refine GO.icmp_ge (tgt := 68) dX11_loseStation_37 (by decide) r_i13 (ir_c rfl) (fun c207 => ?_) (fun c207 => ?_)
  ·
    refine GO.aload_n dX11_loseStation_68 rfl rfl ?_
    refine GO.aload_n dX11_loseStation_69 rfl rfl ?_
    refine GO.callV (ci := 10) (N := mX11_sendPeopleHome) dX11_loseStation_70 (RX11, TX11, 20) rfl gV_RX11_504 h_x (t_X11_sendPeopleHome h_x h_p0) rfl [] rfl rfl (Nat.le_of_ble_eq_true rfl) rfl (k_vs fun V210 h209 hF208 => ?_)
    exact GO.retv rfl rfl dX11_loseStation_73 ⟨rfl, rfl, ⟨trivial, (by first | exact (LSN.fr hls hF208 h_p0 (by decide +kernel)))⟩⟩
  ·
    refine GO.aload_n dX11_loseStation_40 rfl rfl ?_
    refine GO.iconst dX11_loseStation_41 ?_
    refine GO.aload_n dX11_loseStation_42 rfl rfl ?_
    refine GO.getNB h_p0 fl_RX11_491 rfl rfl dX11_loseStation_43 (fun hv212 => ?_) (fun n213 hv212 h211 b214 => ?_)
    ·
      refine GO.iload_n dX11_loseStation_46 rfl rfl ?_
      refine GO.callS (N := mX4_get_n) dX11_loseStation_47 gS_RX11_253 (t_X4_get_n r_i13) rfl [ti 5, .ref x] rfl rfl (Nat.le_of_ble_eq_true rfl) rfl (k_ip fun X215 r216 h217 => ?_)
      refine GO.callV (ci := 10) (N := mX11_tally) dX11_loseStation_50 (RX11, TX11, 20) rfl gV_RX11_192 h_x (t_X11_tally h_x (ir_c rfl) r216) rfl [] rfl rfl (Nat.le_of_ble_eq_true rfl) rfl (k_vs fun V220 h219 hF218 => ?_)
      refine GO.aload_n dX11_loseStation_53 rfl rfl ?_
      refine GO.getNB h_p0 fl_RX11_491 rfl rfl dX11_loseStation_54 (fun hv222 => ?_) (fun n223 hv222 h221 b224 => ?_)
      ·
        refine GO.iload_n dX11_loseStation_57 rfl rfl ?_
        refine GO.iconst dX11_loseStation_58 ?_
        refine GO.callS (N := mX4_put_n) dX11_loseStation_59 gS_RX11_108 (t_X4_put_n r_i13 (ir_c rfl)) rfl [] rfl rfl (Nat.le_of_ble_eq_true rfl) rfl (k_vs fun V227 h226 hF225 => ?_)
        refine GO.iinc (X := i13) (n := 1) (Y := i13 + 1) (ls1 := [some (.ref x), some (.ref p0), some (ti (i13 + 1))]) dX11_loseStation_62 rfl rfl rfl rfl ?_
        refine GO.goto (tgt := 35) dX11_loseStation_65 (by decide) ?_
        exact ih205 (i13 + 1) V227 ⟨by omega, by omega, (by first | exact (LSN.put (LSN.put (LSN.fr (LSN.fr (LSN.mk e1) hF3 h_p0 (by decide +kernel)) hF6 h_p0 (by decide +kernel)) e9 (Or.inl rfl)) e11 (Or.inr rfl)) | exact (LSN.fr (LSN.fr hls hF218 h_p0 (by decide +kernel)) hF225 h_p0 (by decide +kernel))), trivial⟩ (by show (2147483647 - (i13 + 1)).toNat < (2147483647 - i13).toNat; omega)
      ·
        refine GO.iload_n dX11_loseStation_57 rfl rfl ?_
        refine GO.iconst dX11_loseStation_58 ?_
        refine GO.callS (N := mX4_put) dX11_loseStation_59 gS_RX11_108 (t_X4_put h221 r_i13 (ir_c rfl)) rfl [] rfl rfl (Nat.le_of_ble_eq_true rfl) rfl (k_vs fun V230 h229 hF228 => ?_)
        have raw_put := h229.2
        have rw59 := h229.2
        refine GO.iinc (X := i13) (n := 1) (Y := i13 + 1) (ls1 := [some (.ref x), some (.ref p0), some (ti (i13 + 1))]) dX11_loseStation_62 rfl rfl rfl rfl ?_
        refine GO.goto (tgt := 35) dX11_loseStation_65 (by decide) ?_
        exact ih205 (i13 + 1) V230 ⟨by omega, by omega, (by first | exact (LSN.put (LSN.put (LSN.fr (LSN.fr (LSN.mk e1) hF3 h_p0 (by decide +kernel)) hF6 h_p0 (by decide +kernel)) e9 (Or.inl rfl)) e11 (Or.inr rfl)) | exact (LSN.fr (LSN.fr hls hF218 h_p0 (by decide +kernel)) hF228 h_p0 (by decide +kernel))), trivial⟩ (by show (2147483647 - (i13 + 1)).toNat < (2147483647 - i13).toNat; omega)
    ·
      refine GO.iload_n dX11_loseStation_46 rfl rfl ?_
      refine GO.callS (N := mX4_get) dX11_loseStation_47 gS_RX11_253 (t_X4_get rfl h211 r_i13) rfl [ti 5, .ref x] rfl rfl (Nat.le_of_ble_eq_true rfl) rfl (k_ip fun X231 r232 h233 => ?_)
      have raw_get := h233.2
      have rw47 := h233.2
      refine GO.callV (ci := 10) (N := mX11_tally) dX11_loseStation_50 (RX11, TX11, 20) rfl gV_RX11_192 h_x (t_X11_tally h_x (ir_c rfl) r232) rfl [] rfl rfl (Nat.le_of_ble_eq_true rfl) rfl (k_vs fun V236 h235 hF234 => ?_)
      refine GO.aload_n dX11_loseStation_53 rfl rfl ?_
      refine GO.getNB h_p0 fl_RX11_491 rfl rfl dX11_loseStation_54 (fun hv238 => ?_) (fun n239 hv238 h237 b240 => ?_)
      ·
        refine GO.iload_n dX11_loseStation_57 rfl rfl ?_
        refine GO.iconst dX11_loseStation_58 ?_
        refine GO.callS (N := mX4_put_n) dX11_loseStation_59 gS_RX11_108 (t_X4_put_n r_i13 (ir_c rfl)) rfl [] rfl rfl (Nat.le_of_ble_eq_true rfl) rfl (k_vs fun V243 h242 hF241 => ?_)
        refine GO.iinc (X := i13) (n := 1) (Y := i13 + 1) (ls1 := [some (.ref x), some (.ref p0), some (ti (i13 + 1))]) dX11_loseStation_62 rfl rfl rfl rfl ?_
        refine GO.goto (tgt := 35) dX11_loseStation_65 (by decide) ?_
        exact ih205 (i13 + 1) V243 ⟨by omega, by omega, (by first | exact (LSN.put (LSN.put (LSN.fr (LSN.fr (LSN.mk e1) hF3 h_p0 (by decide +kernel)) hF6 h_p0 (by decide +kernel)) e9 (Or.inl rfl)) e11 (Or.inr rfl)) | exact (LSN.fr (LSN.fr hls hF234 h_p0 (by decide +kernel)) hF241 h_p0 (by decide +kernel))), trivial⟩ (by show (2147483647 - (i13 + 1)).toNat < (2147483647 - i13).toNat; omega)
      ·
        refine GO.iload_n dX11_loseStation_57 rfl rfl ?_
        refine GO.iconst dX11_loseStation_58 ?_
        refine GO.callS (N := mX4_put) dX11_loseStation_59 gS_RX11_108 (t_X4_put h237 r_i13 (ir_c rfl)) rfl [] rfl rfl (Nat.le_of_ble_eq_true rfl) rfl (k_vs fun V246 h245 hF244 => ?_)
        have raw_put := h245.2
        have rw59 := h245.2
        refine GO.iinc (X := i13) (n := 1) (Y := i13 + 1) (ls1 := [some (.ref x), some (.ref p0), some (ti (i13 + 1))]) dX11_loseStation_62 rfl rfl rfl rfl ?_
        refine GO.goto (tgt := 35) dX11_loseStation_65 (by decide) ?_
        exact ih205 (i13 + 1) V246 ⟨by omega, by omega, (by first | exact (LSN.put (LSN.put (LSN.fr (LSN.fr (LSN.mk e1) hF3 h_p0 (by decide +kernel)) hF6 h_p0 (by decide +kernel)) e9 (Or.inl rfl)) e11 (Or.inr rfl)) | exact (LSN.fr (LSN.fr hls hF234 h_p0 (by decide +kernel)) hF244 h_p0 (by decide +kernel))), trivial⟩ (by show (2147483647 - (i13 + 1)).toNat < (2147483647 - i13).toNat; omega)

set_option maxHeartbeats 1000000 in
theorem t_X11_carry {K : Kmap} {V : Vmap} {x : Nat} {p0 : Int} {p1 : Nat} (h_x : K x = some (0, 10)) (r_p0 : ir p0) (h_p1 : K p1 = some (0, 3)) : MC mX11_carry K V [.ref x, ti p0, .ref p1] (VS K (fun V1 => (True) ∧ (CAR V V1 x p0 p1))) := by
  refine MC.start 5 (by decide +kernel) rfl rfl rfl (ls0 := [some (.ref x), some (ti p0), some (.ref p1), none, none, none, none, none]) rfl ?_
  refine GO.useWT (fun hW_0 => ?_)
  have hw3 := (hW_0.int (ld_at hW_0 h_x).1 (j := 3) (Nat.le_of_ble_eq_true rfl) rfl).2
  refine GO.aload_n dX11_carry_0 rfl rfl ?_
  refine GO.getR h_x fl_RX11_12 rfl rfl dX11_carry_1 (fun hv2 h1 => ?_)
  refine GO.getA (n := 144) h1 fl_RX11_129 rfl rfl rfl rfl dX11_carry_4 (fun hv4 h3 => ?_)
  refine GO.aload_n dX11_carry_7 rfl rfl ?_
  refine GO.getI h_p1 fl_RX11_344 rfl rfl dX11_carry_8 (fun _ _ => ?_)
  refine GO.callS (N := mX4_get) dX11_carry_11 gS_RX11_253 (t_X4_get rfl h3 vi_ir) rfl [] rfl rfl (Nat.le_of_ble_eq_true rfl) rfl (k_ip fun X5 r6 h7 => ?_)
  have raw_get := h7.2
  have rw11 := h7.2
  refine GO.istore_n (ls1 := [some (.ref x), some (ti p0), some (.ref p1), some (ti X5), none, none, none, none]) dX11_carry_14 rfl rfl rfl ?_
  refine GO.aload_n dX11_carry_15 rfl rfl ?_
  refine GO.getRaw h_x fl_RX11_12 hv2 dX11_carry_16 ?_
  refine GO.aload_n dX11_carry_19 rfl rfl ?_
  refine GO.getI h_p1 fl_RX11_344 rfl rfl dX11_carry_20 (fun _ _ => ?_)
  refine GO.iload_n dX11_carry_23 rfl rfl ?_
  refine GO.callV (ci := 0) (N := mX0_beside) dX11_carry_24 (RX0, TX0, 13) rfl gV_RX11_508 h1 (t_X0_beside h1 vi_ir r6) rfl [] rfl rfl (Nat.le_of_ble_eq_true rfl) rfl (k_ip fun X10 r11 h12 => ?_)
  have raw_beside := h12.2
  have rw24 := h12.2
  refine GO.istore (ls1 := [some (.ref x), some (ti p0), some (.ref p1), some (ti X5), some (ti X10), none, none, none]) dX11_carry_27 rfl rfl ?_
  refine GO.aload_n dX11_carry_29 rfl rfl ?_
  refine GO.getRaw h_x fl_RX11_12 hv2 dX11_carry_30 ?_
  refine GO.iload dX11_carry_33 rfl ?_
  refine GO.callV (ci := 0) (N := mX0_isFirm) dX11_carry_35 (RX0, TX0, 13) rfl gV_RX11_179 h1 (t_X0_isFirm h1 r11) rfl [] rfl rfl (Nat.le_of_ble_eq_true rfl) rfl (k_ip fun X15 r16 h17 => ?_)
  have raw_isFirm := h17.2.2.2
  have rw35 := h17.2.2.2
  refine GO.if_ne (tgt := 45) dX11_carry_38 (by decide) r16 (fun c18 => ?_) (fun c18 => ?_)
  ·
    refine GO.iconst dX11_carry_45 ?_
    refine GO.istore (ls1 := [some (.ref x), some (ti p0), some (.ref p1), some (ti X5), some (ti X10), some (ti 0), none, none]) dX11_carry_46 rfl rfl ?_
    refine GO.iconst dX11_carry_48 ?_
    refine GO.istore (ls1 := [some (.ref x), some (ti p0), some (.ref p1), some (ti X5), some (ti X10), some (ti 0), some (ti 0), none]) dX11_carry_49 rfl rfl ?_
    refine GO.loop1 (fun i19 W => 0 ≤ i19 ∧ i19 ≤ 60 ∧ (CRI V W x p0 X5 X10 0 i19) ∧ True) (fun i19 => [some (.ref x), some (ti p0), some (.ref p1), some (ti X5), some (ti X10), some (ti 0), some (ti i19), none]) (fun i19 W => (2147483647 - i19).toNat) 0 ⟨by omega, by omega, (by first | exact CRI.beg), trivial⟩ rfl (fun i19 Wi19 hp300 ih299 => ?_)
    obtain ⟨l_i19, u_i19, hcr, -⟩ := hp300
    have r_i19 : ir i19 := ⟨by omega, by omega⟩
    show GO mX11_carry K V (VS K (fun V1 => (True) ∧ (CAR V V1 x p0 p1))) K Wi19 0 0 51 [some (.ref x), some (ti p0), some (.ref p1), some (ti X5), some (ti X10), some (ti 0), some (ti i19), none] []
    refine GO.useFR (fun hFs => ?_)
    have hps : PLI V x → PLS V Wi19 x := fun h => PLS.fr hFs ext.rf hW_0 h_x h.1 (by decide +kernel)
    have hld : LDS V Wi19 x := LDS.fr hFs ext.rf hW_0 h_x (by decide +kernel)
    have hn6 : vi Wi19 x 6 = vi V x 6 := vi_fr hFs h_x h_x (by decide +kernel)
    refine GO.useWT (fun hWh => ?_)
    refine GO.iload dX11_carry_51 rfl ?_
    refine GO.aload_n dX11_carry_53 rfl rfl ?_
    refine GO.getI h_x fl_RX11_46 rfl rfl dX11_carry_54 (fun l301 u302 => ?_)
    refine GO.icmp_ge (tgt := 116) dX11_carry_57 (by decide) r_i19 vi_ir (fun c303 => ?_) (fun c303 => ?_)
    ·
      refine GO.iload dX11_carry_116 rfl ?_
      refine GO.iconst dX11_carry_118 ?_
      refine GO.icmp_eq (tgt := 139) dX11_carry_119 (by decide) r11 (ir_c rfl) (fun c304 => ?_) (fun c304 => ?_)
      ·
        refine GO.iload dX11_carry_139 rfl ?_
        refine GO.if_eq (tgt := 149) dX11_carry_141 (by decide) (ir_c rfl) (fun c305 => ?_) (fun h => by exfalso; omega)
        refine GO.useFR (fun hFs => ?_)
        have hpe : PLI V x → PLS V Wi19 x := fun h => PLS.fr hFs ext.rf hW_0 h_x h.1 (by decide +kernel)
        exact GO.retv rfl rfl dX11_carry_149 ⟨rfl, rfl, ⟨trivial, (by first | exact absurd (rw35.mp (by omega)).1.1 (by omega))⟩⟩
      ·
        refine GO.aload_n dX11_carry_122 rfl rfl ?_
        refine GO.iload dX11_carry_123 rfl ?_
        refine GO.putI h_p1 fp_RX11_344 rfl (by decide +kernel) r11 (r11).1 (r11).2 dX11_carry_125 (fun V307 e306 => ?_)
        refine GO.aload_n dX11_carry_128 rfl rfl ?_
        refine GO.aload_n dX11_carry_129 rfl rfl ?_
        refine GO.getR h_x fl_RX11_12 rfl rfl dX11_carry_130 (fun hv309 h308 => ?_)
        refine GO.getI h308 fl_RX11_145 rfl rfl dX11_carry_133 (fun l310 u311 => ?_)
        have htd := car_today hFs hW_0 h_x (by decide +kernel) e306 (by assumption)
        refine GO.putI h_p1 fp_RX11_189 rfl (by decide +kernel) vi_ir (by omega) (by omega) dX11_carry_136 (fun V313 e312 => ?_)
        refine GO.iload dX11_carry_139 rfl ?_
        refine GO.if_eq (tgt := 149) dX11_carry_141 (by decide) (ir_c rfl) (fun c314 => ?_) (fun h => by exfalso; omega)
        refine GO.useFR (fun hFs => ?_)
        have hpe : PLI V x → PLS V V313 x := fun h => PLS.fr hFs ext.rf hW_0 h_x h.1 (by decide +kernel)
        exact GO.retv rfl rfl dX11_carry_149 ⟨rfl, rfl, ⟨trivial, (by first | exact absurd (rw35.mp (by omega)).1.1 (by omega) | exact CAR.mk hcr (by omega) hpe (by omega) rw24 rw11 rw35 (by omega) (CAR.h3 e306 (by assumption) e312 htd vi_ir (by omega) (by omega)))⟩⟩
    ·
      refine GO.aload_n dX11_carry_60 rfl rfl ?_
      refine GO.iload dX11_carry_61 rfl ?_
      refine GO.iconst dX11_carry_63 ?_
      refine GO.callV (ci := 10) (N := mX11_placeOf) dX11_carry_64 (RX11, TX11, 20) rfl gV_RX11_169 h_x (t_X11_placeOf h_x r_i19 (ir_c rfl)) rfl [] rfl rfl (Nat.le_of_ble_eq_true rfl) rfl (k_rp (fun h317 => ?_) (fun o315 h316 h317 => ?_))
      ·
        have rwn64 := h317.2
        have hn318 : NN 6 5 Wi19 x → ¬ PK Wi19 x i19 2 := h317.2
        refine GO.astoreN (ls1 := [some (.ref x), some (ti p0), some (.ref p1), some (ti X5), some (ti X10), some (ti 0), some (ti i19), some (.null)]) dX11_carry_67 rfl rfl ?_
        refine GO.aloadN dX11_carry_69 rfl ?_
        refine GO.ifnullN (tgt := 110) dX11_carry_71 (by decide) ?_
        refine GO.iinc (X := i19) (n := 1) (Y := i19 + 1) (ls1 := [some (.ref x), some (ti p0), some (.ref p1), some (ti X5), some (ti X10), some (ti 0), some (ti (i19 + 1)), some (.null)]) dX11_carry_110 rfl rfl rfl rfl ?_
        refine GO.goto (tgt := 51) dX11_carry_113 (by decide) ?_
        refine GO.drop [true, true, true, true, true, true, true, false] rfl ?_
        exact ih299 (i19 + 1) Wi19 ⟨by omega, by omega, (by first | exact CRI.beg | exact CRI.nul hcr (by omega) hps rwn64 (by omega)), trivial⟩ (by show (2147483647 - (i19 + 1)).toNat < (2147483647 - i19).toNat; omega)
      ·
        have hp319 : i19 ≥ 0 ∧ i19 < vi Wi19 x 6 := h317.1
        have rwp64 := h317.2
        have hq320 : o315 = plO Wi19 x (i19).toNat ∧ PK Wi19 x i19 2 := h317.2
        refine GO.astore (ls1 := [some (.ref x), some (ti p0), some (.ref p1), some (ti X5), some (ti X10), some (ti 0), some (ti i19), some (.ref o315)]) dX11_carry_67 rfl rfl ?_
        refine GO.aload dX11_carry_69 rfl ?_
        refine GO.ifnull dX11_carry_71 ?_
        refine GO.aload dX11_carry_74 rfl ?_
        refine GO.getI h316 fl_RX11_176 rfl rfl dX11_carry_76 (fun _ _ => ?_)
        refine GO.iload_n dX11_carry_79 rfl rfl ?_
        refine GO.icmp_ne (tgt := 110) dX11_carry_80 (by decide) vi_ir r_p0 (fun c321 => ?_) (fun c321 => ?_)
        ·
          refine GO.iinc (X := i19) (n := 1) (Y := i19 + 1) (ls1 := [some (.ref x), some (ti p0), some (.ref p1), some (ti X5), some (ti X10), some (ti 0), some (ti (i19 + 1)), some (.ref o315)]) dX11_carry_110 rfl rfl rfl rfl ?_
          refine GO.goto (tgt := 51) dX11_carry_113 (by decide) ?_
          refine GO.drop [true, true, true, true, true, true, true, false] rfl ?_
          exact ih299 (i19 + 1) Wi19 ⟨by omega, by omega, (by first | exact CRI.beg | exact CRI.nr hcr (by omega) hps rwp64 (by omega) (by omega) | exact CRI.nl hcr (by omega) hps rwp64 (by omega) (by omega)), trivial⟩ (by show (2147483647 - (i19 + 1)).toNat < (2147483647 - i19).toNat; omega)
        ·
          refine GO.aload dX11_carry_83 rfl ?_
          refine GO.getI h316 fl_RX11_511 rfl rfl dX11_carry_85 (fun l322 u323 => ?_)
          refine GO.if_ne (tgt := 110) dX11_carry_88 (by decide) vi_ir (fun c324 => ?_) (fun c324 => ?_)
          ·
            refine GO.iinc (X := i19) (n := 1) (Y := i19 + 1) (ls1 := [some (.ref x), some (ti p0), some (.ref p1), some (ti X5), some (ti X10), some (ti 0), some (ti (i19 + 1)), some (.ref o315)]) dX11_carry_110 rfl rfl rfl rfl ?_
            refine GO.goto (tgt := 51) dX11_carry_113 (by decide) ?_
            refine GO.drop [true, true, true, true, true, true, true, false] rfl ?_
            exact ih299 (i19 + 1) Wi19 ⟨by omega, by omega, (by first | exact CRI.beg | exact CRI.nr hcr (by omega) hps rwp64 (by omega) (by omega) | exact CRI.nl hcr (by omega) hps rwp64 (by omega) (by omega)), trivial⟩ (by show (2147483647 - (i19 + 1)).toNat < (2147483647 - i19).toNat; omega)
          ·
            refine GO.aload_n dX11_carry_91 rfl rfl ?_
            refine GO.aload dX11_carry_92 rfl ?_
            refine GO.iload dX11_carry_94 rfl ?_
            refine GO.iconst dX11_carry_96 ?_
            refine GO.icmp_ne (tgt := 104) dX11_carry_97 (by decide) r11 (ir_c rfl) (fun c325 => ?_) (fun c325 => ?_)
            ·
              refine GO.iload_n dX11_carry_104 rfl rfl ?_
              refine GO.iload dX11_carry_105 rfl ?_
              refine GO.callV (ci := 10) (N := mX11_carryField) dX11_carry_107 (RX11, TX11, 20) rfl gV_RX11_515 h_x (t_X11_carryField h_x h316 r6 (ir_c rfl) (by omega)) rfl [] rfl rfl (Nat.le_of_ble_eq_true rfl) rfl (k_vs fun V328 h327 hF326 => ?_)
              have raw_carryField := h327.2
              have rw107 := h327.2
              refine GO.iinc (X := i19) (n := 1) (Y := i19 + 1) (ls1 := [some (.ref x), some (ti p0), some (.ref p1), some (ti X5), some (ti X10), some (ti 0), some (ti (i19 + 1)), some (.ref o315)]) dX11_carry_110 rfl rfl rfl rfl ?_
              refine GO.goto (tgt := 51) dX11_carry_113 (by decide) ?_
              refine GO.drop [true, true, true, true, true, true, true, false] rfl ?_
              exact ih299 (i19 + 1) V328 ⟨by omega, by omega, (by first | exact CRI.beg | exact CRI.nr hcr (by omega) hps rwp64 (by omega) (by omega) | exact CRI.nl hcr (by omega) hps rwp64 (by omega) (by omega) | exact CRI.hit hcr (by omega) hps hld (by omega) rwp64 (by omega) (by omega) (by omega) rw11 rw107 (by omega)), trivial⟩ (by show (2147483647 - (i19 + 1)).toNat < (2147483647 - i19).toNat; omega)
            ·
              refine GO.iconst dX11_carry_100 ?_
              refine GO.goto (tgt := 105) dX11_carry_101 (by decide) ?_
              refine GO.iload dX11_carry_105 rfl ?_
              refine GO.callV (ci := 10) (N := mX11_carryField) dX11_carry_107 (RX11, TX11, 20) rfl gV_RX11_515 h_x (t_X11_carryField h_x h316 (ir_c rfl) (ir_c rfl) (by omega)) rfl [] rfl rfl (Nat.le_of_ble_eq_true rfl) rfl (k_vs fun V331 h330 hF329 => ?_)
              have raw_carryField := h330.2
              have rw107 := h330.2
              refine GO.iinc (X := i19) (n := 1) (Y := i19 + 1) (ls1 := [some (.ref x), some (ti p0), some (.ref p1), some (ti X5), some (ti X10), some (ti 0), some (ti (i19 + 1)), some (.ref o315)]) dX11_carry_110 rfl rfl rfl rfl ?_
              refine GO.goto (tgt := 51) dX11_carry_113 (by decide) ?_
              refine GO.drop [true, true, true, true, true, true, true, false] rfl ?_
              exact ih299 (i19 + 1) V331 ⟨by omega, by omega, (by first | exact CRI.beg | exact CRI.nr hcr (by omega) hps rwp64 (by omega) (by omega) | exact CRI.nl hcr (by omega) hps rwp64 (by omega) (by omega) | exact CRI.hit hcr (by omega) hps hld (by omega) rwp64 (by omega) (by omega) (by omega) rw11 rw107 (by omega)), trivial⟩ (by show (2147483647 - (i19 + 1)).toNat < (2147483647 - i19).toNat; omega)
  ·
    refine GO.iconst dX11_carry_41 ?_
    refine GO.goto (tgt := 46) dX11_carry_42 (by decide) ?_
    refine GO.istore (ls1 := [some (.ref x), some (ti p0), some (.ref p1), some (ti X5), some (ti X10), some (ti 1), none, none]) dX11_carry_46 rfl rfl ?_
    refine GO.iconst dX11_carry_48 ?_
    refine GO.istore (ls1 := [some (.ref x), some (ti p0), some (.ref p1), some (ti X5), some (ti X10), some (ti 1), some (ti 0), none]) dX11_carry_49 rfl rfl ?_
    refine GO.loop1 (fun i332 W => 0 ≤ i332 ∧ i332 ≤ 60 ∧ (CRI V W x p0 X5 X10 1 i332) ∧ True) (fun i332 => [some (.ref x), some (ti p0), some (.ref p1), some (ti X5), some (ti X10), some (ti 1), some (ti i332), none]) (fun i332 W => (2147483647 - i332).toNat) 0 ⟨by omega, by omega, (by first | exact CRI.beg), trivial⟩ rfl (fun i332 Wi332 hp667 ih666 => ?_)
    obtain ⟨l_i332, u_i332, hcr, -⟩ := hp667
    have r_i332 : ir i332 := ⟨by omega, by omega⟩
    show GO mX11_carry K V (VS K (fun V1 => (True) ∧ (CAR V V1 x p0 p1))) K Wi332 0 0 51 [some (.ref x), some (ti p0), some (.ref p1), some (ti X5), some (ti X10), some (ti 1), some (ti i332), none] []
    refine GO.useFR (fun hFs => ?_)
    have hps : PLI V x → PLS V Wi332 x := fun h => PLS.fr hFs ext.rf hW_0 h_x h.1 (by decide +kernel)
    have hld : LDS V Wi332 x := LDS.fr hFs ext.rf hW_0 h_x (by decide +kernel)
    have hn6 : vi Wi332 x 6 = vi V x 6 := vi_fr hFs h_x h_x (by decide +kernel)
    refine GO.useWT (fun hWh => ?_)
    refine GO.iload dX11_carry_51 rfl ?_
    refine GO.aload_n dX11_carry_53 rfl rfl ?_
    refine GO.getI h_x fl_RX11_46 rfl rfl dX11_carry_54 (fun l668 u669 => ?_)
    refine GO.icmp_ge (tgt := 116) dX11_carry_57 (by decide) r_i332 vi_ir (fun c670 => ?_) (fun c670 => ?_)
    ·
      refine GO.iload dX11_carry_116 rfl ?_
      refine GO.iconst dX11_carry_118 ?_
      refine GO.icmp_eq (tgt := 139) dX11_carry_119 (by decide) r11 (ir_c rfl) (fun c671 => ?_) (fun c671 => ?_)
      ·
        refine GO.iload dX11_carry_139 rfl ?_
        refine GO.if_eq (tgt := 149) dX11_carry_141 (by decide) (ir_c rfl) (fun h => by exfalso; omega) (fun c672 => ?_)
        refine GO.aload_n dX11_carry_144 rfl rfl ?_
        refine GO.aload_n dX11_carry_145 rfl rfl ?_
        refine GO.callV (ci := 10) (N := mX11_loseStation) dX11_carry_146 (RX11, TX11, 20) rfl gV_RX11_519 h_x (t_X11_loseStation h_x h_p1) rfl [] rfl rfl (Nat.le_of_ble_eq_true rfl) rfl (k_vs fun V675 h674 hF673 => ?_)
        have raw_loseStation := h674.2
        have rw146 := h674.2
        refine GO.useFR (fun hFs => ?_)
        have hpe : PLI V x → PLS V V675 x := fun h => PLS.fr hFs ext.rf hW_0 h_x h.1 (by decide +kernel)
        exact GO.retv rfl rfl dX11_carry_149 ⟨rfl, rfl, ⟨trivial, (by first | exact absurd (rw35.mp (by omega)).1.1 (by omega) | exact CAR.mk hcr (by omega) hpe (by omega) rw24 rw11 rw35 (by omega) (CAR.h1 hW_0 h_x rw146 (by omega) (by omega)))⟩⟩
      ·
        refine GO.aload_n dX11_carry_122 rfl rfl ?_
        refine GO.iload dX11_carry_123 rfl ?_
        refine GO.putI h_p1 fp_RX11_344 rfl (by decide +kernel) r11 (r11).1 (r11).2 dX11_carry_125 (fun V677 e676 => ?_)
        refine GO.aload_n dX11_carry_128 rfl rfl ?_
        refine GO.aload_n dX11_carry_129 rfl rfl ?_
        refine GO.getR h_x fl_RX11_12 rfl rfl dX11_carry_130 (fun hv679 h678 => ?_)
        refine GO.getI h678 fl_RX11_145 rfl rfl dX11_carry_133 (fun l680 u681 => ?_)
        have htd := car_today hFs hW_0 h_x (by decide +kernel) e676 (by assumption)
        refine GO.putI h_p1 fp_RX11_189 rfl (by decide +kernel) vi_ir (by omega) (by omega) dX11_carry_136 (fun V683 e682 => ?_)
        refine GO.iload dX11_carry_139 rfl ?_
        refine GO.if_eq (tgt := 149) dX11_carry_141 (by decide) (ir_c rfl) (fun h => by exfalso; omega) (fun c684 => ?_)
        refine GO.aload_n dX11_carry_144 rfl rfl ?_
        refine GO.aload_n dX11_carry_145 rfl rfl ?_
        refine GO.callV (ci := 10) (N := mX11_loseStation) dX11_carry_146 (RX11, TX11, 20) rfl gV_RX11_519 h_x (t_X11_loseStation h_x h_p1) rfl [] rfl rfl (Nat.le_of_ble_eq_true rfl) rfl (k_vs fun V687 h686 hF685 => ?_)
        have raw_loseStation := h686.2
        have rw146 := h686.2
        refine GO.useFR (fun hFs => ?_)
        have hpe : PLI V x → PLS V V687 x := fun h => PLS.fr hFs ext.rf hW_0 h_x h.1 (by decide +kernel)
        exact GO.retv rfl rfl dX11_carry_149 ⟨rfl, rfl, ⟨trivial, (by first | exact absurd (rw35.mp (by omega)).1.1 (by omega) | exact CAR.mk hcr (by omega) hpe (by omega) rw24 rw11 rw35 (by omega) (CAR.h1 hW_0 h_x rw146 (by omega) (by omega)) | exact CAR.mk hcr (by omega) hpe (by omega) rw24 rw11 rw35 (by omega) (CAR.h3 e676 (by assumption) e682 htd vi_ir (by omega) (by omega)) | exact CAR.mk hcr (by omega) hpe (by omega) rw24 rw11 rw35 (by omega) (CAR.h2 hW_0 h_x e676 (by assumption) e682 htd vi_ir rw146 (by omega) (by omega)))⟩⟩
    ·
      refine GO.aload_n dX11_carry_60 rfl rfl ?_
      refine GO.iload dX11_carry_61 rfl ?_
      refine GO.iconst dX11_carry_63 ?_
      refine GO.callV (ci := 10) (N := mX11_placeOf) dX11_carry_64 (RX11, TX11, 20) rfl gV_RX11_169 h_x (t_X11_placeOf h_x r_i332 (ir_c rfl)) rfl [] rfl rfl (Nat.le_of_ble_eq_true rfl) rfl (k_rp (fun h690 => ?_) (fun o688 h689 h690 => ?_))
      ·
        have rwn64 := h690.2
        have hn691 : NN 6 5 Wi332 x → ¬ PK Wi332 x i332 2 := h690.2
        refine GO.astoreN (ls1 := [some (.ref x), some (ti p0), some (.ref p1), some (ti X5), some (ti X10), some (ti 1), some (ti i332), some (.null)]) dX11_carry_67 rfl rfl ?_
        refine GO.aloadN dX11_carry_69 rfl ?_
        refine GO.ifnullN (tgt := 110) dX11_carry_71 (by decide) ?_
        refine GO.iinc (X := i332) (n := 1) (Y := i332 + 1) (ls1 := [some (.ref x), some (ti p0), some (.ref p1), some (ti X5), some (ti X10), some (ti 1), some (ti (i332 + 1)), some (.null)]) dX11_carry_110 rfl rfl rfl rfl ?_
        refine GO.goto (tgt := 51) dX11_carry_113 (by decide) ?_
        refine GO.drop [true, true, true, true, true, true, true, false] rfl ?_
        exact ih666 (i332 + 1) Wi332 ⟨by omega, by omega, (by first | exact CRI.beg | exact CRI.nul hcr (by omega) hps rwn64 (by omega)), trivial⟩ (by show (2147483647 - (i332 + 1)).toNat < (2147483647 - i332).toNat; omega)
      ·
        have hp692 : i332 ≥ 0 ∧ i332 < vi Wi332 x 6 := h690.1
        have rwp64 := h690.2
        have hq693 : o688 = plO Wi332 x (i332).toNat ∧ PK Wi332 x i332 2 := h690.2
        refine GO.astore (ls1 := [some (.ref x), some (ti p0), some (.ref p1), some (ti X5), some (ti X10), some (ti 1), some (ti i332), some (.ref o688)]) dX11_carry_67 rfl rfl ?_
        refine GO.aload dX11_carry_69 rfl ?_
        refine GO.ifnull dX11_carry_71 ?_
        refine GO.aload dX11_carry_74 rfl ?_
        refine GO.getI h689 fl_RX11_176 rfl rfl dX11_carry_76 (fun _ _ => ?_)
        refine GO.iload_n dX11_carry_79 rfl rfl ?_
        refine GO.icmp_ne (tgt := 110) dX11_carry_80 (by decide) vi_ir r_p0 (fun c694 => ?_) (fun c694 => ?_)
        ·
          refine GO.iinc (X := i332) (n := 1) (Y := i332 + 1) (ls1 := [some (.ref x), some (ti p0), some (.ref p1), some (ti X5), some (ti X10), some (ti 1), some (ti (i332 + 1)), some (.ref o688)]) dX11_carry_110 rfl rfl rfl rfl ?_
          refine GO.goto (tgt := 51) dX11_carry_113 (by decide) ?_
          refine GO.drop [true, true, true, true, true, true, true, false] rfl ?_
          exact ih666 (i332 + 1) Wi332 ⟨by omega, by omega, (by first | exact CRI.beg | exact CRI.nr hcr (by omega) hps rwp64 (by omega) (by omega) | exact CRI.nl hcr (by omega) hps rwp64 (by omega) (by omega)), trivial⟩ (by show (2147483647 - (i332 + 1)).toNat < (2147483647 - i332).toNat; omega)
        ·
          refine GO.aload dX11_carry_83 rfl ?_
          refine GO.getI h689 fl_RX11_511 rfl rfl dX11_carry_85 (fun l695 u696 => ?_)
          refine GO.if_ne (tgt := 110) dX11_carry_88 (by decide) vi_ir (fun c697 => ?_) (fun c697 => ?_)
          ·
            refine GO.iinc (X := i332) (n := 1) (Y := i332 + 1) (ls1 := [some (.ref x), some (ti p0), some (.ref p1), some (ti X5), some (ti X10), some (ti 1), some (ti (i332 + 1)), some (.ref o688)]) dX11_carry_110 rfl rfl rfl rfl ?_
            refine GO.goto (tgt := 51) dX11_carry_113 (by decide) ?_
            refine GO.drop [true, true, true, true, true, true, true, false] rfl ?_
            exact ih666 (i332 + 1) Wi332 ⟨by omega, by omega, (by first | exact CRI.beg | exact CRI.nr hcr (by omega) hps rwp64 (by omega) (by omega) | exact CRI.nl hcr (by omega) hps rwp64 (by omega) (by omega)), trivial⟩ (by show (2147483647 - (i332 + 1)).toNat < (2147483647 - i332).toNat; omega)
          ·
            refine GO.aload_n dX11_carry_91 rfl rfl ?_
            refine GO.aload dX11_carry_92 rfl ?_
            refine GO.iload dX11_carry_94 rfl ?_
            refine GO.iconst dX11_carry_96 ?_
            refine GO.icmp_ne (tgt := 104) dX11_carry_97 (by decide) r11 (ir_c rfl) (fun c698 => ?_) (fun c698 => ?_)
            ·
              refine GO.iload_n dX11_carry_104 rfl rfl ?_
              refine GO.iload dX11_carry_105 rfl ?_
              refine GO.callV (ci := 10) (N := mX11_carryField) dX11_carry_107 (RX11, TX11, 20) rfl gV_RX11_515 h_x (t_X11_carryField h_x h689 r6 (ir_c rfl) (by omega)) rfl [] rfl rfl (Nat.le_of_ble_eq_true rfl) rfl (k_vs fun V701 h700 hF699 => ?_)
              have raw_carryField := h700.2
              have rw107 := h700.2
              refine GO.iinc (X := i332) (n := 1) (Y := i332 + 1) (ls1 := [some (.ref x), some (ti p0), some (.ref p1), some (ti X5), some (ti X10), some (ti 1), some (ti (i332 + 1)), some (.ref o688)]) dX11_carry_110 rfl rfl rfl rfl ?_
              refine GO.goto (tgt := 51) dX11_carry_113 (by decide) ?_
              refine GO.drop [true, true, true, true, true, true, true, false] rfl ?_
              exact ih666 (i332 + 1) V701 ⟨by omega, by omega, (by first | exact CRI.beg | exact CRI.nr hcr (by omega) hps rwp64 (by omega) (by omega) | exact CRI.nl hcr (by omega) hps rwp64 (by omega) (by omega) | exact CRI.hit hcr (by omega) hps hld (by omega) rwp64 (by omega) (by omega) (by omega) rw11 rw107 (by omega)), trivial⟩ (by show (2147483647 - (i332 + 1)).toNat < (2147483647 - i332).toNat; omega)
            ·
              refine GO.iconst dX11_carry_100 ?_
              refine GO.goto (tgt := 105) dX11_carry_101 (by decide) ?_
              refine GO.iload dX11_carry_105 rfl ?_
              refine GO.callV (ci := 10) (N := mX11_carryField) dX11_carry_107 (RX11, TX11, 20) rfl gV_RX11_515 h_x (t_X11_carryField h_x h689 (ir_c rfl) (ir_c rfl) (by omega)) rfl [] rfl rfl (Nat.le_of_ble_eq_true rfl) rfl (k_vs fun V704 h703 hF702 => ?_)
              have raw_carryField := h703.2
              have rw107 := h703.2
              refine GO.iinc (X := i332) (n := 1) (Y := i332 + 1) (ls1 := [some (.ref x), some (ti p0), some (.ref p1), some (ti X5), some (ti X10), some (ti 1), some (ti (i332 + 1)), some (.ref o688)]) dX11_carry_110 rfl rfl rfl rfl ?_
              refine GO.goto (tgt := 51) dX11_carry_113 (by decide) ?_
              refine GO.drop [true, true, true, true, true, true, true, false] rfl ?_
              exact ih666 (i332 + 1) V704 ⟨by omega, by omega, (by first | exact CRI.beg | exact CRI.nr hcr (by omega) hps rwp64 (by omega) (by omega) | exact CRI.nl hcr (by omega) hps rwp64 (by omega) (by omega) | exact CRI.hit hcr (by omega) hps hld (by omega) rwp64 (by omega) (by omega) (by omega) rw11 rw107 (by omega)), trivial⟩ (by show (2147483647 - (i332 + 1)).toNat < (2147483647 - i332).toNat; omega)

set_option maxHeartbeats 1000000 in
theorem t_X11_passStation {K : Kmap} {V : Vmap} {x : Nat} {p0 : Int} (h_x : K x = some (0, 10)) (r_p0 : ir p0) : MC mX11_passStation K V [.ref x, ti p0] (VS K (fun V1 => (True) ∧ (PSC V V1 x p0))) := by
  refine MC.start 3 (by decide +kernel) rfl rfl rfl (ls0 := [some (.ref x), some (ti p0), none, none, none]) rfl ?_
  refine GO.useWT (fun hW_0 => ?_)
  refine GO.aload_n dX11_passStation_0 rfl rfl ?_
  refine GO.iload_n dX11_passStation_1 rfl rfl ?_
  refine GO.callV (ci := 10) (N := mX11_standingStation) dX11_passStation_2 (RX11, TX11, 20) rfl gV_RX11_195 h_x (t_X11_standingStation h_x r_p0) rfl [] rfl rfl (Nat.le_of_ble_eq_true rfl) rfl (k_rp (fun h3 => ?_) (fun o1 h2 h3 => ?_))
  ·
    have rwn2 := h3.2
    have hn4 : NN 6 5 V x → ¬ STN V x p0 := h3.2
    refine GO.astore_nN (ls1 := [some (.ref x), some (ti p0), some (.null), none, none]) dX11_passStation_5 rfl rfl rfl ?_
    refine GO.aload_nN dX11_passStation_6 rfl rfl ?_
    refine GO.ifnonnullN dX11_passStation_7 ?_
    exact GO.retv rfl rfl dX11_passStation_10 ⟨rfl, rfl, ⟨trivial, (by first | exact PSC.no rwn2)⟩⟩
  ·
    have hp5 : p0 ≥ 0 ∧ p0 < vi V x 6 := h3.1
    have rwp2 := h3.2
    have hq6 : o1 = plO V x (p0).toNat ∧ STN V x p0 := h3.2
    refine GO.astore_n (ls1 := [some (.ref x), some (ti p0), some (.ref o1), none, none]) dX11_passStation_5 rfl rfl rfl ?_
    refine GO.aload_n dX11_passStation_6 rfl rfl ?_
    refine GO.ifnonnull (tgt := 11) dX11_passStation_7 (by decide) ?_
    refine GO.aload_n dX11_passStation_11 rfl rfl ?_
    refine GO.getR h_x fl_RX11_12 rfl rfl dX11_passStation_12 (fun hv8 h7 => ?_)
    refine GO.aload_n dX11_passStation_15 rfl rfl ?_
    refine GO.getRaw h_x fl_RX11_12 hv8 dX11_passStation_16 ?_
    refine GO.getI h7 fl_RX11_145 rfl rfl dX11_passStation_19 (fun l11 u12 => ?_)
    refine GO.callV (ci := 0) (N := mX0_isDark) dX11_passStation_22 (RX0, TX0, 13) rfl gV_RX11_381 h7 (t_X0_isDark h7 vi_ir) rfl [] rfl rfl (Nat.le_of_ble_eq_true rfl) rfl (k_ip fun X13 r14 h15 => ?_)
    refine GO.istore_n (ls1 := [some (.ref x), some (ti p0), some (.ref o1), some (ti X13), none]) dX11_passStation_25 rfl rfl rfl ?_
    refine GO.aload_n dX11_passStation_26 rfl rfl ?_
    refine GO.aload_n dX11_passStation_27 rfl rfl ?_
    refine GO.aload_n dX11_passStation_28 rfl rfl ?_
    refine GO.getI h2 fl_RX11_183 rfl rfl dX11_passStation_29 (fun _ _ => ?_)
    refine GO.bipush dX11_passStation_32 rfl ?_
    refine GO.iadd dX11_passStation_34 ?_
    refine GO.norm (fun z16 r17 hn18 => ?_)
    refine GO.bipush dX11_passStation_35 rfl ?_
    refine GO.idiv dX11_passStation_37 (ir_c rfl) (by omega) ?_
    refine GO.iload_n dX11_passStation_38 rfl rfl ?_
    refine GO.if_eq (tgt := 46) dX11_passStation_39 (by decide) r14 (fun c19 => ?_) (fun c19 => ?_)
    ·
      refine GO.iconst dX11_passStation_46 ?_
      refine GO.imul dX11_passStation_47 ?_
      have q20 : -2147483648 ≤ wdiv z16 10 ∧ wdiv z16 10 ≤ 2147483647 := wdiv_ir
      refine GO.callV (ci := 10) (N := mX11_burn) dX11_passStation_48 (RX11, TX11, 20) rfl gV_RX11_487 h_x (t_X11_burn h_x h2 ⟨by omega, by omega⟩) rfl [] rfl rfl (Nat.le_of_ble_eq_true rfl) rfl (k_vs fun V23 h22 hF21 => ?_)
      refine GO.useWT (fun hWa => ?_)
      have sm1 := SMC.fr hF21 ext.rf hW_0 h_x (by decide +kernel) (by decide +kernel) (by decide +kernel)
      have ty1 := tdy_fr hF21 ext.rf hW_0 h_x (by decide +kernel) (by decide +kernel)
      refine GO.aload_n dX11_passStation_51 rfl rfl ?_
      refine GO.getI h2 fl_RX11_183 rfl rfl dX11_passStation_52 (fun _ _ => ?_)
      refine GO.bipush dX11_passStation_55 rfl ?_
      refine GO.iadd dX11_passStation_57 ?_
      refine GO.norm (fun z24 r25 hn26 => ?_)
      refine GO.bipush dX11_passStation_58 rfl ?_
      refine GO.idiv dX11_passStation_60 (ir_c rfl) (by omega) ?_
      refine GO.name (fun z27 hz28 => ?_)
      have r29 : ir z27 := hz28 ▸ wdiv_ir
      refine GO.istore (ls1 := [some (.ref x), some (ti p0), some (.ref o1), some (ti X13), some (ti z27)]) dX11_passStation_61 rfl rfl ?_
      refine GO.aload_n dX11_passStation_63 rfl rfl ?_
      refine GO.getNB h2 fl_RX11_491 rfl rfl dX11_passStation_64 (fun hv31 => ?_) (fun n32 hv31 h30 b33 => ?_)
      ·
        refine GO.iload_n dX11_passStation_67 rfl rfl ?_
        refine GO.if_eq (tgt := 75) dX11_passStation_68 (by decide) r14 (fun c34 => ?_) (fun h => by exfalso; omega)
        refine GO.iconst dX11_passStation_75 ?_
        refine GO.iload dX11_passStation_76 rfl ?_
        refine GO.callS (N := mX4_add_n) dX11_passStation_78 gS_RX11_476 (t_X4_add_n (ir_c rfl) r29) rfl [] rfl rfl (Nat.le_of_ble_eq_true rfl) rfl (k_vs fun V37 h36 hF35 => ?_)
        refine GO.useWT (fun hWb => ?_)
        have sm2 := sm1.tr (SMC.fr hF35 ext.rf hWa h_x (by decide +kernel) (by decide +kernel) (by decide +kernel))
        have ty2 := (tdy_fr hF35 ext.rf hWa h_x (by decide +kernel) (by decide +kernel)).trans ty1
        refine GO.aload_n dX11_passStation_81 rfl rfl ?_
        refine GO.iconst dX11_passStation_82 ?_
        refine GO.iload dX11_passStation_83 rfl ?_
        refine GO.callV (ci := 10) (N := mX11_tally) dX11_passStation_85 (RX11, TX11, 20) rfl gV_RX11_192 h_x (t_X11_tally h_x (ir_c rfl) r29) rfl [] rfl rfl (Nat.le_of_ble_eq_true rfl) rfl (k_vs fun V40 h39 hF38 => ?_)
        refine GO.useWT (fun hWc => ?_)
        have sm3 := sm2.tr (SMC.fr hF38 ext.rf hWb h_x (by decide +kernel) (by decide +kernel) (by decide +kernel))
        have ty3 := (tdy_fr hF38 ext.rf hWb h_x (by decide +kernel) (by decide +kernel)).trans ty2
        have hl3 := (vq_eq (Eq.trans (hF38 _ _ 0 h_x h_x (by decide +kernel)) (Eq.trans (hF35 _ _ 0 h_x h_x (by decide +kernel)) (hF21 _ _ 0 h_x h_x (by decide +kernel))))).symm
        refine GO.aload_n dX11_passStation_88 rfl rfl ?_
        refine GO.getRaw h_x fl_RX11_12 (Eq.trans (hF38 _ _ _ h_x h_x (by decide +kernel)) (Eq.trans (hF35 _ _ _ h_x h_x (by decide +kernel)) (Eq.trans (hF21 _ _ _ h_x h_x (by decide +kernel)) hv8))) dX11_passStation_89 ?_
        refine GO.aload_n dX11_passStation_92 rfl rfl ?_
        refine GO.getI h2 fl_RX11_344 rfl rfl dX11_passStation_93 (fun _ _ => ?_)
        refine GO.aload_n dX11_passStation_96 rfl rfl ?_
        refine GO.getRaw h_x fl_RX11_12 (Eq.trans (hF38 _ _ _ h_x h_x (by decide +kernel)) (Eq.trans (hF35 _ _ _ h_x h_x (by decide +kernel)) (Eq.trans (hF21 _ _ _ h_x h_x (by decide +kernel)) hv8))) dX11_passStation_97 ?_
        refine GO.getI h7 fl_RX11_145 rfl rfl dX11_passStation_100 (fun l45 u46 => ?_)
        refine GO.aload_n dX11_passStation_103 rfl rfl ?_
        refine GO.getI h2 fl_RX11_189 rfl rfl dX11_passStation_104 (fun l47 u48 => ?_)
        refine GO.isub dX11_passStation_107 ?_
        refine GO.callV (ci := 0) (N := mX0_carries) dX11_passStation_108 (RX0, TX0, 13) rfl gV_RX11_494 h7 (t_X0_carries h7 vi_ir ⟨by omega, by omega⟩) rfl [] rfl rfl (Nat.le_of_ble_eq_true rfl) rfl (k_ip fun X49 r50 h51 => ?_)
        have raw_carries := h51.2.2.2
        have rw108 := h51.2.2.2
        refine GO.if_eq (tgt := 120) dX11_passStation_111 (by decide) r50 (fun c52 => ?_) (fun c52 => ?_)
        ·
          exact GO.retv rfl rfl dX11_passStation_120 ⟨rfl, rfl, ⟨trivial, (by first | exact PSC.nc rwp2 sm3 hl3 rw108 (by omega) ty3)⟩⟩
        ·
          refine GO.aload_n dX11_passStation_114 rfl rfl ?_
          refine GO.iload_n dX11_passStation_115 rfl rfl ?_
          refine GO.aload_n dX11_passStation_116 rfl rfl ?_
          refine GO.callV (ci := 10) (N := mX11_carry) dX11_passStation_117 (RX11, TX11, 20) rfl gV_RX11_497 h_x (t_X11_carry h_x r_p0 h2) rfl [] rfl rfl (Nat.le_of_ble_eq_true rfl) rfl (k_vs fun V55 h54 hF53 => ?_)
          have raw_carry := h54.2
          have rw117 := h54.2
          exact GO.retv rfl rfl dX11_passStation_120 ⟨rfl, rfl, ⟨trivial, (by first | exact PSC.nc rwp2 sm3 hl3 rw108 (by omega) ty3 | exact PSC.go rwp2 sm3 hl3 rw108 (by omega) ty3 rw117)⟩⟩
      ·
        refine GO.iload_n dX11_passStation_67 rfl rfl ?_
        refine GO.if_eq (tgt := 75) dX11_passStation_68 (by decide) r14 (fun c56 => ?_) (fun h => by exfalso; omega)
        refine GO.iconst dX11_passStation_75 ?_
        refine GO.iload dX11_passStation_76 rfl ?_
        refine GO.callS (N := mX4_add) dX11_passStation_78 gS_RX11_476 (t_X4_add h30 (ir_c rfl) r29) rfl [] rfl rfl (Nat.le_of_ble_eq_true rfl) rfl (k_vs fun V59 h58 hF57 => ?_)
        refine GO.useWT (fun hWb => ?_)
        have sm2 := sm1.tr (SMC.fr hF57 ext.rf hWa h_x (by decide +kernel) (by decide +kernel) (by decide +kernel))
        have ty2 := (tdy_fr hF57 ext.rf hWa h_x (by decide +kernel) (by decide +kernel)).trans ty1
        refine GO.aload_n dX11_passStation_81 rfl rfl ?_
        refine GO.iconst dX11_passStation_82 ?_
        refine GO.iload dX11_passStation_83 rfl ?_
        refine GO.callV (ci := 10) (N := mX11_tally) dX11_passStation_85 (RX11, TX11, 20) rfl gV_RX11_192 h_x (t_X11_tally h_x (ir_c rfl) r29) rfl [] rfl rfl (Nat.le_of_ble_eq_true rfl) rfl (k_vs fun V62 h61 hF60 => ?_)
        refine GO.useWT (fun hWc => ?_)
        have sm3 := sm2.tr (SMC.fr hF60 ext.rf hWb h_x (by decide +kernel) (by decide +kernel) (by decide +kernel))
        have ty3 := (tdy_fr hF60 ext.rf hWb h_x (by decide +kernel) (by decide +kernel)).trans ty2
        have hl3 := (vq_eq (Eq.trans (hF60 _ _ 0 h_x h_x (by decide +kernel)) (Eq.trans (hF57 _ _ 0 h_x h_x (by decide +kernel)) (hF21 _ _ 0 h_x h_x (by decide +kernel))))).symm
        refine GO.aload_n dX11_passStation_88 rfl rfl ?_
        refine GO.getRaw h_x fl_RX11_12 (Eq.trans (hF60 _ _ _ h_x h_x (by decide +kernel)) (Eq.trans (hF57 _ _ _ h_x h_x (by decide +kernel)) (Eq.trans (hF21 _ _ _ h_x h_x (by decide +kernel)) hv8))) dX11_passStation_89 ?_
        refine GO.aload_n dX11_passStation_92 rfl rfl ?_
        refine GO.getI h2 fl_RX11_344 rfl rfl dX11_passStation_93 (fun _ _ => ?_)
        refine GO.aload_n dX11_passStation_96 rfl rfl ?_
        refine GO.getRaw h_x fl_RX11_12 (Eq.trans (hF60 _ _ _ h_x h_x (by decide +kernel)) (Eq.trans (hF57 _ _ _ h_x h_x (by decide +kernel)) (Eq.trans (hF21 _ _ _ h_x h_x (by decide +kernel)) hv8))) dX11_passStation_97 ?_
        refine GO.getI h7 fl_RX11_145 rfl rfl dX11_passStation_100 (fun l67 u68 => ?_)
        refine GO.aload_n dX11_passStation_103 rfl rfl ?_
        refine GO.getI h2 fl_RX11_189 rfl rfl dX11_passStation_104 (fun l69 u70 => ?_)
        refine GO.isub dX11_passStation_107 ?_
        refine GO.callV (ci := 0) (N := mX0_carries) dX11_passStation_108 (RX0, TX0, 13) rfl gV_RX11_494 h7 (t_X0_carries h7 vi_ir ⟨by omega, by omega⟩) rfl [] rfl rfl (Nat.le_of_ble_eq_true rfl) rfl (k_ip fun X71 r72 h73 => ?_)
        have raw_carries := h73.2.2.2
        have rw108 := h73.2.2.2
        refine GO.if_eq (tgt := 120) dX11_passStation_111 (by decide) r72 (fun c74 => ?_) (fun c74 => ?_)
        ·
          exact GO.retv rfl rfl dX11_passStation_120 ⟨rfl, rfl, ⟨trivial, (by first | exact PSC.nc rwp2 sm3 hl3 rw108 (by omega) ty3)⟩⟩
        ·
          refine GO.aload_n dX11_passStation_114 rfl rfl ?_
          refine GO.iload_n dX11_passStation_115 rfl rfl ?_
          refine GO.aload_n dX11_passStation_116 rfl rfl ?_
          refine GO.callV (ci := 10) (N := mX11_carry) dX11_passStation_117 (RX11, TX11, 20) rfl gV_RX11_497 h_x (t_X11_carry h_x r_p0 h2) rfl [] rfl rfl (Nat.le_of_ble_eq_true rfl) rfl (k_vs fun V77 h76 hF75 => ?_)
          have raw_carry := h76.2
          have rw117 := h76.2
          exact GO.retv rfl rfl dX11_passStation_120 ⟨rfl, rfl, ⟨trivial, (by first | exact PSC.nc rwp2 sm3 hl3 rw108 (by omega) ty3 | exact PSC.go rwp2 sm3 hl3 rw108 (by omega) ty3 rw117)⟩⟩
    ·
      refine GO.iconst dX11_passStation_42 ?_
      refine GO.goto (tgt := 47) dX11_passStation_43 (by decide) ?_
      refine GO.imul dX11_passStation_47 ?_
      refine GO.norm (fun z78 r79 hn80 => ?_)
      refine GO.callV (ci := 10) (N := mX11_burn) dX11_passStation_48 (RX11, TX11, 20) rfl gV_RX11_487 h_x (t_X11_burn h_x h2 r79) rfl [] rfl rfl (Nat.le_of_ble_eq_true rfl) rfl (k_vs fun V83 h82 hF81 => ?_)
      refine GO.useWT (fun hWa => ?_)
      have sm1 := SMC.fr hF81 ext.rf hW_0 h_x (by decide +kernel) (by decide +kernel) (by decide +kernel)
      have ty1 := tdy_fr hF81 ext.rf hW_0 h_x (by decide +kernel) (by decide +kernel)
      refine GO.aload_n dX11_passStation_51 rfl rfl ?_
      refine GO.getI h2 fl_RX11_183 rfl rfl dX11_passStation_52 (fun _ _ => ?_)
      refine GO.bipush dX11_passStation_55 rfl ?_
      refine GO.iadd dX11_passStation_57 ?_
      refine GO.norm (fun z84 r85 hn86 => ?_)
      refine GO.bipush dX11_passStation_58 rfl ?_
      refine GO.idiv dX11_passStation_60 (ir_c rfl) (by omega) ?_
      refine GO.name (fun z87 hz88 => ?_)
      have r89 : ir z87 := hz88 ▸ wdiv_ir
      refine GO.istore (ls1 := [some (.ref x), some (ti p0), some (.ref o1), some (ti X13), some (ti z87)]) dX11_passStation_61 rfl rfl ?_
      refine GO.aload_n dX11_passStation_63 rfl rfl ?_
      refine GO.getNB h2 fl_RX11_491 rfl rfl dX11_passStation_64 (fun hv91 => ?_) (fun n92 hv91 h90 b93 => ?_)
      ·
        refine GO.iload_n dX11_passStation_67 rfl rfl ?_
        refine GO.if_eq (tgt := 75) dX11_passStation_68 (by decide) r14 (fun h => by exfalso; omega) (fun c94 => ?_)
        refine GO.iconst dX11_passStation_71 ?_
        refine GO.goto (tgt := 76) dX11_passStation_72 (by decide) ?_
        refine GO.iload dX11_passStation_76 rfl ?_
        refine GO.callS (N := mX4_add_n) dX11_passStation_78 gS_RX11_476 (t_X4_add_n (ir_c rfl) r89) rfl [] rfl rfl (Nat.le_of_ble_eq_true rfl) rfl (k_vs fun V97 h96 hF95 => ?_)
        refine GO.useWT (fun hWb => ?_)
        have sm2 := sm1.tr (SMC.fr hF95 ext.rf hWa h_x (by decide +kernel) (by decide +kernel) (by decide +kernel))
        have ty2 := (tdy_fr hF95 ext.rf hWa h_x (by decide +kernel) (by decide +kernel)).trans ty1
        refine GO.aload_n dX11_passStation_81 rfl rfl ?_
        refine GO.iconst dX11_passStation_82 ?_
        refine GO.iload dX11_passStation_83 rfl ?_
        refine GO.callV (ci := 10) (N := mX11_tally) dX11_passStation_85 (RX11, TX11, 20) rfl gV_RX11_192 h_x (t_X11_tally h_x (ir_c rfl) r89) rfl [] rfl rfl (Nat.le_of_ble_eq_true rfl) rfl (k_vs fun V100 h99 hF98 => ?_)
        refine GO.useWT (fun hWc => ?_)
        have sm3 := sm2.tr (SMC.fr hF98 ext.rf hWb h_x (by decide +kernel) (by decide +kernel) (by decide +kernel))
        have ty3 := (tdy_fr hF98 ext.rf hWb h_x (by decide +kernel) (by decide +kernel)).trans ty2
        have hl3 := (vq_eq (Eq.trans (hF98 _ _ 0 h_x h_x (by decide +kernel)) (Eq.trans (hF95 _ _ 0 h_x h_x (by decide +kernel)) (hF81 _ _ 0 h_x h_x (by decide +kernel))))).symm
        refine GO.aload_n dX11_passStation_88 rfl rfl ?_
        refine GO.getRaw h_x fl_RX11_12 (Eq.trans (hF98 _ _ _ h_x h_x (by decide +kernel)) (Eq.trans (hF95 _ _ _ h_x h_x (by decide +kernel)) (Eq.trans (hF81 _ _ _ h_x h_x (by decide +kernel)) hv8))) dX11_passStation_89 ?_
        refine GO.aload_n dX11_passStation_92 rfl rfl ?_
        refine GO.getI h2 fl_RX11_344 rfl rfl dX11_passStation_93 (fun _ _ => ?_)
        refine GO.aload_n dX11_passStation_96 rfl rfl ?_
        refine GO.getRaw h_x fl_RX11_12 (Eq.trans (hF98 _ _ _ h_x h_x (by decide +kernel)) (Eq.trans (hF95 _ _ _ h_x h_x (by decide +kernel)) (Eq.trans (hF81 _ _ _ h_x h_x (by decide +kernel)) hv8))) dX11_passStation_97 ?_
        refine GO.getI h7 fl_RX11_145 rfl rfl dX11_passStation_100 (fun l105 u106 => ?_)
        refine GO.aload_n dX11_passStation_103 rfl rfl ?_
        refine GO.getI h2 fl_RX11_189 rfl rfl dX11_passStation_104 (fun l107 u108 => ?_)
        refine GO.isub dX11_passStation_107 ?_
        refine GO.callV (ci := 0) (N := mX0_carries) dX11_passStation_108 (RX0, TX0, 13) rfl gV_RX11_494 h7 (t_X0_carries h7 vi_ir ⟨by omega, by omega⟩) rfl [] rfl rfl (Nat.le_of_ble_eq_true rfl) rfl (k_ip fun X109 r110 h111 => ?_)
        have raw_carries := h111.2.2.2
        have rw108 := h111.2.2.2
        refine GO.if_eq (tgt := 120) dX11_passStation_111 (by decide) r110 (fun c112 => ?_) (fun c112 => ?_)
        ·
          exact GO.retv rfl rfl dX11_passStation_120 ⟨rfl, rfl, ⟨trivial, (by first | exact PSC.nc rwp2 sm3 hl3 rw108 (by omega) ty3)⟩⟩
        ·
          refine GO.aload_n dX11_passStation_114 rfl rfl ?_
          refine GO.iload_n dX11_passStation_115 rfl rfl ?_
          refine GO.aload_n dX11_passStation_116 rfl rfl ?_
          refine GO.callV (ci := 10) (N := mX11_carry) dX11_passStation_117 (RX11, TX11, 20) rfl gV_RX11_497 h_x (t_X11_carry h_x r_p0 h2) rfl [] rfl rfl (Nat.le_of_ble_eq_true rfl) rfl (k_vs fun V115 h114 hF113 => ?_)
          have raw_carry := h114.2
          have rw117 := h114.2
          exact GO.retv rfl rfl dX11_passStation_120 ⟨rfl, rfl, ⟨trivial, (by first | exact PSC.nc rwp2 sm3 hl3 rw108 (by omega) ty3 | exact PSC.go rwp2 sm3 hl3 rw108 (by omega) ty3 rw117)⟩⟩
      ·
        refine GO.iload_n dX11_passStation_67 rfl rfl ?_
        refine GO.if_eq (tgt := 75) dX11_passStation_68 (by decide) r14 (fun h => by exfalso; omega) (fun c116 => ?_)
        refine GO.iconst dX11_passStation_71 ?_
        refine GO.goto (tgt := 76) dX11_passStation_72 (by decide) ?_
        refine GO.iload dX11_passStation_76 rfl ?_
        refine GO.callS (N := mX4_add) dX11_passStation_78 gS_RX11_476 (t_X4_add h90 (ir_c rfl) r89) rfl [] rfl rfl (Nat.le_of_ble_eq_true rfl) rfl (k_vs fun V119 h118 hF117 => ?_)
        refine GO.useWT (fun hWb => ?_)
        have sm2 := sm1.tr (SMC.fr hF117 ext.rf hWa h_x (by decide +kernel) (by decide +kernel) (by decide +kernel))
        have ty2 := (tdy_fr hF117 ext.rf hWa h_x (by decide +kernel) (by decide +kernel)).trans ty1
        refine GO.aload_n dX11_passStation_81 rfl rfl ?_
        refine GO.iconst dX11_passStation_82 ?_
        refine GO.iload dX11_passStation_83 rfl ?_
        refine GO.callV (ci := 10) (N := mX11_tally) dX11_passStation_85 (RX11, TX11, 20) rfl gV_RX11_192 h_x (t_X11_tally h_x (ir_c rfl) r89) rfl [] rfl rfl (Nat.le_of_ble_eq_true rfl) rfl (k_vs fun V122 h121 hF120 => ?_)
        refine GO.useWT (fun hWc => ?_)
        have sm3 := sm2.tr (SMC.fr hF120 ext.rf hWb h_x (by decide +kernel) (by decide +kernel) (by decide +kernel))
        have ty3 := (tdy_fr hF120 ext.rf hWb h_x (by decide +kernel) (by decide +kernel)).trans ty2
        have hl3 := (vq_eq (Eq.trans (hF120 _ _ 0 h_x h_x (by decide +kernel)) (Eq.trans (hF117 _ _ 0 h_x h_x (by decide +kernel)) (hF81 _ _ 0 h_x h_x (by decide +kernel))))).symm
        refine GO.aload_n dX11_passStation_88 rfl rfl ?_
        refine GO.getRaw h_x fl_RX11_12 (Eq.trans (hF120 _ _ _ h_x h_x (by decide +kernel)) (Eq.trans (hF117 _ _ _ h_x h_x (by decide +kernel)) (Eq.trans (hF81 _ _ _ h_x h_x (by decide +kernel)) hv8))) dX11_passStation_89 ?_
        refine GO.aload_n dX11_passStation_92 rfl rfl ?_
        refine GO.getI h2 fl_RX11_344 rfl rfl dX11_passStation_93 (fun _ _ => ?_)
        refine GO.aload_n dX11_passStation_96 rfl rfl ?_
        refine GO.getRaw h_x fl_RX11_12 (Eq.trans (hF120 _ _ _ h_x h_x (by decide +kernel)) (Eq.trans (hF117 _ _ _ h_x h_x (by decide +kernel)) (Eq.trans (hF81 _ _ _ h_x h_x (by decide +kernel)) hv8))) dX11_passStation_97 ?_
        refine GO.getI h7 fl_RX11_145 rfl rfl dX11_passStation_100 (fun l127 u128 => ?_)
        refine GO.aload_n dX11_passStation_103 rfl rfl ?_
        refine GO.getI h2 fl_RX11_189 rfl rfl dX11_passStation_104 (fun l129 u130 => ?_)
        refine GO.isub dX11_passStation_107 ?_
        refine GO.callV (ci := 0) (N := mX0_carries) dX11_passStation_108 (RX0, TX0, 13) rfl gV_RX11_494 h7 (t_X0_carries h7 vi_ir ⟨by omega, by omega⟩) rfl [] rfl rfl (Nat.le_of_ble_eq_true rfl) rfl (k_ip fun X131 r132 h133 => ?_)
        have raw_carries := h133.2.2.2
        have rw108 := h133.2.2.2
        refine GO.if_eq (tgt := 120) dX11_passStation_111 (by decide) r132 (fun c134 => ?_) (fun c134 => ?_)
        ·
          exact GO.retv rfl rfl dX11_passStation_120 ⟨rfl, rfl, ⟨trivial, (by first | exact PSC.nc rwp2 sm3 hl3 rw108 (by omega) ty3)⟩⟩
        ·
          refine GO.aload_n dX11_passStation_114 rfl rfl ?_
          refine GO.iload_n dX11_passStation_115 rfl rfl ?_
          refine GO.aload_n dX11_passStation_116 rfl rfl ?_
          refine GO.callV (ci := 10) (N := mX11_carry) dX11_passStation_117 (RX11, TX11, 20) rfl gV_RX11_497 h_x (t_X11_carry h_x r_p0 h2) rfl [] rfl rfl (Nat.le_of_ble_eq_true rfl) rfl (k_vs fun V137 h136 hF135 => ?_)
          have raw_carry := h136.2
          have rw117 := h136.2
          exact GO.retv rfl rfl dX11_passStation_120 ⟨rfl, rfl, ⟨trivial, (by first | exact PSC.nc rwp2 sm3 hl3 rw108 (by omega) ty3 | exact PSC.go rwp2 sm3 hl3 rw108 (by omega) ty3 rw117)⟩⟩
