def mX11_sendPeopleHome : MRec := (RX11, cX11_sendPeopleHome, 2, (none : Option Jvm.ClassFile.FieldType), yX11_sendPeopleHome, 1, 22, 0, 0, 7588550360256754183279148073529370729071901715047420004889892225542595001521799168)
def mX11_burn : MRec := (RX11, cX11_burn, 4, (none : Option Jvm.ClassFile.FieldType), yX11_burn, 2, 43, 0, 0, 7588550360256754183279148073529370729071901715047420004889892225542596375911333888)
def mX11_carryField : MRec := (RX11, cX11_carryField, 5, (none : Option Jvm.ClassFile.FieldType), yX11_carryField, 2, 46, 0, 0, 77309411328)
def mX11_loseStation : MRec := (RX11, cX11_loseStation, 3, (none : Option Jvm.ClassFile.FieldType), yX11_loseStation, 2, 43, 0, 0, 11382825540385131274918722110294056093607852572571130007334838338313893326916419584)
def mX11_carry : MRec := (RX11, cX11_carry, 8, (none : Option Jvm.ClassFile.FieldType), yX11_carry, 3, 70, 0, 0, 11382825540385131274918722110294056093607852572571130007334838338313895534529609728)
def mX11_passStation : MRec := (RX11, cX11_passStation, 5, (none : Option Jvm.ClassFile.FieldType), yX11_passStation, 4, 97, 0, 0, 11382825540385131274918722110294056093607852572571130007334838338313896634041237504)
def mX11_unload : MRec := (RX11, cX11_unload, 5, (none : Option Jvm.ClassFile.FieldType), yX11_unload, 3, 69, 0, 0, 3794275180128377091639574036764685364535950857523710002444949654546159859153240064)
def mX11_meetIce : MRec := (RX11, cX11_meetIce, 2, (none : Option Jvm.ClassFile.FieldType), yX11_meetIce, 4, 93, 0, 0, 3794275180128377091639574036764685364535950857523710002444963969219561057765294080)
def mX11_comeHome : MRec := (RX11, cX11_comeHome, 2, (none : Option Jvm.ClassFile.FieldType), yX11_comeHome, 1, 22, 0, 0, 7588550360256754183279148073529370729071901715047420004889895914891409605993168896)
def mX11_passShip : MRec := (RX11, cX11_passShip, 2, (none : Option Jvm.ClassFile.FieldType), yX11_passShip, 5, 114, 0, 0, 11382825540385131274918722110294056093607852572571130007334856194762155921848139776)
set_option maxHeartbeats 1000000 in
theorem t_X11_sendPeopleHome {K : Kmap} {V : Vmap} {x : Nat} {p0 : Nat} (h_x : K x = some (0, 10)) (h_p0 : K p0 = some (0, 3)) : MC mX11_sendPeopleHome K V [.ref x, .ref p0] (VS K (fun V1 => (True))) := by
  refine MC.start 0 (by decide +kernel) rfl rfl rfl (ls0 := [some (.ref x), some (.ref p0)]) rfl ?_
  refine GO.aload_n dX11_sendPeopleHome_0 rfl rfl ?_
  refine GO.bipush dX11_sendPeopleHome_1 rfl ?_
  refine GO.aload_n dX11_sendPeopleHome_3 rfl rfl ?_
  refine GO.getI h_p0 fl_RX11_183 rfl rfl dX11_sendPeopleHome_4 (fun _ _ => ?_)
  refine GO.callV (ci := 10) (N := mX11_tally) dX11_sendPeopleHome_7 (RX11, TX11, 20) rfl gV_RX11_192 h_x (t_X11_tally h_x (ir_c rfl) vi_ir) rfl [] rfl rfl (Nat.le_of_ble_eq_true rfl) rfl (k_vs fun V3 h2 hF1 => ?_)
  refine GO.aload_n dX11_sendPeopleHome_10 rfl rfl ?_
  refine GO.iconst dX11_sendPeopleHome_11 ?_
  refine GO.putI h_p0 fp_RX11_183 rfl (by decide +kernel) (ir_c rfl) (by decide) (by decide) dX11_sendPeopleHome_12 (fun V5 e4 => ?_)
  exact GO.retv rfl rfl dX11_sendPeopleHome_15 ⟨rfl, rfl, trivial⟩

set_option maxHeartbeats 1000000 in
theorem t_X11_burn {K : Kmap} {V : Vmap} {x : Nat} {p0 : Nat} {p1 : Int} (h_x : K x = some (0, 10)) (h_p0 : K p0 = some (0, 3)) (r_p1 : ir p1) : MC mX11_burn K V [.ref x, .ref p0, ti p1] (VS K (fun V1 => (True))) := by
  refine MC.start 1 (by decide +kernel) rfl rfl rfl (ls0 := [some (.ref x), some (.ref p0), some (ti p1), none]) rfl ?_
  refine GO.iload_n dX11_burn_0 rfl rfl ?_
  refine GO.aload_n dX11_burn_1 rfl rfl ?_
  refine GO.getI h_p0 fl_RX11_186 rfl rfl dX11_burn_2 (fun _ _ => ?_)
  refine GO.callS (N := mJ9_min_7cf53) dX11_burn_5 gS_RX11_479 (t_J9_min_7cf53 r_p1 vi_ir) rfl [] rfl rfl (Nat.le_of_ble_eq_true rfl) rfl (k_ip fun X1 r2 h3 => ?_)
  have q4 : -2147483648 ≤ vi V p0 7 ∧ vi V p0 7 ≤ 2147483647 := vi_ir
  have q5 : -2147483648 ≤ X1 ∧ X1 ≤ 2147483647 := r2
  have q6 : -2147483648 ≤ p1 ∧ p1 ≤ 2147483647 := r_p1
  refine GO.istore_n (ls1 := [some (.ref x), some (.ref p0), some (ti p1), some (ti X1)]) dX11_burn_8 rfl rfl rfl ?_
  refine GO.aload_n dX11_burn_9 rfl rfl ?_
  refine GO.dup dX11_burn_10 rfl ?_
  refine GO.getI h_p0 fl_RX11_186 rfl rfl dX11_burn_11 (fun _ _ => ?_)
  refine GO.iload_n dX11_burn_14 rfl rfl ?_
  refine GO.isub dX11_burn_15 ?_
  refine GO.norm (fun z7 r8 _ => ?_)
  refine GO.putI h_p0 fp_RX11_186 rfl (by decide +kernel) r8 (r8).1 (r8).2 dX11_burn_16 (fun V10 e9 => ?_)
  refine GO.aload_n dX11_burn_19 rfl rfl ?_
  refine GO.iconst dX11_burn_20 ?_
  refine GO.iload_n dX11_burn_21 rfl rfl ?_
  refine GO.callV (ci := 10) (N := mX11_tally) dX11_burn_22 (RX11, TX11, 20) rfl gV_RX11_192 h_x (t_X11_tally h_x (ir_c rfl) r2) rfl [] rfl rfl (Nat.le_of_ble_eq_true rfl) rfl (k_vs fun V13 h12 hF11 => ?_)
  refine GO.aload_n dX11_burn_25 rfl rfl ?_
  refine GO.iload_n dX11_burn_26 rfl rfl ?_
  refine GO.iload_n dX11_burn_27 rfl rfl ?_
  refine GO.icmp_ge (tgt := 40) dX11_burn_28 (by decide) r2 r_p1 (fun c14 => ?_) (fun c14 => ?_)
  ·
    refine GO.iconst dX11_burn_40 ?_
    refine GO.putI h_p0 fp_RX11_501 rfl (by decide +kernel) (ir_c rfl) (by decide) (by decide) dX11_burn_41 (fun V16 e15 => ?_)
    refine GO.aload_n dX11_burn_44 rfl rfl ?_
    refine GO.getI h_p0 fl_RX11_501 rfl rfl dX11_burn_45 (fun _ _ => ?_)
    refine GO.bipush dX11_burn_48 rfl ?_
    refine GO.icmp_ne (tgt := 58) dX11_burn_50 (by decide) vi_ir (ir_c rfl) (fun c17 => ?_) (fun c17 => ?_)
    ·
      exact GO.retv rfl rfl dX11_burn_58 ⟨rfl, rfl, trivial⟩
    ·
      refine GO.aload_n dX11_burn_53 rfl rfl ?_
      refine GO.aload_n dX11_burn_54 rfl rfl ?_
      refine GO.callV (ci := 10) (N := mX11_sendPeopleHome) dX11_burn_55 (RX11, TX11, 20) rfl gV_RX11_504 h_x (t_X11_sendPeopleHome h_x h_p0) rfl [] rfl rfl (Nat.le_of_ble_eq_true rfl) rfl (k_vs fun V20 h19 hF18 => ?_)
      exact GO.retv rfl rfl dX11_burn_58 ⟨rfl, rfl, trivial⟩
  ·
    refine GO.aload_n dX11_burn_31 rfl rfl ?_
    refine GO.getI h_p0 fl_RX11_501 rfl rfl dX11_burn_32 (fun _ _ => ?_)
    refine GO.iconst dX11_burn_35 ?_
    refine GO.iadd dX11_burn_36 ?_
    refine GO.norm (fun z21 r22 _ => ?_)
    refine GO.goto (tgt := 41) dX11_burn_37 (by decide) ?_
    refine GO.putI h_p0 fp_RX11_501 rfl (by decide +kernel) r22 (r22).1 (r22).2 dX11_burn_41 (fun V24 e23 => ?_)
    refine GO.aload_n dX11_burn_44 rfl rfl ?_
    refine GO.getI h_p0 fl_RX11_501 rfl rfl dX11_burn_45 (fun _ _ => ?_)
    refine GO.bipush dX11_burn_48 rfl ?_
    refine GO.icmp_ne (tgt := 58) dX11_burn_50 (by decide) vi_ir (ir_c rfl) (fun c25 => ?_) (fun c25 => ?_)
    ·
      exact GO.retv rfl rfl dX11_burn_58 ⟨rfl, rfl, trivial⟩
    ·
      refine GO.aload_n dX11_burn_53 rfl rfl ?_
      refine GO.aload_n dX11_burn_54 rfl rfl ?_
      refine GO.callV (ci := 10) (N := mX11_sendPeopleHome) dX11_burn_55 (RX11, TX11, 20) rfl gV_RX11_504 h_x (t_X11_sendPeopleHome h_x h_p0) rfl [] rfl rfl (Nat.le_of_ble_eq_true rfl) rfl (k_vs fun V28 h27 hF26 => ?_)
      exact GO.retv rfl rfl dX11_burn_58 ⟨rfl, rfl, trivial⟩

set_option maxHeartbeats 1000000 in
theorem t_X11_carryField {K : Kmap} {V : Vmap} {x : Nat} {p0 : Nat} {p1 : Int} {p2 : Int} (h_x : K x = some (0, 10)) (h_p0 : K p0 = some (0, 3)) (r_p1 : ir p1) (r_p2 : ir p2) (z_p2 : p2 = 0 ∨ p2 = 1) : MC mX11_carryField K V [.ref x, .ref p0, ti p1, ti p2] (VS K (fun V1 => (True))) := by
  refine MC.start 1 (by decide +kernel) rfl rfl rfl (ls0 := [some (.ref x), some (.ref p0), some (ti p1), some (ti p2), none]) rfl ?_
  refine GO.aload_n dX11_carryField_0 rfl rfl ?_
  refine GO.getR h_x fl_RX11_12 rfl rfl dX11_carryField_1 (fun hv2 h1 => ?_)
  refine GO.aload_n dX11_carryField_4 rfl rfl ?_
  refine GO.getI h_p0 fl_RX11_344 rfl rfl dX11_carryField_5 (fun _ _ => ?_)
  refine GO.iload_n dX11_carryField_8 rfl rfl ?_
  refine GO.callV (ci := 0) (N := mX0_beside) dX11_carryField_9 (RX0, TX0, 13) rfl gV_RX11_508 h1 (t_X0_beside h1 vi_ir r_p1) rfl [] rfl rfl (Nat.le_of_ble_eq_true rfl) rfl (k_ip fun X3 r4 h5 => ?_)
  refine GO.istore (ls1 := [some (.ref x), some (.ref p0), some (ti p1), some (ti p2), some (ti X3)]) dX11_carryField_12 rfl rfl ?_
  refine GO.iload_n dX11_carryField_14 rfl rfl ?_
  refine GO.if_ne (tgt := 30) dX11_carryField_15 (by decide) r_p2 (fun c6 => ?_) (fun c6 => ?_)
  ·
    refine GO.aload_n dX11_carryField_30 rfl rfl ?_
    refine GO.iconst dX11_carryField_31 ?_
    refine GO.putZ h_p0 fp_RX11_511 rfl (by decide +kernel) (by omega) (by omega) (by omega) dX11_carryField_32 (fun V8 e7 => ?_)
    refine GO.iload dX11_carryField_35 rfl ?_
    refine GO.iconst dX11_carryField_37 ?_
    refine GO.icmp_eq (tgt := 47) dX11_carryField_38 (by decide) r4 (ir_c rfl) (fun c9 => ?_) (fun c9 => ?_)
    ·
      exact GO.retv rfl rfl dX11_carryField_47 ⟨rfl, rfl, trivial⟩
    ·
      refine GO.aload_n dX11_carryField_41 rfl rfl ?_
      refine GO.iload dX11_carryField_42 rfl ?_
      refine GO.putI h_p0 fp_RX11_344 rfl (by decide +kernel) r4 (r4).1 (r4).2 dX11_carryField_44 (fun V11 e10 => ?_)
      exact GO.retv rfl rfl dX11_carryField_47 ⟨rfl, rfl, trivial⟩
  ·
    refine GO.aload_n dX11_carryField_18 rfl rfl ?_
    refine GO.getRaw h_x fl_RX11_12 hv2 dX11_carryField_19 ?_
    refine GO.iload dX11_carryField_22 rfl ?_
    refine GO.callV (ci := 0) (N := mX0_isFirm) dX11_carryField_24 (RX0, TX0, 13) rfl gV_RX11_179 h1 (t_X0_isFirm h1 r4) rfl [] rfl rfl (Nat.le_of_ble_eq_true rfl) rfl (k_ip fun X14 r15 h16 => ?_)
    refine GO.if_ne (tgt := 35) dX11_carryField_27 (by decide) r15 (fun c17 => ?_) (fun c17 => ?_)
    ·
      refine GO.iload dX11_carryField_35 rfl ?_
      refine GO.iconst dX11_carryField_37 ?_
      refine GO.icmp_eq (tgt := 47) dX11_carryField_38 (by decide) r4 (ir_c rfl) (fun c18 => ?_) (fun c18 => ?_)
      ·
        exact GO.retv rfl rfl dX11_carryField_47 ⟨rfl, rfl, trivial⟩
      ·
        refine GO.aload_n dX11_carryField_41 rfl rfl ?_
        refine GO.iload dX11_carryField_42 rfl ?_
        refine GO.putI h_p0 fp_RX11_344 rfl (by decide +kernel) r4 (r4).1 (r4).2 dX11_carryField_44 (fun V20 e19 => ?_)
        exact GO.retv rfl rfl dX11_carryField_47 ⟨rfl, rfl, trivial⟩
    ·
      refine GO.aload_n dX11_carryField_30 rfl rfl ?_
      refine GO.iconst dX11_carryField_31 ?_
      refine GO.putZ h_p0 fp_RX11_511 rfl (by decide +kernel) (by omega) (by omega) (by omega) dX11_carryField_32 (fun V22 e21 => ?_)
      refine GO.iload dX11_carryField_35 rfl ?_
      refine GO.iconst dX11_carryField_37 ?_
      refine GO.icmp_eq (tgt := 47) dX11_carryField_38 (by decide) r4 (ir_c rfl) (fun c23 => ?_) (fun c23 => ?_)
      ·
        exact GO.retv rfl rfl dX11_carryField_47 ⟨rfl, rfl, trivial⟩
      ·
        refine GO.aload_n dX11_carryField_41 rfl rfl ?_
        refine GO.iload dX11_carryField_42 rfl ?_
        refine GO.putI h_p0 fp_RX11_344 rfl (by decide +kernel) r4 (r4).1 (r4).2 dX11_carryField_44 (fun V25 e24 => ?_)
        exact GO.retv rfl rfl dX11_carryField_47 ⟨rfl, rfl, trivial⟩

set_option maxHeartbeats 1000000 in
theorem t_X11_loseStation {K : Kmap} {V : Vmap} {x : Nat} {p0 : Nat} (h_x : K x = some (0, 10)) (h_p0 : K p0 = some (0, 3)) : MC mX11_loseStation K V [.ref x, .ref p0] (VS K (fun V1 => (True))) := by
  refine MC.start 1 (by decide +kernel) rfl rfl rfl (ls0 := [some (.ref x), some (.ref p0), none]) rfl ?_
  refine GO.aload_n dX11_loseStation_0 rfl rfl ?_
  refine GO.iconst dX11_loseStation_1 ?_
  refine GO.putZ h_p0 fp_RX11_511 rfl (by decide +kernel) (by omega) (by omega) (by omega) dX11_loseStation_2 (fun V2 e1 => ?_)
  refine GO.aload_n dX11_loseStation_5 rfl rfl ?_
  refine GO.iconst dX11_loseStation_6 ?_
  refine GO.aload_n dX11_loseStation_7 rfl rfl ?_
  refine GO.getI h_p0 fl_RX11_186 rfl rfl dX11_loseStation_8 (fun _ _ => ?_)
  refine GO.callV (ci := 10) (N := mX11_tally) dX11_loseStation_11 (RX11, TX11, 20) rfl gV_RX11_192 h_x (t_X11_tally h_x (ir_c rfl) vi_ir) rfl [] rfl rfl (Nat.le_of_ble_eq_true rfl) rfl (k_vs fun V5 h4 hF3 => ?_)
  refine GO.aload_n dX11_loseStation_14 rfl rfl ?_
  refine GO.iconst dX11_loseStation_15 ?_
  refine GO.aload_n dX11_loseStation_16 rfl rfl ?_
  refine GO.getI h_p0 fl_RX11_421 rfl rfl dX11_loseStation_17 (fun _ _ => ?_)
  refine GO.callV (ci := 10) (N := mX11_tally) dX11_loseStation_20 (RX11, TX11, 20) rfl gV_RX11_192 h_x (t_X11_tally h_x (ir_c rfl) vi_ir) rfl [] rfl rfl (Nat.le_of_ble_eq_true rfl) rfl (k_vs fun V8 h7 hF6 => ?_)
  refine GO.aload_n dX11_loseStation_23 rfl rfl ?_
  refine GO.iconst dX11_loseStation_24 ?_
  refine GO.putI h_p0 fp_RX11_186 rfl (by decide +kernel) (ir_c rfl) (by decide) (by decide) dX11_loseStation_25 (fun V10 e9 => ?_)
  refine GO.aload_n dX11_loseStation_28 rfl rfl ?_
  refine GO.iconst dX11_loseStation_29 ?_
  refine GO.putI h_p0 fp_RX11_421 rfl (by decide +kernel) (ir_c rfl) (by decide) (by decide) dX11_loseStation_30 (fun V12 e11 => ?_)
  refine GO.iconst dX11_loseStation_33 ?_
  refine GO.istore_n (ls1 := [some (.ref x), some (.ref p0), some (ti 0)]) dX11_loseStation_34 rfl rfl rfl ?_
  refine GO.loop1 (fun i13 W => 0 ≤ i13 ∧ i13 ≤ 4 ∧ True) (fun i13 => [some (.ref x), some (.ref p0), some (ti i13)]) (fun i13 W => (2147483647 - i13).toNat) 0 ⟨by omega, by omega, trivial⟩ rfl (fun i13 Wi13 hp206 ih205 => ?_)
  obtain ⟨l_i13, u_i13, -⟩ := hp206
  have r_i13 : ir i13 := ⟨by omega, by omega⟩
  show GO mX11_loseStation K V (VS K (fun V1 => (True))) K Wi13 0 0 35 [some (.ref x), some (.ref p0), some (ti i13)] []
  refine GO.iload_n dX11_loseStation_35 rfl rfl ?_
  refine GO.iconst dX11_loseStation_36 ?_
  refine GO.icmp_ge (tgt := 68) dX11_loseStation_37 (by decide) r_i13 (ir_c rfl) (fun c207 => ?_) (fun c207 => ?_)
  ·
    refine GO.aload_n dX11_loseStation_68 rfl rfl ?_
    refine GO.aload_n dX11_loseStation_69 rfl rfl ?_
    refine GO.callV (ci := 10) (N := mX11_sendPeopleHome) dX11_loseStation_70 (RX11, TX11, 20) rfl gV_RX11_504 h_x (t_X11_sendPeopleHome h_x h_p0) rfl [] rfl rfl (Nat.le_of_ble_eq_true rfl) rfl (k_vs fun V210 h209 hF208 => ?_)
    exact GO.retv rfl rfl dX11_loseStation_73 ⟨rfl, rfl, trivial⟩
  ·
    refine GO.aload_n dX11_loseStation_40 rfl rfl ?_
    refine GO.iconst dX11_loseStation_41 ?_
    refine GO.aload_n dX11_loseStation_42 rfl rfl ?_
    refine GO.getNB h_p0 fl_RX11_491 rfl rfl dX11_loseStation_43 (fun hv212 => ?_) (fun n213 hv212 h211 b214 => ?_)
    ·
      refine GO.iload_n dX11_loseStation_46 rfl rfl ?_
      refine GO.callS (N := mX4_get_n) dX11_loseStation_47 gS_RX11_253 (t_X4_get_n r_i13) rfl [ti 5, .ref x] rfl rfl (Nat.le_of_ble_eq_true rfl) rfl (k_ip fun X215 r216 h217 => ?_)
      refine GO.callV (ci := 10) (N := mX11_tally) dX11_loseStation_50 (RX11, TX11, 20) rfl gV_RX11_192 h_x (t_X11_tally h_x (ir_c rfl) r216) rfl [] rfl rfl (Nat.le_of_ble_eq_true rfl) rfl (k_vs fun V220 h219 hF218 => ?_)
      refine GO.aload_n dX11_loseStation_53 rfl rfl ?_
      refine GO.getNB h_p0 fl_RX11_491 rfl rfl dX11_loseStation_54 (fun hv222 => ?_) (fun n223 hv222 h221 b224 => ?_)
      ·
        refine GO.iload_n dX11_loseStation_57 rfl rfl ?_
        refine GO.iconst dX11_loseStation_58 ?_
        refine GO.callS (N := mX4_put_n) dX11_loseStation_59 gS_RX11_108 (t_X4_put_n r_i13 (ir_c rfl)) rfl [] rfl rfl (Nat.le_of_ble_eq_true rfl) rfl (k_vs fun V227 h226 hF225 => ?_)
        refine GO.iinc (X := i13) (n := 1) (Y := i13 + 1) (ls1 := [some (.ref x), some (.ref p0), some (ti (i13 + 1))]) dX11_loseStation_62 rfl rfl rfl rfl ?_
        refine GO.goto (tgt := 35) dX11_loseStation_65 (by decide) ?_
        exact ih205 (i13 + 1) V227 ⟨by omega, by omega, trivial⟩ (by show (2147483647 - (i13 + 1)).toNat < (2147483647 - i13).toNat; omega)
      ·
        refine GO.iload_n dX11_loseStation_57 rfl rfl ?_
        refine GO.iconst dX11_loseStation_58 ?_
        refine GO.callS (N := mX4_put) dX11_loseStation_59 gS_RX11_108 (t_X4_put h221 r_i13 (ir_c rfl)) rfl [] rfl rfl (Nat.le_of_ble_eq_true rfl) rfl (k_vs fun V230 h229 hF228 => ?_)
        refine GO.iinc (X := i13) (n := 1) (Y := i13 + 1) (ls1 := [some (.ref x), some (.ref p0), some (ti (i13 + 1))]) dX11_loseStation_62 rfl rfl rfl rfl ?_
        refine GO.goto (tgt := 35) dX11_loseStation_65 (by decide) ?_
        exact ih205 (i13 + 1) V230 ⟨by omega, by omega, trivial⟩ (by show (2147483647 - (i13 + 1)).toNat < (2147483647 - i13).toNat; omega)
    ·
      refine GO.iload_n dX11_loseStation_46 rfl rfl ?_
      refine GO.callS (N := mX4_get) dX11_loseStation_47 gS_RX11_253 (t_X4_get rfl h211 r_i13) rfl [ti 5, .ref x] rfl rfl (Nat.le_of_ble_eq_true rfl) rfl (k_ip fun X231 r232 h233 => ?_)
      refine GO.callV (ci := 10) (N := mX11_tally) dX11_loseStation_50 (RX11, TX11, 20) rfl gV_RX11_192 h_x (t_X11_tally h_x (ir_c rfl) r232) rfl [] rfl rfl (Nat.le_of_ble_eq_true rfl) rfl (k_vs fun V236 h235 hF234 => ?_)
      refine GO.aload_n dX11_loseStation_53 rfl rfl ?_
      refine GO.getNB h_p0 fl_RX11_491 rfl rfl dX11_loseStation_54 (fun hv238 => ?_) (fun n239 hv238 h237 b240 => ?_)
      ·
        refine GO.iload_n dX11_loseStation_57 rfl rfl ?_
        refine GO.iconst dX11_loseStation_58 ?_
        refine GO.callS (N := mX4_put_n) dX11_loseStation_59 gS_RX11_108 (t_X4_put_n r_i13 (ir_c rfl)) rfl [] rfl rfl (Nat.le_of_ble_eq_true rfl) rfl (k_vs fun V243 h242 hF241 => ?_)
        refine GO.iinc (X := i13) (n := 1) (Y := i13 + 1) (ls1 := [some (.ref x), some (.ref p0), some (ti (i13 + 1))]) dX11_loseStation_62 rfl rfl rfl rfl ?_
        refine GO.goto (tgt := 35) dX11_loseStation_65 (by decide) ?_
        exact ih205 (i13 + 1) V243 ⟨by omega, by omega, trivial⟩ (by show (2147483647 - (i13 + 1)).toNat < (2147483647 - i13).toNat; omega)
      ·
        refine GO.iload_n dX11_loseStation_57 rfl rfl ?_
        refine GO.iconst dX11_loseStation_58 ?_
        refine GO.callS (N := mX4_put) dX11_loseStation_59 gS_RX11_108 (t_X4_put h237 r_i13 (ir_c rfl)) rfl [] rfl rfl (Nat.le_of_ble_eq_true rfl) rfl (k_vs fun V246 h245 hF244 => ?_)
        refine GO.iinc (X := i13) (n := 1) (Y := i13 + 1) (ls1 := [some (.ref x), some (.ref p0), some (ti (i13 + 1))]) dX11_loseStation_62 rfl rfl rfl rfl ?_
        refine GO.goto (tgt := 35) dX11_loseStation_65 (by decide) ?_
        exact ih205 (i13 + 1) V246 ⟨by omega, by omega, trivial⟩ (by show (2147483647 - (i13 + 1)).toNat < (2147483647 - i13).toNat; omega)

set_option maxHeartbeats 1000000 in
theorem t_X11_carry {K : Kmap} {V : Vmap} {x : Nat} {p0 : Int} {p1 : Nat} (h_x : K x = some (0, 10)) (r_p0 : ir p0) (h_p1 : K p1 = some (0, 3)) : MC mX11_carry K V [.ref x, ti p0, .ref p1] (VS K (fun V1 => (True))) := by
  refine MC.start 5 (by decide +kernel) rfl rfl rfl (ls0 := [some (.ref x), some (ti p0), some (.ref p1), none, none, none, none, none]) rfl ?_
  refine GO.aload_n dX11_carry_0 rfl rfl ?_
  refine GO.getR h_x fl_RX11_12 rfl rfl dX11_carry_1 (fun hv2 h1 => ?_)
  refine GO.getB h1 fl_RX11_129 rfl rfl dX11_carry_4 (fun n5 hv4 h3 b6 => ?_)
  refine GO.aload_n dX11_carry_7 rfl rfl ?_
  refine GO.getI h_p1 fl_RX11_344 rfl rfl dX11_carry_8 (fun _ _ => ?_)
  refine GO.callS (N := mX4_get) dX11_carry_11 gS_RX11_253 (t_X4_get rfl h3 vi_ir) rfl [] rfl rfl (Nat.le_of_ble_eq_true rfl) rfl (k_ip fun X7 r8 h9 => ?_)
  refine GO.istore_n (ls1 := [some (.ref x), some (ti p0), some (.ref p1), some (ti X7), none, none, none, none]) dX11_carry_14 rfl rfl rfl ?_
  refine GO.aload_n dX11_carry_15 rfl rfl ?_
  refine GO.getRaw h_x fl_RX11_12 hv2 dX11_carry_16 ?_
  refine GO.aload_n dX11_carry_19 rfl rfl ?_
  refine GO.getI h_p1 fl_RX11_344 rfl rfl dX11_carry_20 (fun _ _ => ?_)
  refine GO.iload_n dX11_carry_23 rfl rfl ?_
  refine GO.callV (ci := 0) (N := mX0_beside) dX11_carry_24 (RX0, TX0, 13) rfl gV_RX11_508 h1 (t_X0_beside h1 vi_ir r8) rfl [] rfl rfl (Nat.le_of_ble_eq_true rfl) rfl (k_ip fun X12 r13 h14 => ?_)
  refine GO.istore (ls1 := [some (.ref x), some (ti p0), some (.ref p1), some (ti X7), some (ti X12), none, none, none]) dX11_carry_27 rfl rfl ?_
  refine GO.aload_n dX11_carry_29 rfl rfl ?_
  refine GO.getRaw h_x fl_RX11_12 hv2 dX11_carry_30 ?_
  refine GO.iload dX11_carry_33 rfl ?_
  refine GO.callV (ci := 0) (N := mX0_isFirm) dX11_carry_35 (RX0, TX0, 13) rfl gV_RX11_179 h1 (t_X0_isFirm h1 r13) rfl [] rfl rfl (Nat.le_of_ble_eq_true rfl) rfl (k_ip fun X17 r18 h19 => ?_)
  have hj22 : ∀ (z21 : Int), ∀ (l23 : 0 ≤ z21), ∀ (u24 : z21 ≤ 1), GO mX11_carry K V (VS K (fun V1 => (True))) K V 0 0 46 [some (.ref x), some (ti p0), some (.ref p1), some (ti X7), some (ti X12), none, none, none] [ti z21] := by
    intro z21 l23 u24
    have r25 : ir z21 := ⟨by omega, by omega⟩
    refine GO.istore (ls1 := [some (.ref x), some (ti p0), some (.ref p1), some (ti X7), some (ti X12), some (ti z21), none, none]) dX11_carry_46 rfl rfl ?_
    refine GO.iconst dX11_carry_48 ?_
    refine GO.istore (ls1 := [some (.ref x), some (ti p0), some (.ref p1), some (ti X7), some (ti X12), some (ti z21), some (ti 0), none]) dX11_carry_49 rfl rfl ?_
    refine GO.loop1 (fun i26 W => 0 ≤ i26 ∧ i26 ≤ 60 ∧ True) (fun i26 => [some (.ref x), some (ti p0), some (.ref p1), some (ti X7), some (ti X12), some (ti z21), some (ti i26), none]) (fun i26 W => (2147483647 - i26).toNat) 0 ⟨by omega, by omega, trivial⟩ rfl (fun i26 Wi26 hp316 ih315 => ?_)
    obtain ⟨l_i26, u_i26, -⟩ := hp316
    have r_i26 : ir i26 := ⟨by omega, by omega⟩
    show GO mX11_carry K V (VS K (fun V1 => (True))) K Wi26 0 0 51 [some (.ref x), some (ti p0), some (.ref p1), some (ti X7), some (ti X12), some (ti z21), some (ti i26), none] []
    refine GO.iload dX11_carry_51 rfl ?_
    refine GO.aload_n dX11_carry_53 rfl rfl ?_
    refine GO.getI h_x fl_RX11_46 rfl rfl dX11_carry_54 (fun l317 u318 => ?_)
    refine GO.icmp_ge (tgt := 116) dX11_carry_57 (by decide) r_i26 vi_ir (fun c319 => ?_) (fun c319 => ?_)
    ·
      refine GO.iload dX11_carry_116 rfl ?_
      refine GO.iconst dX11_carry_118 ?_
      refine GO.icmp_eq (tgt := 139) dX11_carry_119 (by decide) r13 (ir_c rfl) (fun c320 => ?_) (fun c320 => ?_)
      ·
        refine GO.iload dX11_carry_139 rfl ?_
        refine GO.if_eq (tgt := 149) dX11_carry_141 (by decide) r25 (fun c321 => ?_) (fun c321 => ?_)
        ·
          exact GO.retv rfl rfl dX11_carry_149 ⟨rfl, rfl, trivial⟩
        ·
          refine GO.aload_n dX11_carry_144 rfl rfl ?_
          refine GO.aload_n dX11_carry_145 rfl rfl ?_
          refine GO.callV (ci := 10) (N := mX11_loseStation) dX11_carry_146 (RX11, TX11, 20) rfl gV_RX11_519 h_x (t_X11_loseStation h_x h_p1) rfl [] rfl rfl (Nat.le_of_ble_eq_true rfl) rfl (k_vs fun V324 h323 hF322 => ?_)
          exact GO.retv rfl rfl dX11_carry_149 ⟨rfl, rfl, trivial⟩
      ·
        refine GO.aload_n dX11_carry_122 rfl rfl ?_
        refine GO.iload dX11_carry_123 rfl ?_
        refine GO.putI h_p1 fp_RX11_344 rfl (by decide +kernel) r13 (r13).1 (r13).2 dX11_carry_125 (fun V326 e325 => ?_)
        refine GO.aload_n dX11_carry_128 rfl rfl ?_
        refine GO.aload_n dX11_carry_129 rfl rfl ?_
        refine GO.getR h_x fl_RX11_12 rfl rfl dX11_carry_130 (fun hv328 h327 => ?_)
        refine GO.getI h327 fl_RX11_145 rfl rfl dX11_carry_133 (fun _ _ => ?_)
        refine GO.putI h_p1 fp_RX11_189 rfl (by decide +kernel) vi_ir (vi_ir).1 (vi_ir).2 dX11_carry_136 (fun V330 e329 => ?_)
        refine GO.iload dX11_carry_139 rfl ?_
        refine GO.if_eq (tgt := 149) dX11_carry_141 (by decide) r25 (fun c331 => ?_) (fun c331 => ?_)
        ·
          exact GO.retv rfl rfl dX11_carry_149 ⟨rfl, rfl, trivial⟩
        ·
          refine GO.aload_n dX11_carry_144 rfl rfl ?_
          refine GO.aload_n dX11_carry_145 rfl rfl ?_
          refine GO.callV (ci := 10) (N := mX11_loseStation) dX11_carry_146 (RX11, TX11, 20) rfl gV_RX11_519 h_x (t_X11_loseStation h_x h_p1) rfl [] rfl rfl (Nat.le_of_ble_eq_true rfl) rfl (k_vs fun V334 h333 hF332 => ?_)
          exact GO.retv rfl rfl dX11_carry_149 ⟨rfl, rfl, trivial⟩
    ·
      refine GO.aload_n dX11_carry_60 rfl rfl ?_
      refine GO.iload dX11_carry_61 rfl ?_
      refine GO.iconst dX11_carry_63 ?_
      refine GO.callV (ci := 10) (N := mX11_placeOf) dX11_carry_64 (RX11, TX11, 20) rfl gV_RX11_169 h_x (t_X11_placeOf h_x r_i26 (ir_c rfl)) rfl [] rfl rfl (Nat.le_of_ble_eq_true rfl) rfl (k_rp (fun h337 => ?_) (fun o335 h336 h337 => ?_))
      ·
        refine GO.astoreN (ls1 := [some (.ref x), some (ti p0), some (.ref p1), some (ti X7), some (ti X12), some (ti z21), some (ti i26), some (.null)]) dX11_carry_67 rfl rfl ?_
        refine GO.aloadN dX11_carry_69 rfl ?_
        refine GO.ifnullN (tgt := 110) dX11_carry_71 (by decide) ?_
        refine GO.iinc (X := i26) (n := 1) (Y := i26 + 1) (ls1 := [some (.ref x), some (ti p0), some (.ref p1), some (ti X7), some (ti X12), some (ti z21), some (ti (i26 + 1)), some (.null)]) dX11_carry_110 rfl rfl rfl rfl ?_
        refine GO.goto (tgt := 51) dX11_carry_113 (by decide) ?_
        refine GO.drop [true, true, true, true, true, true, true, false] rfl ?_
        exact ih315 (i26 + 1) Wi26 ⟨by omega, by omega, trivial⟩ (by show (2147483647 - (i26 + 1)).toNat < (2147483647 - i26).toNat; omega)
      ·
        refine GO.astore (ls1 := [some (.ref x), some (ti p0), some (.ref p1), some (ti X7), some (ti X12), some (ti z21), some (ti i26), some (.ref o335)]) dX11_carry_67 rfl rfl ?_
        refine GO.aload dX11_carry_69 rfl ?_
        refine GO.ifnull dX11_carry_71 ?_
        refine GO.aload dX11_carry_74 rfl ?_
        refine GO.getI h336 fl_RX11_176 rfl rfl dX11_carry_76 (fun _ _ => ?_)
        refine GO.iload_n dX11_carry_79 rfl rfl ?_
        refine GO.icmp_ne (tgt := 110) dX11_carry_80 (by decide) vi_ir r_p0 (fun c338 => ?_) (fun c338 => ?_)
        ·
          refine GO.iinc (X := i26) (n := 1) (Y := i26 + 1) (ls1 := [some (.ref x), some (ti p0), some (.ref p1), some (ti X7), some (ti X12), some (ti z21), some (ti (i26 + 1)), some (.ref o335)]) dX11_carry_110 rfl rfl rfl rfl ?_
          refine GO.goto (tgt := 51) dX11_carry_113 (by decide) ?_
          refine GO.drop [true, true, true, true, true, true, true, false] rfl ?_
          exact ih315 (i26 + 1) Wi26 ⟨by omega, by omega, trivial⟩ (by show (2147483647 - (i26 + 1)).toNat < (2147483647 - i26).toNat; omega)
        ·
          refine GO.aload dX11_carry_83 rfl ?_
          refine GO.getI h336 fl_RX11_511 rfl rfl dX11_carry_85 (fun l339 u340 => ?_)
          refine GO.if_ne (tgt := 110) dX11_carry_88 (by decide) vi_ir (fun c341 => ?_) (fun c341 => ?_)
          ·
            refine GO.iinc (X := i26) (n := 1) (Y := i26 + 1) (ls1 := [some (.ref x), some (ti p0), some (.ref p1), some (ti X7), some (ti X12), some (ti z21), some (ti (i26 + 1)), some (.ref o335)]) dX11_carry_110 rfl rfl rfl rfl ?_
            refine GO.goto (tgt := 51) dX11_carry_113 (by decide) ?_
            refine GO.drop [true, true, true, true, true, true, true, false] rfl ?_
            exact ih315 (i26 + 1) Wi26 ⟨by omega, by omega, trivial⟩ (by show (2147483647 - (i26 + 1)).toNat < (2147483647 - i26).toNat; omega)
          ·
            refine GO.aload_n dX11_carry_91 rfl rfl ?_
            refine GO.aload dX11_carry_92 rfl ?_
            refine GO.iload dX11_carry_94 rfl ?_
            refine GO.iconst dX11_carry_96 ?_
            refine GO.icmp_ne (tgt := 104) dX11_carry_97 (by decide) r13 (ir_c rfl) (fun c342 => ?_) (fun c342 => ?_)
            ·
              refine GO.iload_n dX11_carry_104 rfl rfl ?_
              refine GO.iload dX11_carry_105 rfl ?_
              refine GO.callV (ci := 10) (N := mX11_carryField) dX11_carry_107 (RX11, TX11, 20) rfl gV_RX11_515 h_x (t_X11_carryField h_x h336 r8 r25 (by omega)) rfl [] rfl rfl (Nat.le_of_ble_eq_true rfl) rfl (k_vs fun V345 h344 hF343 => ?_)
              refine GO.iinc (X := i26) (n := 1) (Y := i26 + 1) (ls1 := [some (.ref x), some (ti p0), some (.ref p1), some (ti X7), some (ti X12), some (ti z21), some (ti (i26 + 1)), some (.ref o335)]) dX11_carry_110 rfl rfl rfl rfl ?_
              refine GO.goto (tgt := 51) dX11_carry_113 (by decide) ?_
              refine GO.drop [true, true, true, true, true, true, true, false] rfl ?_
              exact ih315 (i26 + 1) V345 ⟨by omega, by omega, trivial⟩ (by show (2147483647 - (i26 + 1)).toNat < (2147483647 - i26).toNat; omega)
            ·
              refine GO.iconst dX11_carry_100 ?_
              refine GO.goto (tgt := 105) dX11_carry_101 (by decide) ?_
              refine GO.iload dX11_carry_105 rfl ?_
              refine GO.callV (ci := 10) (N := mX11_carryField) dX11_carry_107 (RX11, TX11, 20) rfl gV_RX11_515 h_x (t_X11_carryField h_x h336 (ir_c rfl) r25 (by omega)) rfl [] rfl rfl (Nat.le_of_ble_eq_true rfl) rfl (k_vs fun V348 h347 hF346 => ?_)
              refine GO.iinc (X := i26) (n := 1) (Y := i26 + 1) (ls1 := [some (.ref x), some (ti p0), some (.ref p1), some (ti X7), some (ti X12), some (ti z21), some (ti (i26 + 1)), some (.ref o335)]) dX11_carry_110 rfl rfl rfl rfl ?_
              refine GO.goto (tgt := 51) dX11_carry_113 (by decide) ?_
              refine GO.drop [true, true, true, true, true, true, true, false] rfl ?_
              exact ih315 (i26 + 1) V348 ⟨by omega, by omega, trivial⟩ (by show (2147483647 - (i26 + 1)).toNat < (2147483647 - i26).toNat; omega)
  refine GO.if_ne (tgt := 45) dX11_carry_38 (by decide) r18 (fun c349 => ?_) (fun c349 => ?_)
  ·
    refine GO.iconst dX11_carry_45 ?_
    exact hj22 0 (by omega) (by omega)
  ·
    refine GO.iconst dX11_carry_41 ?_
    refine GO.goto (tgt := 46) dX11_carry_42 (by decide) ?_
    exact hj22 1 (by omega) (by omega)

set_option maxHeartbeats 1000000 in
theorem t_X11_passStation {K : Kmap} {V : Vmap} {x : Nat} {p0 : Int} (h_x : K x = some (0, 10)) (r_p0 : ir p0) : MC mX11_passStation K V [.ref x, ti p0] (VS K (fun V1 => (True))) := by
  refine MC.start 3 (by decide +kernel) rfl rfl rfl (ls0 := [some (.ref x), some (ti p0), none, none, none]) rfl ?_
  refine GO.aload_n dX11_passStation_0 rfl rfl ?_
  refine GO.iload_n dX11_passStation_1 rfl rfl ?_
  refine GO.callV (ci := 10) (N := mX11_standingStation) dX11_passStation_2 (RX11, TX11, 20) rfl gV_RX11_195 h_x (t_X11_standingStation h_x r_p0) rfl [] rfl rfl (Nat.le_of_ble_eq_true rfl) rfl (k_rp (fun h3 => ?_) (fun o1 h2 h3 => ?_))
  ·
    refine GO.astore_nN (ls1 := [some (.ref x), some (ti p0), some (.null), none, none]) dX11_passStation_5 rfl rfl rfl ?_
    refine GO.aload_nN dX11_passStation_6 rfl rfl ?_
    refine GO.ifnonnullN dX11_passStation_7 ?_
    exact GO.retv rfl rfl dX11_passStation_10 ⟨rfl, rfl, trivial⟩
  ·
    refine GO.astore_n (ls1 := [some (.ref x), some (ti p0), some (.ref o1), none, none]) dX11_passStation_5 rfl rfl rfl ?_
    refine GO.aload_n dX11_passStation_6 rfl rfl ?_
    refine GO.ifnonnull (tgt := 11) dX11_passStation_7 (by decide) ?_
    refine GO.aload_n dX11_passStation_11 rfl rfl ?_
    refine GO.getR h_x fl_RX11_12 rfl rfl dX11_passStation_12 (fun hv5 h4 => ?_)
    refine GO.aload_n dX11_passStation_15 rfl rfl ?_
    refine GO.getRaw h_x fl_RX11_12 hv5 dX11_passStation_16 ?_
    refine GO.getI h4 fl_RX11_145 rfl rfl dX11_passStation_19 (fun _ _ => ?_)
    refine GO.callV (ci := 0) (N := mX0_isDark) dX11_passStation_22 (RX0, TX0, 13) rfl gV_RX11_381 h4 (t_X0_isDark h4 vi_ir) rfl [] rfl rfl (Nat.le_of_ble_eq_true rfl) rfl (k_ip fun X8 r9 h10 => ?_)
    refine GO.istore_n (ls1 := [some (.ref x), some (ti p0), some (.ref o1), some (ti X8), none]) dX11_passStation_25 rfl rfl rfl ?_
    refine GO.aload_n dX11_passStation_26 rfl rfl ?_
    refine GO.aload_n dX11_passStation_27 rfl rfl ?_
    refine GO.aload_n dX11_passStation_28 rfl rfl ?_
    refine GO.getI h2 fl_RX11_183 rfl rfl dX11_passStation_29 (fun _ _ => ?_)
    refine GO.bipush dX11_passStation_32 rfl ?_
    refine GO.iadd dX11_passStation_34 ?_
    refine GO.norm (fun z11 r12 _ => ?_)
    refine GO.bipush dX11_passStation_35 rfl ?_
    refine GO.idiv dX11_passStation_37 (ir_c rfl) (by omega) ?_
    refine GO.iload_n dX11_passStation_38 rfl rfl ?_
    have hj15 : ∀ (z14 : Int), ∀ (l16 : 1 ≤ z14), ∀ (u17 : z14 ≤ 2), GO mX11_passStation K V (VS K (fun V1 => (True))) K V 0 0 47 [some (.ref x), some (ti p0), some (.ref o1), some (ti X8), none] [ti z14, ti (wdiv z11 10), .ref o1, .ref x] := by
      intro z14 l16 u17
      have r18 : ir z14 := ⟨by omega, by omega⟩
      refine GO.imul dX11_passStation_47 ?_
      refine GO.norm (fun z19 r20 _ => ?_)
      refine GO.callV (ci := 10) (N := mX11_burn) dX11_passStation_48 (RX11, TX11, 20) rfl gV_RX11_487 h_x (t_X11_burn h_x h2 r20) rfl [] rfl rfl (Nat.le_of_ble_eq_true rfl) rfl (k_vs fun V23 h22 hF21 => ?_)
      refine GO.aload_n dX11_passStation_51 rfl rfl ?_
      refine GO.getI h2 fl_RX11_183 rfl rfl dX11_passStation_52 (fun _ _ => ?_)
      refine GO.bipush dX11_passStation_55 rfl ?_
      refine GO.iadd dX11_passStation_57 ?_
      refine GO.norm (fun z24 r25 _ => ?_)
      refine GO.bipush dX11_passStation_58 rfl ?_
      refine GO.idiv dX11_passStation_60 (ir_c rfl) (by omega) ?_
      refine GO.name (fun z26 hz27 => ?_)
      have r28 : ir z26 := hz27 ▸ wdiv_ir
      refine GO.istore (ls1 := [some (.ref x), some (ti p0), some (.ref o1), some (ti X8), some (ti z26)]) dX11_passStation_61 rfl rfl ?_
      refine GO.aload_n dX11_passStation_63 rfl rfl ?_
      refine GO.getNB h2 fl_RX11_491 rfl rfl dX11_passStation_64 (fun hv30 => ?_) (fun n31 hv30 h29 b32 => ?_)
      ·
        refine GO.iload_n dX11_passStation_67 rfl rfl ?_
        have hj35 : ∀ (z34 : Int), ∀ (l36 : 0 ≤ z34), ∀ (u37 : z34 ≤ 3), GO mX11_passStation K V (VS K (fun V1 => (True))) K V23 0 0 76 [some (.ref x), some (ti p0), some (.ref o1), some (ti X8), some (ti z26)] [ti z34, .null] := by
          intro z34 l36 u37
          have r38 : ir z34 := ⟨by omega, by omega⟩
          refine GO.iload dX11_passStation_76 rfl ?_
          refine GO.callS (N := mX4_add_n) dX11_passStation_78 gS_RX11_476 (t_X4_add_n r38 r28) rfl [] rfl rfl (Nat.le_of_ble_eq_true rfl) rfl (k_vs fun V41 h40 hF39 => ?_)
          refine GO.aload_n dX11_passStation_81 rfl rfl ?_
          refine GO.iconst dX11_passStation_82 ?_
          refine GO.iload dX11_passStation_83 rfl ?_
          refine GO.callV (ci := 10) (N := mX11_tally) dX11_passStation_85 (RX11, TX11, 20) rfl gV_RX11_192 h_x (t_X11_tally h_x (ir_c rfl) r28) rfl [] rfl rfl (Nat.le_of_ble_eq_true rfl) rfl (k_vs fun V44 h43 hF42 => ?_)
          refine GO.aload_n dX11_passStation_88 rfl rfl ?_
          refine GO.getRaw h_x fl_RX11_12 (Eq.trans (hF42 _ _ _ h_x h_x (by decide +kernel)) (Eq.trans (hF39 _ _ _ h_x h_x (by decide +kernel)) (Eq.trans (hF21 _ _ _ h_x h_x (by decide +kernel)) hv5))) dX11_passStation_89 ?_
          refine GO.aload_n dX11_passStation_92 rfl rfl ?_
          refine GO.getI h2 fl_RX11_344 rfl rfl dX11_passStation_93 (fun _ _ => ?_)
          refine GO.aload_n dX11_passStation_96 rfl rfl ?_
          refine GO.getRaw h_x fl_RX11_12 (Eq.trans (hF42 _ _ _ h_x h_x (by decide +kernel)) (Eq.trans (hF39 _ _ _ h_x h_x (by decide +kernel)) (Eq.trans (hF21 _ _ _ h_x h_x (by decide +kernel)) hv5))) dX11_passStation_97 ?_
          refine GO.getI h4 fl_RX11_145 rfl rfl dX11_passStation_100 (fun _ _ => ?_)
          refine GO.aload_n dX11_passStation_103 rfl rfl ?_
          refine GO.getI h2 fl_RX11_189 rfl rfl dX11_passStation_104 (fun _ _ => ?_)
          refine GO.isub dX11_passStation_107 ?_
          refine GO.norm (fun z49 r50 _ => ?_)
          refine GO.callV (ci := 0) (N := mX0_carries) dX11_passStation_108 (RX0, TX0, 13) rfl gV_RX11_494 h4 (t_X0_carries h4 vi_ir r50) rfl [] rfl rfl (Nat.le_of_ble_eq_true rfl) rfl (k_ip fun X51 r52 h53 => ?_)
          refine GO.if_eq (tgt := 120) dX11_passStation_111 (by decide) r52 (fun c54 => ?_) (fun c54 => ?_)
          ·
            exact GO.retv rfl rfl dX11_passStation_120 ⟨rfl, rfl, trivial⟩
          ·
            refine GO.aload_n dX11_passStation_114 rfl rfl ?_
            refine GO.iload_n dX11_passStation_115 rfl rfl ?_
            refine GO.aload_n dX11_passStation_116 rfl rfl ?_
            refine GO.callV (ci := 10) (N := mX11_carry) dX11_passStation_117 (RX11, TX11, 20) rfl gV_RX11_497 h_x (t_X11_carry h_x r_p0 h2) rfl [] rfl rfl (Nat.le_of_ble_eq_true rfl) rfl (k_vs fun V57 h56 hF55 => ?_)
            exact GO.retv rfl rfl dX11_passStation_120 ⟨rfl, rfl, trivial⟩
        refine GO.if_eq (tgt := 75) dX11_passStation_68 (by decide) r9 (fun c58 => ?_) (fun c58 => ?_)
        ·
          refine GO.iconst dX11_passStation_75 ?_
          exact hj35 0 (by omega) (by omega)
        ·
          refine GO.iconst dX11_passStation_71 ?_
          refine GO.goto (tgt := 76) dX11_passStation_72 (by decide) ?_
          exact hj35 3 (by omega) (by omega)
      ·
        refine GO.iload_n dX11_passStation_67 rfl rfl ?_
        have hj61 : ∀ (z60 : Int), ∀ (l62 : 0 ≤ z60), ∀ (u63 : z60 ≤ 3), GO mX11_passStation K V (VS K (fun V1 => (True))) K V23 0 0 76 [some (.ref x), some (ti p0), some (.ref o1), some (ti X8), some (ti z26)] [ti z60, .ref (vq V23 o1 13)] := by
          intro z60 l62 u63
          have r64 : ir z60 := ⟨by omega, by omega⟩
          refine GO.iload dX11_passStation_76 rfl ?_
          refine GO.callS (N := mX4_add) dX11_passStation_78 gS_RX11_476 (t_X4_add h29 r64 r28) rfl [] rfl rfl (Nat.le_of_ble_eq_true rfl) rfl (k_vs fun V67 h66 hF65 => ?_)
          refine GO.aload_n dX11_passStation_81 rfl rfl ?_
          refine GO.iconst dX11_passStation_82 ?_
          refine GO.iload dX11_passStation_83 rfl ?_
          refine GO.callV (ci := 10) (N := mX11_tally) dX11_passStation_85 (RX11, TX11, 20) rfl gV_RX11_192 h_x (t_X11_tally h_x (ir_c rfl) r28) rfl [] rfl rfl (Nat.le_of_ble_eq_true rfl) rfl (k_vs fun V70 h69 hF68 => ?_)
          refine GO.aload_n dX11_passStation_88 rfl rfl ?_
          refine GO.getRaw h_x fl_RX11_12 (Eq.trans (hF68 _ _ _ h_x h_x (by decide +kernel)) (Eq.trans (hF65 _ _ _ h_x h_x (by decide +kernel)) (Eq.trans (hF21 _ _ _ h_x h_x (by decide +kernel)) hv5))) dX11_passStation_89 ?_
          refine GO.aload_n dX11_passStation_92 rfl rfl ?_
          refine GO.getI h2 fl_RX11_344 rfl rfl dX11_passStation_93 (fun _ _ => ?_)
          refine GO.aload_n dX11_passStation_96 rfl rfl ?_
          refine GO.getRaw h_x fl_RX11_12 (Eq.trans (hF68 _ _ _ h_x h_x (by decide +kernel)) (Eq.trans (hF65 _ _ _ h_x h_x (by decide +kernel)) (Eq.trans (hF21 _ _ _ h_x h_x (by decide +kernel)) hv5))) dX11_passStation_97 ?_
          refine GO.getI h4 fl_RX11_145 rfl rfl dX11_passStation_100 (fun _ _ => ?_)
          refine GO.aload_n dX11_passStation_103 rfl rfl ?_
          refine GO.getI h2 fl_RX11_189 rfl rfl dX11_passStation_104 (fun _ _ => ?_)
          refine GO.isub dX11_passStation_107 ?_
          refine GO.norm (fun z75 r76 _ => ?_)
          refine GO.callV (ci := 0) (N := mX0_carries) dX11_passStation_108 (RX0, TX0, 13) rfl gV_RX11_494 h4 (t_X0_carries h4 vi_ir r76) rfl [] rfl rfl (Nat.le_of_ble_eq_true rfl) rfl (k_ip fun X77 r78 h79 => ?_)
          refine GO.if_eq (tgt := 120) dX11_passStation_111 (by decide) r78 (fun c80 => ?_) (fun c80 => ?_)
          ·
            exact GO.retv rfl rfl dX11_passStation_120 ⟨rfl, rfl, trivial⟩
          ·
            refine GO.aload_n dX11_passStation_114 rfl rfl ?_
            refine GO.iload_n dX11_passStation_115 rfl rfl ?_
            refine GO.aload_n dX11_passStation_116 rfl rfl ?_
            refine GO.callV (ci := 10) (N := mX11_carry) dX11_passStation_117 (RX11, TX11, 20) rfl gV_RX11_497 h_x (t_X11_carry h_x r_p0 h2) rfl [] rfl rfl (Nat.le_of_ble_eq_true rfl) rfl (k_vs fun V83 h82 hF81 => ?_)
            exact GO.retv rfl rfl dX11_passStation_120 ⟨rfl, rfl, trivial⟩
        refine GO.if_eq (tgt := 75) dX11_passStation_68 (by decide) r9 (fun c84 => ?_) (fun c84 => ?_)
        ·
          refine GO.iconst dX11_passStation_75 ?_
          exact hj61 0 (by omega) (by omega)
        ·
          refine GO.iconst dX11_passStation_71 ?_
          refine GO.goto (tgt := 76) dX11_passStation_72 (by decide) ?_
          exact hj61 3 (by omega) (by omega)
    refine GO.if_eq (tgt := 46) dX11_passStation_39 (by decide) r9 (fun c85 => ?_) (fun c85 => ?_)
    ·
      refine GO.iconst dX11_passStation_46 ?_
      exact hj15 1 (by omega) (by omega)
    ·
      refine GO.iconst dX11_passStation_42 ?_
      refine GO.goto (tgt := 47) dX11_passStation_43 (by decide) ?_
      exact hj15 2 (by omega) (by omega)

set_option maxHeartbeats 1000000 in
theorem t_X11_unload {K : Kmap} {V : Vmap} {x : Nat} {p0 : Nat} (h_x : K x = some (0, 10)) (h_p0 : K p0 = some (0, 6)) : MC mX11_unload K V [.ref x, .ref p0] (VS K (fun V1 => (True))) := by
  refine MC.start 3 (by decide +kernel) rfl rfl rfl (ls0 := [some (.ref x), some (.ref p0), none, none, none]) rfl ?_
  refine GO.aload_n dX11_unload_0 rfl rfl ?_
  refine GO.aload_n dX11_unload_1 rfl rfl ?_
  refine GO.getI h_p0 fl_RX11_549 rfl rfl dX11_unload_2 (fun _ _ => ?_)
  refine GO.callV (ci := 10) (N := mX11_standingStation) dX11_unload_5 (RX11, TX11, 20) rfl gV_RX11_195 h_x (t_X11_standingStation h_x vi_ir) rfl [] rfl rfl (Nat.le_of_ble_eq_true rfl) rfl (k_rp (fun h3 => ?_) (fun o1 h2 h3 => ?_))
  ·
    refine GO.astore_nN (ls1 := [some (.ref x), some (.ref p0), some (.null), none, none]) dX11_unload_8 rfl rfl rfl ?_
    refine GO.aload_nN dX11_unload_9 rfl rfl ?_
    refine GO.ifnullN (tgt := 27) dX11_unload_10 (by decide) ?_
    exact GO.retv rfl rfl dX11_unload_27 ⟨rfl, rfl, trivial⟩
  ·
    refine GO.astore_n (ls1 := [some (.ref x), some (.ref p0), some (.ref o1), none, none]) dX11_unload_8 rfl rfl rfl ?_
    refine GO.aload_n dX11_unload_9 rfl rfl ?_
    refine GO.ifnull dX11_unload_10 ?_
    refine GO.aload_n dX11_unload_13 rfl rfl ?_
    refine GO.getR h_x fl_RX11_12 rfl rfl dX11_unload_14 (fun hv5 h4 => ?_)
    refine GO.aload_n dX11_unload_17 rfl rfl ?_
    refine GO.getI h2 fl_RX11_344 rfl rfl dX11_unload_18 (fun _ _ => ?_)
    refine GO.callV (ci := 0) (N := mX0_isNearSea) dX11_unload_21 (RX0, TX0, 13) rfl gV_RX11_413 h4 (t_X0_isNearSea h4 vi_ir) rfl [] rfl rfl (Nat.le_of_ble_eq_true rfl) rfl (k_ip fun X6 r7 h8 => ?_)
    refine GO.if_ne (tgt := 28) dX11_unload_24 (by decide) r7 (fun c9 => ?_) (fun c9 => ?_)
    ·
      refine GO.aload_n dX11_unload_28 rfl rfl ?_
      refine GO.dup dX11_unload_29 rfl ?_
      refine GO.getI h2 fl_RX11_186 rfl rfl dX11_unload_30 (fun _ _ => ?_)
      refine GO.aload_n dX11_unload_33 rfl rfl ?_
      refine GO.getI h_p0 fl_RX11_552 rfl rfl dX11_unload_34 (fun _ _ => ?_)
      refine GO.iadd dX11_unload_37 ?_
      refine GO.norm (fun z10 r11 _ => ?_)
      refine GO.putI h2 fp_RX11_186 rfl (by decide +kernel) r11 (r11).1 (r11).2 dX11_unload_38 (fun V13 e12 => ?_)
      refine GO.aload_n dX11_unload_41 rfl rfl ?_
      refine GO.iconst dX11_unload_42 ?_
      refine GO.putI h_p0 fp_RX11_552 rfl (by decide +kernel) (ir_c rfl) (by decide) (by decide) dX11_unload_43 (fun V15 e14 => ?_)
      refine GO.iconst dX11_unload_46 ?_
      refine GO.istore_n (ls1 := [some (.ref x), some (.ref p0), some (.ref o1), some (ti 3), none]) dX11_unload_47 rfl rfl rfl ?_
      refine GO.loop1 (fun i16 W => (-1) ≤ i16 ∧ i16 ≤ 3 ∧ True) (fun i16 => [some (.ref x), some (.ref p0), some (.ref o1), some (ti i16), none]) (fun i16 W => (i16 + 2147483648).toNat) 3 ⟨by omega, by omega, trivial⟩ rfl (fun i16 Wi16 hp253 ih252 => ?_)
      obtain ⟨l_i16, u_i16, -⟩ := hp253
      have r_i16 : ir i16 := ⟨by omega, by omega⟩
      show GO mX11_unload K V (VS K (fun V1 => (True))) K Wi16 0 0 48 [some (.ref x), some (.ref p0), some (.ref o1), some (ti i16), none] []
      refine GO.iload_n dX11_unload_48 rfl rfl ?_
      refine GO.if_lt (tgt := 102) dX11_unload_49 (by decide) r_i16 (fun c254 => ?_) (fun c254 => ?_)
      ·
        exact GO.retv rfl rfl dX11_unload_102 ⟨rfl, rfl, trivial⟩
      ·
        refine GO.aload_n dX11_unload_52 rfl rfl ?_
        refine GO.getI h_p0 fl_RX11_407 rfl rfl dX11_unload_53 (fun _ _ => ?_)
        refine GO.aload_n dX11_unload_56 rfl rfl ?_
        refine GO.getI h_p0 fl_RX11_553 rfl rfl dX11_unload_57 (fun _ _ => ?_)
        refine GO.isub dX11_unload_60 ?_
        refine GO.norm (fun z255 r256 _ => ?_)
        refine GO.aload_n dX11_unload_61 rfl rfl ?_
        refine GO.getNB h2 fl_RX11_491 rfl rfl dX11_unload_62 (fun hv258 => ?_) (fun n259 hv258 h257 b260 => ?_)
        ·
          refine GO.iload_n dX11_unload_65 rfl rfl ?_
          refine GO.callS (N := mX4_get_n) dX11_unload_66 gS_RX11_253 (t_X4_get_n r_i16) rfl [ti z255] rfl rfl (Nat.le_of_ble_eq_true rfl) rfl (k_ip fun X261 r262 h263 => ?_)
          refine GO.callS (N := mJ9_min_7cf53) dX11_unload_69 gS_RX11_479 (t_J9_min_7cf53 r256 r262) rfl [] rfl rfl (Nat.le_of_ble_eq_true rfl) rfl (k_ip fun X264 r265 h266 => ?_)
          have q267 : -2147483648 ≤ X261 ∧ X261 ≤ 2147483647 := r262
          have q268 : -2147483648 ≤ X264 ∧ X264 ≤ 2147483647 := r265
          have q269 : -2147483648 ≤ z255 ∧ z255 ≤ 2147483647 := r256
          refine GO.istore (ls1 := [some (.ref x), some (.ref p0), some (.ref o1), some (ti i16), some (ti X264)]) dX11_unload_72 rfl rfl ?_
          refine GO.aload_n dX11_unload_74 rfl rfl ?_
          refine GO.getRaw h2 fl_RX11_491 hv258 dX11_unload_75 ?_
          refine GO.iload_n dX11_unload_78 rfl rfl ?_
          refine GO.iload dX11_unload_79 rfl ?_
          refine GO.ineg dX11_unload_81 ?_
          refine GO.norm (fun z272 r273 _ => ?_)
          refine GO.callS (N := mX4_add_n) dX11_unload_82 gS_RX11_476 (t_X4_add_n r_i16 r273) rfl [] rfl rfl (Nat.le_of_ble_eq_true rfl) rfl (k_vs fun V276 h275 hF274 => ?_)
          refine GO.aload_n dX11_unload_85 rfl rfl ?_
          refine GO.dup dX11_unload_86 rfl ?_
          refine GO.getI h_p0 fl_RX11_553 rfl rfl dX11_unload_87 (fun _ _ => ?_)
          refine GO.iload dX11_unload_90 rfl ?_
          refine GO.iadd dX11_unload_92 ?_
          refine GO.norm (fun z277 r278 _ => ?_)
          refine GO.putI h_p0 fp_RX11_553 rfl (by decide +kernel) r278 (r278).1 (r278).2 dX11_unload_93 (fun V280 e279 => ?_)
          refine GO.iinc (X := i16) (n := (-1)) (Y := i16 + (-1)) (ls1 := [some (.ref x), some (.ref p0), some (.ref o1), some (ti (i16 + (-1))), some (ti X264)]) dX11_unload_96 rfl rfl rfl rfl ?_
          refine GO.goto (tgt := 48) dX11_unload_99 (by decide) ?_
          refine GO.drop [true, true, true, true, false] rfl ?_
          exact ih252 (i16 + (-1)) V280 ⟨by omega, by omega, trivial⟩ (by show ((i16 + (-1)) + 2147483648).toNat < (i16 + 2147483648).toNat; omega)
        ·
          refine GO.iload_n dX11_unload_65 rfl rfl ?_
          refine GO.callS (N := mX4_get) dX11_unload_66 gS_RX11_253 (t_X4_get rfl h257 r_i16) rfl [ti z255] rfl rfl (Nat.le_of_ble_eq_true rfl) rfl (k_ip fun X281 r282 h283 => ?_)
          refine GO.callS (N := mJ9_min_7cf53) dX11_unload_69 gS_RX11_479 (t_J9_min_7cf53 r256 r282) rfl [] rfl rfl (Nat.le_of_ble_eq_true rfl) rfl (k_ip fun X284 r285 h286 => ?_)
          have q287 : -2147483648 ≤ X281 ∧ X281 ≤ 2147483647 := r282
          have q288 : -2147483648 ≤ X284 ∧ X284 ≤ 2147483647 := r285
          have q289 : -2147483648 ≤ z255 ∧ z255 ≤ 2147483647 := r256
          refine GO.istore (ls1 := [some (.ref x), some (.ref p0), some (.ref o1), some (ti i16), some (ti X284)]) dX11_unload_72 rfl rfl ?_
          refine GO.aload_n dX11_unload_74 rfl rfl ?_
          refine GO.getRaw h2 fl_RX11_491 hv258 dX11_unload_75 ?_
          refine GO.iload_n dX11_unload_78 rfl rfl ?_
          refine GO.iload dX11_unload_79 rfl ?_
          refine GO.ineg dX11_unload_81 ?_
          refine GO.norm (fun z292 r293 _ => ?_)
          refine GO.callS (N := mX4_add) dX11_unload_82 gS_RX11_476 (t_X4_add h257 r_i16 r293) rfl [] rfl rfl (Nat.le_of_ble_eq_true rfl) rfl (k_vs fun V296 h295 hF294 => ?_)
          refine GO.aload_n dX11_unload_85 rfl rfl ?_
          refine GO.dup dX11_unload_86 rfl ?_
          refine GO.getI h_p0 fl_RX11_553 rfl rfl dX11_unload_87 (fun _ _ => ?_)
          refine GO.iload dX11_unload_90 rfl ?_
          refine GO.iadd dX11_unload_92 ?_
          refine GO.norm (fun z297 r298 _ => ?_)
          refine GO.putI h_p0 fp_RX11_553 rfl (by decide +kernel) r298 (r298).1 (r298).2 dX11_unload_93 (fun V300 e299 => ?_)
          refine GO.iinc (X := i16) (n := (-1)) (Y := i16 + (-1)) (ls1 := [some (.ref x), some (.ref p0), some (.ref o1), some (ti (i16 + (-1))), some (ti X284)]) dX11_unload_96 rfl rfl rfl rfl ?_
          refine GO.goto (tgt := 48) dX11_unload_99 (by decide) ?_
          refine GO.drop [true, true, true, true, false] rfl ?_
          exact ih252 (i16 + (-1)) V300 ⟨by omega, by omega, trivial⟩ (by show ((i16 + (-1)) + 2147483648).toNat < (i16 + 2147483648).toNat; omega)
    ·
      exact GO.retv rfl rfl dX11_unload_27 ⟨rfl, rfl, trivial⟩

set_option maxHeartbeats 1000000 in
theorem t_X11_meetIce {K : Kmap} {V : Vmap} {x : Nat} {p0 : Nat} (h_x : K x = some (0, 10)) (h_p0 : K p0 = some (0, 6)) : MC mX11_meetIce K V [.ref x, .ref p0] (VS K (fun V1 => (True))) := by
  refine MC.start 0 (by decide +kernel) rfl rfl rfl (ls0 := [some (.ref x), some (.ref p0)]) rfl ?_
  refine GO.aload_n dX11_meetIce_0 rfl rfl ?_
  refine GO.getR h_x fl_RX11_12 rfl rfl dX11_meetIce_1 (fun hv2 h1 => ?_)
  refine GO.aload_n dX11_meetIce_4 rfl rfl ?_
  refine GO.getI h_p0 fl_RX11_531 rfl rfl dX11_meetIce_5 (fun _ _ => ?_)
  refine GO.aload_n dX11_meetIce_8 rfl rfl ?_
  refine GO.getRaw h_x fl_RX11_12 hv2 dX11_meetIce_9 ?_
  refine GO.getI h1 fl_RX11_145 rfl rfl dX11_meetIce_12 (fun _ _ => ?_)
  refine GO.callV (ci := 0) (N := mX0_coverOn) dX11_meetIce_15 (RX0, TX0, 13) rfl gV_RX11_534 h1 (t_X0_coverOn h1 vi_ir vi_ir) rfl [] rfl rfl (Nat.le_of_ble_eq_true rfl) rfl (k_ip fun X5 r6 h7 => ?_)
  refine GO.aload_n dX11_meetIce_18 rfl rfl ?_
  refine GO.getI h_p0 fl_RX11_537 rfl rfl dX11_meetIce_19 (fun _ _ => ?_)
  refine GO.icmp_gt (tgt := 42) dX11_meetIce_22 (by decide) r6 vi_ir (fun c8 => ?_) (fun c8 => ?_)
  ·
    refine GO.aload_n dX11_meetIce_42 rfl rfl ?_
    refine GO.iconst dX11_meetIce_43 ?_
    refine GO.putI h_p0 fp_RX11_410 rfl (by decide +kernel) (ir_c rfl) (by decide) (by decide) dX11_meetIce_44 (fun V10 e9 => ?_)
    refine GO.aload_n dX11_meetIce_47 rfl rfl ?_
    refine GO.dup dX11_meetIce_48 rfl ?_
    refine GO.getI h_p0 fl_RX11_546 rfl rfl dX11_meetIce_49 (fun _ _ => ?_)
    refine GO.iconst dX11_meetIce_52 ?_
    refine GO.iadd dX11_meetIce_53 ?_
    refine GO.norm (fun z11 r12 _ => ?_)
    refine GO.putI h_p0 fp_RX11_546 rfl (by decide +kernel) r12 (r12).1 (r12).2 dX11_meetIce_54 (fun V14 e13 => ?_)
    refine GO.aload_n dX11_meetIce_57 rfl rfl ?_
    refine GO.getI h_p0 fl_RX11_546 rfl rfl dX11_meetIce_58 (fun _ _ => ?_)
    refine GO.bipush dX11_meetIce_61 rfl ?_
    refine GO.icmp_lt (tgt := 77) dX11_meetIce_63 (by decide) vi_ir (ir_c rfl) (fun c15 => ?_) (fun c15 => ?_)
    ·
      exact GO.retv rfl rfl dX11_meetIce_77 ⟨rfl, rfl, trivial⟩
    ·
      refine GO.aload_n dX11_meetIce_66 rfl rfl ?_
      refine GO.aload_n dX11_meetIce_67 rfl rfl ?_
      refine GO.getRaw h_x fl_RX11_12 (Eq.trans (uq_ne e13 (Or.inl (K_ne h_x h_p0 (by decide)))) (Eq.trans (uq_ne e9 (Or.inl (K_ne h_x h_p0 (by decide)))) hv2)) dX11_meetIce_68 ?_
      refine GO.getI h1 fl_RX11_145 rfl rfl dX11_meetIce_71 (fun _ _ => ?_)
      refine GO.callV (ci := 6) (N := mX7_turnBack) dX11_meetIce_74 (RX7, TX7, 11) rfl gV_RX11_543 h_p0 (t_X7_turnBack h_p0 vi_ir) rfl [] rfl rfl (Nat.le_of_ble_eq_true rfl) rfl (k_vs fun V20 h19 hF18 => ?_)
      exact GO.retv rfl rfl dX11_meetIce_77 ⟨rfl, rfl, trivial⟩
  ·
    refine GO.aload_n dX11_meetIce_25 rfl rfl ?_
    refine GO.aload_n dX11_meetIce_26 rfl rfl ?_
    refine GO.callV (ci := 10) (N := mX11_unload) dX11_meetIce_27 (RX11, TX11, 20) rfl gV_RX11_540 h_x (t_X11_unload h_x h_p0) rfl [] rfl rfl (Nat.le_of_ble_eq_true rfl) rfl (k_vs fun V23 h22 hF21 => ?_)
    refine GO.aload_n dX11_meetIce_30 rfl rfl ?_
    refine GO.aload_n dX11_meetIce_31 rfl rfl ?_
    refine GO.getRaw h_x fl_RX11_12 (Eq.trans (hF21 _ _ _ h_x h_x (by decide +kernel)) hv2) dX11_meetIce_32 ?_
    refine GO.getI h1 fl_RX11_145 rfl rfl dX11_meetIce_35 (fun _ _ => ?_)
    refine GO.callV (ci := 6) (N := mX7_turnBack) dX11_meetIce_38 (RX7, TX7, 11) rfl gV_RX11_543 h_p0 (t_X7_turnBack h_p0 vi_ir) rfl [] rfl rfl (Nat.le_of_ble_eq_true rfl) rfl (k_vs fun V28 h27 hF26 => ?_)
    exact GO.retv rfl rfl dX11_meetIce_41 ⟨rfl, rfl, trivial⟩

set_option maxHeartbeats 1000000 in
theorem t_X11_comeHome {K : Kmap} {V : Vmap} {x : Nat} {p0 : Nat} (h_x : K x = some (0, 10)) (h_p0 : K p0 = some (0, 6)) : MC mX11_comeHome K V [.ref x, .ref p0] (VS K (fun V1 => (True))) := by
  refine MC.start 0 (by decide +kernel) rfl rfl rfl (ls0 := [some (.ref x), some (.ref p0)]) rfl ?_
  refine GO.aload_n dX11_comeHome_0 rfl rfl ?_
  refine GO.iconst dX11_comeHome_1 ?_
  refine GO.aload_n dX11_comeHome_2 rfl rfl ?_
  refine GO.getI h_p0 fl_RX11_552 rfl rfl dX11_comeHome_3 (fun _ _ => ?_)
  refine GO.callV (ci := 10) (N := mX11_tally) dX11_comeHome_6 (RX11, TX11, 20) rfl gV_RX11_192 h_x (t_X11_tally h_x (ir_c rfl) vi_ir) rfl [] rfl rfl (Nat.le_of_ble_eq_true rfl) rfl (k_vs fun V3 h2 hF1 => ?_)
  refine GO.aload_n dX11_comeHome_9 rfl rfl ?_
  refine GO.bipush dX11_comeHome_10 rfl ?_
  refine GO.aload_n dX11_comeHome_12 rfl rfl ?_
  refine GO.getI h_p0 fl_RX11_553 rfl rfl dX11_comeHome_13 (fun _ _ => ?_)
  refine GO.callV (ci := 10) (N := mX11_tally) dX11_comeHome_16 (RX11, TX11, 20) rfl gV_RX11_192 h_x (t_X11_tally h_x (ir_c rfl) vi_ir) rfl [] rfl rfl (Nat.le_of_ble_eq_true rfl) rfl (k_vs fun V6 h5 hF4 => ?_)
  refine GO.aload_n dX11_comeHome_19 rfl rfl ?_
  refine GO.iconst dX11_comeHome_20 ?_
  refine GO.putI h_p0 fp_RX11_552 rfl (by decide +kernel) (ir_c rfl) (by decide) (by decide) dX11_comeHome_21 (fun V8 e7 => ?_)
  refine GO.aload_n dX11_comeHome_24 rfl rfl ?_
  refine GO.iconst dX11_comeHome_25 ?_
  refine GO.putI h_p0 fp_RX11_553 rfl (by decide +kernel) (ir_c rfl) (by decide) (by decide) dX11_comeHome_26 (fun V10 e9 => ?_)
  refine GO.aload_n dX11_comeHome_29 rfl rfl ?_
  refine GO.iconst dX11_comeHome_30 ?_
  refine GO.putI h_p0 fp_RX11_410 rfl (by decide +kernel) (ir_c rfl) (by decide) (by decide) dX11_comeHome_31 (fun V12 e11 => ?_)
  exact GO.retv rfl rfl dX11_comeHome_34 ⟨rfl, rfl, trivial⟩

set_option maxHeartbeats 1000000 in
theorem t_X11_passShip {K : Kmap} {V : Vmap} {x : Nat} {p0 : Nat} (h_x : K x = some (0, 10)) (h_p0 : K p0 = some (0, 6)) : MC mX11_passShip K V [.ref x, .ref p0] (VS K (fun V1 => (True))) := by
  refine MC.start 0 (by decide +kernel) rfl rfl rfl (ls0 := [some (.ref x), some (.ref p0)]) rfl ?_
  refine GO.aload_n dX11_passShip_0 rfl rfl ?_
  refine GO.ifnonnull (tgt := 5) dX11_passShip_1 (by decide) ?_
  refine GO.aload_n dX11_passShip_5 rfl rfl ?_
  refine GO.getI h_p0 fl_RX11_410 rfl rfl dX11_passShip_6 (fun _ _ => ?_)
  refine GO.iconst dX11_passShip_9 ?_
  refine GO.icmp_eq (tgt := 35) dX11_passShip_10 (by decide) vi_ir (ir_c rfl) (fun c1 => ?_) (fun c1 => ?_)
  ·
    refine GO.aload_n dX11_passShip_35 rfl rfl ?_
    refine GO.aload_n dX11_passShip_36 rfl rfl ?_
    refine GO.callV (ci := 10) (N := mX11_meetIce) dX11_passShip_37 (RX11, TX11, 20) rfl gV_RX11_525 h_x (t_X11_meetIce h_x h_p0) rfl [] rfl rfl (Nat.le_of_ble_eq_true rfl) rfl (k_vs fun V4 h3 hF2 => ?_)
    refine GO.goto (tgt := 70) dX11_passShip_40 (by decide) ?_
    exact GO.retv rfl rfl dX11_passShip_70 ⟨rfl, rfl, trivial⟩
  ·
    refine GO.aload_n dX11_passShip_13 rfl rfl ?_
    refine GO.getI h_p0 fl_RX11_410 rfl rfl dX11_passShip_14 (fun _ _ => ?_)
    refine GO.iconst dX11_passShip_17 ?_
    have hj12 : GO mX11_passShip K V (VS K (fun V1 => (True))) K V 0 0 43 [some (.ref x), some (.ref p0)] [] := by
      skip
      refine GO.aload_n dX11_passShip_43 rfl rfl ?_
      refine GO.getI h_p0 fl_RX11_410 rfl rfl dX11_passShip_44 (fun _ _ => ?_)
      refine GO.iconst dX11_passShip_47 ?_
      refine GO.icmp_ne (tgt := 70) dX11_passShip_48 (by decide) vi_ir (ir_c rfl) (fun c13 => ?_) (fun c13 => ?_)
      ·
        exact GO.retv rfl rfl dX11_passShip_70 ⟨rfl, rfl, trivial⟩
      ·
        refine GO.aload_n dX11_passShip_51 rfl rfl ?_
        refine GO.getI h_p0 fl_RX11_522 rfl rfl dX11_passShip_52 (fun _ _ => ?_)
        refine GO.aload_n dX11_passShip_55 rfl rfl ?_
        refine GO.getR h_x fl_RX11_12 rfl rfl dX11_passShip_56 (fun hv15 h14 => ?_)
        refine GO.getI h14 fl_RX11_145 rfl rfl dX11_passShip_59 (fun _ _ => ?_)
        refine GO.icmp_ne (tgt := 70) dX11_passShip_62 (by decide) vi_ir vi_ir (fun c16 => ?_) (fun c16 => ?_)
        ·
          exact GO.retv rfl rfl dX11_passShip_70 ⟨rfl, rfl, trivial⟩
        ·
          refine GO.aload_n dX11_passShip_65 rfl rfl ?_
          refine GO.aload_n dX11_passShip_66 rfl rfl ?_
          refine GO.callV (ci := 10) (N := mX11_comeHome) dX11_passShip_67 (RX11, TX11, 20) rfl gV_RX11_528 h_x (t_X11_comeHome h_x h_p0) rfl [] rfl rfl (Nat.le_of_ble_eq_true rfl) rfl (k_vs fun V19 h18 hF17 => ?_)
          exact GO.retv rfl rfl dX11_passShip_70 ⟨rfl, rfl, trivial⟩
    refine GO.icmp_ne (tgt := 43) dX11_passShip_18 (by decide) vi_ir (ir_c rfl) (fun c20 => ?_) (fun c20 => ?_)
    ·
      exact hj12 
    ·
      refine GO.aload_n dX11_passShip_21 rfl rfl ?_
      refine GO.getI h_p0 fl_RX11_522 rfl rfl dX11_passShip_22 (fun _ _ => ?_)
      refine GO.aload_n dX11_passShip_25 rfl rfl ?_
      refine GO.getR h_x fl_RX11_12 rfl rfl dX11_passShip_26 (fun hv22 h21 => ?_)
      refine GO.getI h21 fl_RX11_145 rfl rfl dX11_passShip_29 (fun _ _ => ?_)
      refine GO.icmp_ne (tgt := 43) dX11_passShip_32 (by decide) vi_ir vi_ir (fun c23 => ?_) (fun c23 => ?_)
      ·
        exact hj12 
      ·
        refine GO.aload_n dX11_passShip_35 rfl rfl ?_
        refine GO.aload_n dX11_passShip_36 rfl rfl ?_
        refine GO.callV (ci := 10) (N := mX11_meetIce) dX11_passShip_37 (RX11, TX11, 20) rfl gV_RX11_525 h_x (t_X11_meetIce h_x h_p0) rfl [] rfl rfl (Nat.le_of_ble_eq_true rfl) rfl (k_vs fun V26 h25 hF24 => ?_)
        refine GO.goto (tgt := 70) dX11_passShip_40 (by decide) ?_
        exact GO.retv rfl rfl dX11_passShip_70 ⟨rfl, rfl, trivial⟩
