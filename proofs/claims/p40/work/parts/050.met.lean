def mX11_people : MRec := (RX11, cX11_people, 4, (some .boolean), yX11_people, 3, 66, 0, 0, 137438953472)
def mX11_hide : MRec := (RX11, cX11_hide, 4, (some .boolean), yX11_hide, 3, 66, 0, 0, 824633720832)
def mX11_declare : MRec := (RX11, cX11_declare, 5, (some .boolean), yX11_declare, 2, 44, 0, 0, 13194139533312)
def mX11_visit : MRec := (RX11, cX11_visit, 6, (some .int), yX11_visit, 3, 66, 0, 0, 3794275180128377091639574036764685364535950857523710002445248344226201089335099392)
def mX11_seen : MRec := (RX11, cX11_seen, 3, (some .int), yX11_seen, 1, 24, 0, 0, 0)
def mX4_get_n : MRec := (RX4, cX4_get, 2, (some .int), yX4_get, 0, 0, 0, 0, 0)
def mX4_put_n : MRec := (RX4, cX4_put, 3, (none : Option Jvm.ClassFile.FieldType), yX4_put, 0, 0, 0, 0, 0)
def mX4_add_n : MRec := (RX4, cX4_add, 3, (none : Option Jvm.ClassFile.FieldType), yX4_add, 1, 22, 0, 0, 0)
def mX11_disturbNests : MRec := (RX11, cX11_disturbNests, 6, (none : Option Jvm.ClassFile.FieldType), yX11_disturbNests, 2, 44, 0, 0, 3794275180128377091639574036764685364535950857523710002444946112771297432041422848)
def mX11_goDown : MRec := (RX11, cX11_goDown, 7, (none : Option Jvm.ClassFile.FieldType), yX11_goDown, 2, 48, 0, 0, 3794275180128377091639574036764685364535950857523710002444946112771297432041422848)
def mX11_passWork : MRec := (RX11, cX11_passWork, 5, (none : Option Jvm.ClassFile.FieldType), yX11_passWork, 6, 151, 0, 0, 3794275180128377091639574036764685364535950857523710009872586348483579081630679040)
def mX11_admitParties : MRec := (RX11, cX11_admitParties, 4, (none : Option Jvm.ClassFile.FieldType), yX11_admitParties, 5, 127, 0, 0, 3794275180128377091639574036764685364535950857523710002444946112771297432110104576)
set_option maxHeartbeats 1000000 in
theorem t_X11_people {K : Kmap} {V : Vmap} {x : Nat} {p0 : Int} {p1 : Int} (h_x : K x = some (0, 10)) (r_p0 : ir p0) (r_p1 : ir p1) : MC mX11_people K V [.ref x, ti p0, ti p1] (IS K (fun X V1 => (X = 0 ∨ X = 1) ∧ (X ≠ 0 → True) ∧ (X = 0 → True))) := by
  refine MC.start 1 (by decide +kernel) rfl rfl rfl (ls0 := [some (.ref x), some (ti p0), some (ti p1), none]) rfl ?_
  refine GO.aload_n dX11_people_0 rfl rfl ?_
  refine GO.iload_n dX11_people_1 rfl rfl ?_
  refine GO.callV (ci := 10) (N := mX11_standingStation) dX11_people_2 (RX11, TX11, 20) rfl gV_RX11_195 h_x (t_X11_standingStation h_x r_p0) rfl [] rfl rfl (Nat.le_of_ble_eq_true rfl) rfl (k_rp (fun h3 => ?_) (fun o1 h2 h3 => ?_))
  ·
    refine GO.astore_nN (ls1 := [some (.ref x), some (ti p0), some (ti p1), some (.null)]) dX11_people_5 rfl rfl rfl ?_
    refine GO.aload_nN dX11_people_6 rfl rfl ?_
    refine GO.ifnullN (tgt := 39) dX11_people_7 (by decide) ?_
    refine GO.iconst dX11_people_39 ?_
    exact GO.retz rfl rfl dX11_people_40 (Or.inl rfl) ⟨rfl, _, rfl, (ir_c rfl), ⟨Or.inl rfl, fun _ => trivial, fun _ => trivial⟩⟩
  ·
    refine GO.astore_n (ls1 := [some (.ref x), some (ti p0), some (ti p1), some (.ref o1)]) dX11_people_5 rfl rfl rfl ?_
    refine GO.aload_n dX11_people_6 rfl rfl ?_
    refine GO.ifnull dX11_people_7 ?_
    refine GO.iload_n dX11_people_10 rfl rfl ?_
    refine GO.sipush dX11_people_11 rfl ?_
    refine GO.sipush dX11_people_14 rfl ?_
    refine GO.callS (N := mX11_between) dX11_people_17 gS_RX11_112 (t_X11_between r_p1 (ir_c rfl) (ir_c rfl)) rfl [] rfl rfl (Nat.le_of_ble_eq_true rfl) rfl (k_ip fun X4 r5 h6 => ?_)
    refine GO.if_eq (tgt := 39) dX11_people_20 (by decide) r5 (fun c7 => ?_) (fun c7 => ?_)
    ·
      have q8 := h6.2.2 (by omega)
      refine GO.iconst dX11_people_39 ?_
      exact GO.retz rfl rfl dX11_people_40 (Or.inl rfl) ⟨rfl, _, rfl, (ir_c rfl), ⟨Or.inl rfl, fun _ => trivial, fun _ => trivial⟩⟩
    ·
      have q9 := h6.2.1 (by omega)
      refine GO.aload_n dX11_people_23 rfl rfl ?_
      refine GO.getI h2 fl_RX11_183 rfl rfl dX11_people_24 (fun _ _ => ?_)
      refine GO.iload_n dX11_people_27 rfl rfl ?_
      refine GO.iadd dX11_people_28 ?_
      refine GO.norm (fun z10 r11 _ => ?_)
      refine GO.iconst dX11_people_29 ?_
      refine GO.sipush dX11_people_30 rfl ?_
      refine GO.callS (N := mX11_between) dX11_people_33 gS_RX11_112 (t_X11_between r11 (ir_c rfl) (ir_c rfl)) rfl [] rfl rfl (Nat.le_of_ble_eq_true rfl) rfl (k_ip fun X12 r13 h14 => ?_)
      refine GO.if_ne (tgt := 41) dX11_people_36 (by decide) r13 (fun c15 => ?_) (fun c15 => ?_)
      ·
        have q16 := h14.2.1 (by omega)
        refine GO.aload_n dX11_people_41 rfl rfl ?_
        refine GO.dup dX11_people_42 rfl ?_
        refine GO.getI h2 fl_RX11_183 rfl rfl dX11_people_43 (fun _ _ => ?_)
        refine GO.iload_n dX11_people_46 rfl rfl ?_
        refine GO.iadd dX11_people_47 ?_
        refine GO.norm (fun z17 r18 _ => ?_)
        refine GO.putI h2 fp_RX11_183 rfl (by decide +kernel) r18 (r18).1 (r18).2 dX11_people_48 (fun V20 e19 => ?_)
        refine GO.iconst dX11_people_51 ?_
        exact GO.retz rfl rfl dX11_people_52 (Or.inr rfl) ⟨rfl, _, rfl, (ir_c rfl), ⟨Or.inr rfl, fun _ => trivial, fun _ => trivial⟩⟩
      ·
        have q21 := h14.2.2 (by omega)
        refine GO.iconst dX11_people_39 ?_
        exact GO.retz rfl rfl dX11_people_40 (Or.inl rfl) ⟨rfl, _, rfl, (ir_c rfl), ⟨Or.inl rfl, fun _ => trivial, fun _ => trivial⟩⟩

set_option maxHeartbeats 1000000 in
theorem t_X11_hide {K : Kmap} {V : Vmap} {x : Nat} {p0 : Int} {p1 : Int} (h_x : K x = some (0, 10)) (r_p0 : ir p0) (r_p1 : ir p1) : MC mX11_hide K V [.ref x, ti p0, ti p1] (IS K (fun X V1 => (X = 0 ∨ X = 1) ∧ (X ≠ 0 → True) ∧ (X = 0 → True))) := by
  refine MC.start 1 (by decide +kernel) rfl rfl rfl (ls0 := [some (.ref x), some (ti p0), some (ti p1), none]) rfl ?_
  refine GO.aload_n dX11_hide_0 rfl rfl ?_
  refine GO.iload_n dX11_hide_1 rfl rfl ?_
  refine GO.callV (ci := 10) (N := mX11_standingStation) dX11_hide_2 (RX11, TX11, 20) rfl gV_RX11_195 h_x (t_X11_standingStation h_x r_p0) rfl [] rfl rfl (Nat.le_of_ble_eq_true rfl) rfl (k_rp (fun h3 => ?_) (fun o1 h2 h3 => ?_))
  ·
    refine GO.astore_nN (ls1 := [some (.ref x), some (ti p0), some (ti p1), some (.null)]) dX11_hide_5 rfl rfl rfl ?_
    refine GO.aload_nN dX11_hide_6 rfl rfl ?_
    refine GO.ifnullN (tgt := 27) dX11_hide_7 (by decide) ?_
    refine GO.iconst dX11_hide_27 ?_
    exact GO.retz rfl rfl dX11_hide_28 (Or.inl rfl) ⟨rfl, _, rfl, (ir_c rfl), ⟨Or.inl rfl, fun _ => trivial, fun _ => trivial⟩⟩
  ·
    refine GO.astore_n (ls1 := [some (.ref x), some (ti p0), some (ti p1), some (.ref o1)]) dX11_hide_5 rfl rfl rfl ?_
    refine GO.aload_n dX11_hide_6 rfl rfl ?_
    refine GO.ifnull dX11_hide_7 ?_
    refine GO.iload_n dX11_hide_10 rfl rfl ?_
    refine GO.aload_n dX11_hide_11 rfl rfl ?_
    refine GO.getI h2 fl_RX11_186 rfl rfl dX11_hide_12 (fun _ _ => ?_)
    refine GO.icmp_gt (tgt := 27) dX11_hide_15 (by decide) r_p1 vi_ir (fun c4 => ?_) (fun c4 => ?_)
    ·
      refine GO.iconst dX11_hide_27 ?_
      exact GO.retz rfl rfl dX11_hide_28 (Or.inl rfl) ⟨rfl, _, rfl, (ir_c rfl), ⟨Or.inl rfl, fun _ => trivial, fun _ => trivial⟩⟩
    ·
      refine GO.iload_n dX11_hide_18 rfl rfl ?_
      refine GO.aload_n dX11_hide_19 rfl rfl ?_
      refine GO.getI h2 fl_RX11_421 rfl rfl dX11_hide_20 (fun _ _ => ?_)
      refine GO.ineg dX11_hide_23 ?_
      refine GO.norm (fun z5 r6 _ => ?_)
      refine GO.icmp_ge (tgt := 29) dX11_hide_24 (by decide) r_p1 r6 (fun c7 => ?_) (fun c7 => ?_)
      ·
        refine GO.aload_n dX11_hide_29 rfl rfl ?_
        refine GO.dup dX11_hide_30 rfl ?_
        refine GO.getI h2 fl_RX11_186 rfl rfl dX11_hide_31 (fun _ _ => ?_)
        refine GO.iload_n dX11_hide_34 rfl rfl ?_
        refine GO.isub dX11_hide_35 ?_
        refine GO.norm (fun z8 r9 _ => ?_)
        refine GO.putI h2 fp_RX11_186 rfl (by decide +kernel) r9 (r9).1 (r9).2 dX11_hide_36 (fun V11 e10 => ?_)
        refine GO.aload_n dX11_hide_39 rfl rfl ?_
        refine GO.dup dX11_hide_40 rfl ?_
        refine GO.getI h2 fl_RX11_421 rfl rfl dX11_hide_41 (fun _ _ => ?_)
        refine GO.iload_n dX11_hide_44 rfl rfl ?_
        refine GO.iadd dX11_hide_45 ?_
        refine GO.norm (fun z12 r13 _ => ?_)
        refine GO.putI h2 fp_RX11_421 rfl (by decide +kernel) r13 (r13).1 (r13).2 dX11_hide_46 (fun V15 e14 => ?_)
        refine GO.iconst dX11_hide_49 ?_
        exact GO.retz rfl rfl dX11_hide_50 (Or.inr rfl) ⟨rfl, _, rfl, (ir_c rfl), ⟨Or.inr rfl, fun _ => trivial, fun _ => trivial⟩⟩
      ·
        refine GO.iconst dX11_hide_27 ?_
        exact GO.retz rfl rfl dX11_hide_28 (Or.inl rfl) ⟨rfl, _, rfl, (ir_c rfl), ⟨Or.inl rfl, fun _ => trivial, fun _ => trivial⟩⟩

set_option maxHeartbeats 1000000 in
theorem t_X11_declare {K : Kmap} {V : Vmap} {x : Nat} {p0 : Int} {p1 : Int} {p2 : Int} (h_x : K x = some (0, 10)) (r_p0 : ir p0) (r_p1 : ir p1) (r_p2 : ir p2) : MC mX11_declare K V [.ref x, ti p0, ti p1, ti p2] (IS K (fun X V1 => (X = 0 ∨ X = 1) ∧ (X ≠ 0 → True) ∧ (X = 0 → True))) := by
  refine MC.start 1 (by decide +kernel) rfl rfl rfl (ls0 := [some (.ref x), some (ti p0), some (ti p1), some (ti p2), none]) rfl ?_
  refine GO.aload_n dX11_declare_0 rfl rfl ?_
  refine GO.iload_n dX11_declare_1 rfl rfl ?_
  refine GO.iconst dX11_declare_2 ?_
  refine GO.callV (ci := 10) (N := mX11_placeOf) dX11_declare_3 (RX11, TX11, 20) rfl gV_RX11_169 h_x (t_X11_placeOf h_x r_p0 (ir_c rfl)) rfl [] rfl rfl (Nat.le_of_ble_eq_true rfl) rfl (k_rp (fun h3 => ?_) (fun o1 h2 h3 => ?_))
  ·
    refine GO.astoreN (ls1 := [some (.ref x), some (ti p0), some (ti p1), some (ti p2), some (.null)]) dX11_declare_6 rfl rfl ?_
    refine GO.aloadN dX11_declare_8 rfl ?_
    refine GO.ifnullN (tgt := 35) dX11_declare_10 (by decide) ?_
    refine GO.iconst dX11_declare_35 ?_
    exact GO.retz rfl rfl dX11_declare_36 (Or.inl rfl) ⟨rfl, _, rfl, (ir_c rfl), ⟨Or.inl rfl, fun _ => trivial, fun _ => trivial⟩⟩
  ·
    refine GO.astore (ls1 := [some (.ref x), some (ti p0), some (ti p1), some (ti p2), some (.ref o1)]) dX11_declare_6 rfl rfl ?_
    refine GO.aload dX11_declare_8 rfl ?_
    refine GO.ifnull dX11_declare_10 ?_
    refine GO.iload_n dX11_declare_13 rfl rfl ?_
    refine GO.iconst dX11_declare_14 ?_
    refine GO.sipush dX11_declare_15 rfl ?_
    refine GO.callS (N := mX11_between) dX11_declare_18 gS_RX11_112 (t_X11_between r_p1 (ir_c rfl) (ir_c rfl)) rfl [] rfl rfl (Nat.le_of_ble_eq_true rfl) rfl (k_ip fun X4 r5 h6 => ?_)
    refine GO.if_eq (tgt := 35) dX11_declare_21 (by decide) r5 (fun c7 => ?_) (fun c7 => ?_)
    ·
      have q8 := h6.2.2 (by omega)
      refine GO.iconst dX11_declare_35 ?_
      exact GO.retz rfl rfl dX11_declare_36 (Or.inl rfl) ⟨rfl, _, rfl, (ir_c rfl), ⟨Or.inl rfl, fun _ => trivial, fun _ => trivial⟩⟩
    ·
      have q9 := h6.2.1 (by omega)
      refine GO.iload_n dX11_declare_24 rfl rfl ?_
      refine GO.iconst dX11_declare_25 ?_
      refine GO.ldcw (X := 1000000) dX11_declare_26 gw_1159 rfl ?_
      refine GO.callS (N := mX11_between) dX11_declare_29 gS_RX11_112 (t_X11_between r_p2 (ir_c rfl) (ir_c rfl)) rfl [] rfl rfl (Nat.le_of_ble_eq_true rfl) rfl (k_ip fun X10 r11 h12 => ?_)
      refine GO.if_ne (tgt := 37) dX11_declare_32 (by decide) r11 (fun c13 => ?_) (fun c13 => ?_)
      ·
        have q14 := h12.2.1 (by omega)
        refine GO.aload dX11_declare_37 rfl ?_
        refine GO.iload_n dX11_declare_39 rfl rfl ?_
        refine GO.putI h2 fp_RX11_425 rfl (by decide +kernel) r_p1 (r_p1).1 (r_p1).2 dX11_declare_40 (fun V16 e15 => ?_)
        refine GO.aload dX11_declare_43 rfl ?_
        refine GO.iload_n dX11_declare_45 rfl rfl ?_
        refine GO.putI h2 fp_RX11_428 rfl (by decide +kernel) r_p2 (r_p2).1 (r_p2).2 dX11_declare_46 (fun V18 e17 => ?_)
        refine GO.iconst dX11_declare_49 ?_
        exact GO.retz rfl rfl dX11_declare_50 (Or.inr rfl) ⟨rfl, _, rfl, (ir_c rfl), ⟨Or.inr rfl, fun _ => trivial, fun _ => trivial⟩⟩
      ·
        have q19 := h12.2.2 (by omega)
        refine GO.iconst dX11_declare_35 ?_
        exact GO.retz rfl rfl dX11_declare_36 (Or.inl rfl) ⟨rfl, _, rfl, (ir_c rfl), ⟨Or.inl rfl, fun _ => trivial, fun _ => trivial⟩⟩

set_option maxHeartbeats 1000000 in
theorem t_X11_visit {K : Kmap} {V : Vmap} {x : Nat} {p0 : Int} {p1 : Int} (h_x : K x = some (0, 10)) (r_p0 : ir p0) (r_p1 : ir p1) : MC mX11_visit K V [.ref x, ti p0, ti p1] (IS K (fun X V1 => True)) := by
  refine MC.start 3 (by decide +kernel) rfl rfl rfl (ls0 := [some (.ref x), some (ti p0), some (ti p1), none, none, none]) rfl ?_
  refine GO.aload_n dX11_visit_0 rfl rfl ?_
  refine GO.iload_n dX11_visit_1 rfl rfl ?_
  refine GO.callV (ci := 10) (N := mX11_partyOf) dX11_visit_2 (RX11, TX11, 20) rfl gV_RX11_151 h_x (t_X11_partyOf h_x r_p0) rfl [] rfl rfl (Nat.le_of_ble_eq_true rfl) rfl (k_rp (fun h3 => ?_) (fun o1 h2 h3 => ?_))
  ·
    refine GO.astore_nN (ls1 := [some (.ref x), some (ti p0), some (ti p1), some (.null), none, none]) dX11_visit_5 rfl rfl rfl ?_
    refine GO.aload_n dX11_visit_6 rfl rfl ?_
    refine GO.iload_n dX11_visit_7 rfl rfl ?_
    refine GO.callV (ci := 10) (N := mX11_standingStation) dX11_visit_8 (RX11, TX11, 20) rfl gV_RX11_195 h_x (t_X11_standingStation h_x r_p1) rfl [] rfl rfl (Nat.le_of_ble_eq_true rfl) rfl (k_rp (fun h6 => ?_) (fun o4 h5 h6 => ?_))
    ·
      refine GO.astoreN (ls1 := [some (.ref x), some (ti p0), some (ti p1), some (.null), some (.null), none]) dX11_visit_11 rfl rfl ?_
      refine GO.aload_nN dX11_visit_13 rfl rfl ?_
      refine GO.ifnullN (tgt := 45) dX11_visit_14 (by decide) ?_
      refine GO.iconst dX11_visit_45 ?_
      exact GO.reti rfl rfl dX11_visit_46 ⟨rfl, _, rfl, (ir_c rfl), trivial⟩
    ·
      refine GO.astore (ls1 := [some (.ref x), some (ti p0), some (ti p1), some (.null), some (.ref o4), none]) dX11_visit_11 rfl rfl ?_
      refine GO.aload_nN dX11_visit_13 rfl rfl ?_
      refine GO.ifnullN (tgt := 45) dX11_visit_14 (by decide) ?_
      refine GO.iconst dX11_visit_45 ?_
      exact GO.reti rfl rfl dX11_visit_46 ⟨rfl, _, rfl, (ir_c rfl), trivial⟩
  ·
    refine GO.astore_n (ls1 := [some (.ref x), some (ti p0), some (ti p1), some (.ref o1), none, none]) dX11_visit_5 rfl rfl rfl ?_
    refine GO.aload_n dX11_visit_6 rfl rfl ?_
    refine GO.iload_n dX11_visit_7 rfl rfl ?_
    refine GO.callV (ci := 10) (N := mX11_standingStation) dX11_visit_8 (RX11, TX11, 20) rfl gV_RX11_195 h_x (t_X11_standingStation h_x r_p1) rfl [] rfl rfl (Nat.le_of_ble_eq_true rfl) rfl (k_rp (fun h9 => ?_) (fun o7 h8 h9 => ?_))
    ·
      refine GO.astoreN (ls1 := [some (.ref x), some (ti p0), some (ti p1), some (.ref o1), some (.null), none]) dX11_visit_11 rfl rfl ?_
      refine GO.aload_n dX11_visit_13 rfl rfl ?_
      refine GO.ifnull dX11_visit_14 ?_
      refine GO.aloadN dX11_visit_17 rfl ?_
      refine GO.ifnullN (tgt := 45) dX11_visit_19 (by decide) ?_
      refine GO.iconst dX11_visit_45 ?_
      exact GO.reti rfl rfl dX11_visit_46 ⟨rfl, _, rfl, (ir_c rfl), trivial⟩
    ·
      refine GO.astore (ls1 := [some (.ref x), some (ti p0), some (ti p1), some (.ref o1), some (.ref o7), none]) dX11_visit_11 rfl rfl ?_
      refine GO.aload_n dX11_visit_13 rfl rfl ?_
      refine GO.ifnull dX11_visit_14 ?_
      refine GO.aload dX11_visit_17 rfl ?_
      refine GO.ifnull dX11_visit_19 ?_
      refine GO.aload dX11_visit_22 rfl ?_
      refine GO.getI h8 fl_RX11_173 rfl rfl dX11_visit_24 (fun _ _ => ?_)
      refine GO.iload_n dX11_visit_27 rfl rfl ?_
      refine GO.icmp_eq (tgt := 45) dX11_visit_28 (by decide) vi_ir r_p0 (fun c10 => ?_) (fun c10 => ?_)
      ·
        refine GO.iconst dX11_visit_45 ?_
        exact GO.reti rfl rfl dX11_visit_46 ⟨rfl, _, rfl, (ir_c rfl), trivial⟩
      ·
        refine GO.aload_n dX11_visit_31 rfl rfl ?_
        refine GO.aload_n dX11_visit_32 rfl rfl ?_
        refine GO.getR h_x fl_RX11_12 rfl rfl dX11_visit_33 (fun hv12 h11 => ?_)
        refine GO.getI h11 fl_RX11_145 rfl rfl dX11_visit_36 (fun _ _ => ?_)
        refine GO.callV (ci := 2) (N := mX2_decidesOn) dX11_visit_39 (RX2, TX2, 5) rfl gV_RX11_301 h2 (t_X2_decidesOn h2 vi_ir) rfl [] rfl rfl (Nat.le_of_ble_eq_true rfl) rfl (k_ip fun X13 r14 h15 => ?_)
        refine GO.if_ne (tgt := 47) dX11_visit_42 (by decide) r14 (fun c16 => ?_) (fun c16 => ?_)
        ·
          refine GO.aload dX11_visit_47 rfl ?_
          refine GO.getI h8 fl_RX11_183 rfl rfl dX11_visit_49 (fun _ _ => ?_)
          refine GO.aload dX11_visit_52 rfl ?_
          refine GO.getI h8 fl_RX11_425 rfl rfl dX11_visit_54 (fun _ _ => ?_)
          refine GO.isub dX11_visit_57 ?_
          refine GO.norm (fun z17 r18 _ => ?_)
          refine GO.istore (ls1 := [some (.ref x), some (ti p0), some (ti p1), some (.ref o1), some (.ref o7), some (ti z17)]) dX11_visit_58 rfl rfl ?_
          refine GO.aload_n dX11_visit_60 rfl rfl ?_
          refine GO.getR h_x fl_RX11_76 rfl rfl dX11_visit_61 (fun hv20 h19 => ?_)
          refine GO.iload_n dX11_visit_64 rfl rfl ?_
          refine GO.iload_n dX11_visit_65 rfl rfl ?_
          refine GO.aload_n dX11_visit_66 rfl rfl ?_
          refine GO.getRaw h_x fl_RX11_12 hv12 dX11_visit_67 ?_
          refine GO.getI h11 fl_RX11_145 rfl rfl dX11_visit_70 (fun _ _ => ?_)
          refine GO.iload dX11_visit_73 rfl ?_
          refine GO.aload dX11_visit_75 rfl ?_
          refine GO.getI h8 fl_RX11_186 rfl rfl dX11_visit_77 (fun _ _ => ?_)
          refine GO.aload dX11_visit_80 rfl ?_
          refine GO.getI h8 fl_RX11_428 rfl rfl dX11_visit_82 (fun _ _ => ?_)
          refine GO.isub dX11_visit_85 ?_
          refine GO.norm (fun z23 r24 _ => ?_)
          refine GO.callV (ci := 7) (N := mX8_append) dX11_visit_86 (RX8, TX8, 4) rfl gV_RX11_205 h19 (t_X8_append h19 r_p0 r_p1 vi_ir r18 r24) rfl [] rfl rfl (Nat.le_of_ble_eq_true rfl) rfl (k_is fun X25 V29 r26 h27 hF28 => ?_)
          have q30 : -2147483648 ≤ X25 ∧ X25 ≤ 2147483647 := r26
          exact GO.reti rfl rfl dX11_visit_89 ⟨rfl, _, rfl, r26, trivial⟩
        ·
          refine GO.iconst dX11_visit_45 ?_
          exact GO.reti rfl rfl dX11_visit_46 ⟨rfl, _, rfl, (ir_c rfl), trivial⟩

set_option maxHeartbeats 1000000 in
theorem t_X11_seen {K : Kmap} {V : Vmap} {x : Nat} {p0 : Int} {p1 : Int} (h_x : K x = some (0, 10)) (r_p0 : ir p0) (r_p1 : ir p1) : MC mX11_seen K V [.ref x, ti p0, ti p1] (IP K V (fun X => True)) := by
  refine MC.start 0 (by decide +kernel) rfl rfl rfl (ls0 := [some (.ref x), some (ti p0), some (ti p1)]) rfl ?_
  refine GO.aload_n dX11_seen_0 rfl rfl ?_
  refine GO.getR h_x fl_RX11_76 rfl rfl dX11_seen_1 (fun hv2 h1 => ?_)
  refine GO.iload_n dX11_seen_4 rfl rfl ?_
  refine GO.callV (ci := 7) (N := mX8_has) dX11_seen_5 (RX8, TX8, 4) rfl gV_RX11_431 h1 (t_X8_has h1 r_p0) rfl [] rfl rfl (Nat.le_of_ble_eq_true rfl) rfl (k_ip fun X3 r4 h5 => ?_)
  refine GO.if_eq (tgt := 20) dX11_seen_8 (by decide) r4 (fun c6 => ?_) (fun c6 => ?_)
  ·
    refine GO.ldcw (X := (-1000000)) dX11_seen_20 gw_1169 rfl ?_
    exact GO.reti rfl rfl dX11_seen_23 ⟨rfl, rfl, _, rfl, (ir_c rfl), trivial⟩
  ·
    refine GO.iload_n dX11_seen_11 rfl rfl ?_
    refine GO.iconst dX11_seen_12 ?_
    refine GO.iconst dX11_seen_13 ?_
    refine GO.callS (N := mX11_between) dX11_seen_14 gS_RX11_112 (t_X11_between r_p1 (ir_c rfl) (ir_c rfl)) rfl [] rfl rfl (Nat.le_of_ble_eq_true rfl) rfl (k_ip fun X7 r8 h9 => ?_)
    refine GO.if_ne (tgt := 24) dX11_seen_17 (by decide) r8 (fun c10 => ?_) (fun c10 => ?_)
    ·
      have q11 := h9.2.1 (by omega)
      refine GO.aload_n dX11_seen_24 rfl rfl ?_
      refine GO.getRaw h_x fl_RX11_76 hv2 dX11_seen_25 ?_
      refine GO.iload_n dX11_seen_28 rfl rfl ?_
      refine GO.iload_n dX11_seen_29 rfl rfl ?_
      refine GO.callV (ci := 7) (N := mX8_get) dX11_seen_30 (RX8, TX8, 4) rfl gV_RX11_209 h1 (t_X8_get h1 r_p0 r_p1) rfl [] rfl rfl (Nat.le_of_ble_eq_true rfl) rfl (k_ip fun X14 r15 h16 => ?_)
      have q17 : -2147483648 ≤ X14 ∧ X14 ≤ 2147483647 := r15
      exact GO.reti rfl rfl dX11_seen_33 ⟨rfl, rfl, _, rfl, r15, trivial⟩
    ·
      have q18 := h9.2.2 (by omega)
      refine GO.ldcw (X := (-1000000)) dX11_seen_20 gw_1169 rfl ?_
      exact GO.reti rfl rfl dX11_seen_23 ⟨rfl, rfl, _, rfl, (ir_c rfl), trivial⟩

set_option maxHeartbeats 1000000 in
theorem t_X4_get_n {K : Kmap} {V : Vmap} {p1 : Int} (r_p1 : ir p1) : MC mX4_get_n K V [.null, ti p1] (IP K V (fun X => True)) := by
  refine MC.start 0 (by decide +kernel) rfl rfl rfl (ls0 := [some (.null), some (ti p1)]) rfl ?_
  refine GO.aload_nN dX4_get_0 rfl rfl ?_
  refine GO.ifnullN (tgt := 20) dX4_get_1 (by decide) ?_
  refine GO.iconst dX4_get_20 ?_
  exact GO.reti rfl rfl dX4_get_21 ⟨rfl, rfl, _, rfl, (ir_c rfl), trivial⟩

set_option maxHeartbeats 1000000 in
theorem t_X4_put_n {K : Kmap} {V : Vmap} {p1 : Int} {p2 : Int} (r_p1 : ir p1) (r_p2 : ir p2) : MC mX4_put_n K V [.null, ti p1, ti p2] (VS K (fun V1 => (True))) := by
  refine MC.start 0 (by decide +kernel) rfl rfl rfl (ls0 := [some (.null), some (ti p1), some (ti p2)]) rfl ?_
  refine GO.aload_nN dX4_put_0 rfl rfl ?_
  refine GO.ifnullN (tgt := 18) dX4_put_1 (by decide) ?_
  exact GO.retv rfl rfl dX4_put_18 ⟨rfl, rfl, trivial⟩

set_option maxHeartbeats 1000000 in
theorem t_X4_add_n {K : Kmap} {V : Vmap} {p1 : Int} {p2 : Int} (r_p1 : ir p1) (r_p2 : ir p2) : MC mX4_add_n K V [.null, ti p1, ti p2] (VS K (fun V1 => (True))) := by
  refine MC.start 0 (by decide +kernel) rfl rfl rfl (ls0 := [some (.null), some (ti p1), some (ti p2)]) rfl ?_
  refine GO.aload_nN dX4_add_0 rfl rfl ?_
  refine GO.iload_n dX4_add_1 rfl rfl ?_
  refine GO.aload_nN dX4_add_2 rfl rfl ?_
  refine GO.iload_n dX4_add_3 rfl rfl ?_
  refine GO.callS (N := mX4_get_n) dX4_add_4 gS_RX4_7 (t_X4_get_n r_p1) rfl [ti p1, .null] rfl rfl (Nat.le_of_ble_eq_true rfl) rfl (k_ip fun X1 r2 h3 => ?_)
  refine GO.iload_n dX4_add_7 rfl rfl ?_
  refine GO.iadd dX4_add_8 ?_
  refine GO.norm (fun z4 r5 _ => ?_)
  refine GO.callS (N := mX4_put_n) dX4_add_9 gS_RX4_13 (t_X4_put_n r_p1 r5) rfl [] rfl rfl (Nat.le_of_ble_eq_true rfl) rfl (k_vs fun V8 h7 hF6 => ?_)
  exact GO.retv rfl rfl dX4_add_12 ⟨rfl, rfl, trivial⟩

set_option maxHeartbeats 1000000 in
theorem t_X11_disturbNests {K : Kmap} {V : Vmap} {x : Nat} {p0 : Nat} (h_x : K x = some (0, 10)) (h_p0 : K p0 = some (0, 9)) : MC mX11_disturbNests K V [.ref x, .ref p0] (VS K (fun V1 => (True))) := by
  refine MC.start 4 (by decide +kernel) rfl rfl rfl (ls0 := [some (.ref x), some (.ref p0), none, none, none, none]) rfl ?_
  refine GO.aload_n dX11_disturbNests_0 rfl rfl ?_
  refine GO.getR h_x fl_RX11_12 rfl rfl dX11_disturbNests_1 (fun hv2 h1 => ?_)
  refine GO.getI h1 fl_RX11_145 rfl rfl dX11_disturbNests_4 (fun _ _ => ?_)
  refine GO.sipush dX11_disturbNests_7 rfl ?_
  refine GO.idiv dX11_disturbNests_10 (ir_c rfl) (by omega) ?_
  refine GO.name (fun z3 hz4 => ?_)
  have r5 : ir z3 := hz4 ▸ wdiv_ir
  refine GO.istore_n (ls1 := [some (.ref x), some (.ref p0), some (ti z3), none, none, none]) dX11_disturbNests_11 rfl rfl rfl ?_
  refine GO.iconst dX11_disturbNests_12 ?_
  refine GO.istore_n (ls1 := [some (.ref x), some (.ref p0), some (ti z3), some (ti 0), none, none]) dX11_disturbNests_13 rfl rfl rfl ?_
  refine GO.loop1 (fun i6 W => 0 ≤ i6 ∧ i6 ≤ 60 ∧ True) (fun i6 => [some (.ref x), some (.ref p0), some (ti z3), some (ti i6), none, none]) (fun i6 W => (2147483647 - i6).toNat) 0 ⟨by omega, by omega, trivial⟩ rfl (fun i6 Wi6 hp233 ih232 => ?_)
  obtain ⟨l_i6, u_i6, -⟩ := hp233
  have r_i6 : ir i6 := ⟨by omega, by omega⟩
  show GO mX11_disturbNests K V (VS K (fun V1 => (True))) K Wi6 0 0 14 [some (.ref x), some (.ref p0), some (ti z3), some (ti i6), none, none] []
  refine GO.iload_n dX11_disturbNests_14 rfl rfl ?_
  refine GO.aload_n dX11_disturbNests_15 rfl rfl ?_
  refine GO.getI h_x fl_RX11_46 rfl rfl dX11_disturbNests_16 (fun l234 u235 => ?_)
  refine GO.icmp_ge (tgt := 91) dX11_disturbNests_19 (by decide) r_i6 vi_ir (fun c236 => ?_) (fun c236 => ?_)
  ·
    exact GO.retv rfl rfl dX11_disturbNests_91 ⟨rfl, rfl, trivial⟩
  ·
    refine GO.aload_n dX11_disturbNests_22 rfl rfl ?_
    refine GO.iload_n dX11_disturbNests_23 rfl rfl ?_
    refine GO.iconst dX11_disturbNests_24 ?_
    refine GO.callV (ci := 10) (N := mX11_placeOf) dX11_disturbNests_25 (RX11, TX11, 20) rfl gV_RX11_169 h_x (t_X11_placeOf h_x r_i6 (ir_c rfl)) rfl [] rfl rfl (Nat.le_of_ble_eq_true rfl) rfl (k_rp (fun h239 => ?_) (fun o237 h238 h239 => ?_))
    ·
      refine GO.astoreN (ls1 := [some (.ref x), some (.ref p0), some (ti z3), some (ti i6), some (.null), none]) dX11_disturbNests_28 rfl rfl ?_
      refine GO.aloadN dX11_disturbNests_30 rfl ?_
      refine GO.ifnonnullN dX11_disturbNests_32 ?_
      refine GO.goto (tgt := 85) dX11_disturbNests_35 (by decide) ?_
      refine GO.iinc (X := i6) (n := 1) (Y := i6 + 1) (ls1 := [some (.ref x), some (.ref p0), some (ti z3), some (ti (i6 + 1)), some (.null), none]) dX11_disturbNests_85 rfl rfl rfl rfl ?_
      refine GO.goto (tgt := 14) dX11_disturbNests_88 (by decide) ?_
      refine GO.drop [true, true, true, true, false, true] rfl ?_
      exact ih232 (i6 + 1) Wi6 ⟨by omega, by omega, trivial⟩ (by show (2147483647 - (i6 + 1)).toNat < (2147483647 - i6).toNat; omega)
    ·
      refine GO.astore (ls1 := [some (.ref x), some (.ref p0), some (ti z3), some (ti i6), some (.ref o237), none]) dX11_disturbNests_28 rfl rfl ?_
      refine GO.aload dX11_disturbNests_30 rfl ?_
      refine GO.ifnonnull (tgt := 38) dX11_disturbNests_32 (by decide) ?_
      refine GO.aload_n dX11_disturbNests_38 rfl rfl ?_
      refine GO.getR h_x fl_RX11_12 rfl rfl dX11_disturbNests_39 (fun hv241 h240 => ?_)
      refine GO.aload_n dX11_disturbNests_42 rfl rfl ?_
      refine GO.getI h_p0 fl_RX11_378 rfl rfl dX11_disturbNests_43 (fun _ _ => ?_)
      refine GO.aload dX11_disturbNests_46 rfl ?_
      refine GO.getI h238 fl_RX11_344 rfl rfl dX11_disturbNests_48 (fun _ _ => ?_)
      refine GO.callV (ci := 0) (N := mX0_far) dX11_disturbNests_51 (RX0, TX0, 13) rfl gV_RX11_388 h240 (t_X0_far h240 vi_ir vi_ir) rfl [] rfl rfl (Nat.le_of_ble_eq_true rfl) rfl (k_ip fun X242 r243 h244 => ?_)
      refine GO.istore (ls1 := [some (.ref x), some (.ref p0), some (ti z3), some (ti i6), some (.ref o237), some (ti X242)]) dX11_disturbNests_54 rfl rfl ?_
      refine GO.iload dX11_disturbNests_56 rfl ?_
      refine GO.if_lt (tgt := 85) dX11_disturbNests_58 (by decide) r243 (fun c245 => ?_) (fun c245 => ?_)
      ·
        refine GO.iinc (X := i6) (n := 1) (Y := i6 + 1) (ls1 := [some (.ref x), some (.ref p0), some (ti z3), some (ti (i6 + 1)), some (.ref o237), some (ti X242)]) dX11_disturbNests_85 rfl rfl rfl rfl ?_
        refine GO.goto (tgt := 14) dX11_disturbNests_88 (by decide) ?_
        refine GO.drop [true, true, true, true, false, false] rfl ?_
        exact ih232 (i6 + 1) Wi6 ⟨by omega, by omega, trivial⟩ (by show (2147483647 - (i6 + 1)).toNat < (2147483647 - i6).toNat; omega)
      ·
        refine GO.iload dX11_disturbNests_61 rfl ?_
        refine GO.iconst dX11_disturbNests_63 ?_
        refine GO.icmp_gt (tgt := 85) dX11_disturbNests_64 (by decide) r243 (ir_c rfl) (fun c246 => ?_) (fun c246 => ?_)
        ·
          refine GO.iinc (X := i6) (n := 1) (Y := i6 + 1) (ls1 := [some (.ref x), some (.ref p0), some (ti z3), some (ti (i6 + 1)), some (.ref o237), some (ti X242)]) dX11_disturbNests_85 rfl rfl rfl rfl ?_
          refine GO.goto (tgt := 14) dX11_disturbNests_88 (by decide) ?_
          refine GO.drop [true, true, true, true, false, false] rfl ?_
          exact ih232 (i6 + 1) Wi6 ⟨by omega, by omega, trivial⟩ (by show (2147483647 - (i6 + 1)).toNat < (2147483647 - i6).toNat; omega)
        ·
          refine GO.aload dX11_disturbNests_67 rfl ?_
          refine GO.getNB h238 fl_RX11_473 rfl rfl dX11_disturbNests_69 (fun hv248 => ?_) (fun n249 hv248 h247 b250 => ?_)
          ·
            refine GO.iload_n dX11_disturbNests_72 rfl rfl ?_
            refine GO.aload_n dX11_disturbNests_73 rfl rfl ?_
            refine GO.getI h_p0 fl_RX11_306 rfl rfl dX11_disturbNests_74 (fun _ _ => ?_)
            refine GO.iload dX11_disturbNests_77 rfl ?_
            refine GO.iconst dX11_disturbNests_79 ?_
            refine GO.iadd dX11_disturbNests_80 ?_
            have q251 : -2147483648 ≤ X242 ∧ X242 ≤ 2147483647 := r243
            refine GO.idiv dX11_disturbNests_81 ⟨by omega, by omega⟩ (by omega) ?_
            refine GO.callS (N := mX4_add_n) dX11_disturbNests_82 gS_RX11_476 (t_X4_add_n r5 wdiv_ir) rfl [] rfl rfl (Nat.le_of_ble_eq_true rfl) rfl (k_vs fun V254 h253 hF252 => ?_)
            refine GO.iinc (X := i6) (n := 1) (Y := i6 + 1) (ls1 := [some (.ref x), some (.ref p0), some (ti z3), some (ti (i6 + 1)), some (.ref o237), some (ti X242)]) dX11_disturbNests_85 rfl rfl rfl rfl ?_
            refine GO.goto (tgt := 14) dX11_disturbNests_88 (by decide) ?_
            refine GO.drop [true, true, true, true, false, false] rfl ?_
            exact ih232 (i6 + 1) V254 ⟨by omega, by omega, trivial⟩ (by show (2147483647 - (i6 + 1)).toNat < (2147483647 - i6).toNat; omega)
          ·
            refine GO.iload_n dX11_disturbNests_72 rfl rfl ?_
            refine GO.aload_n dX11_disturbNests_73 rfl rfl ?_
            refine GO.getI h_p0 fl_RX11_306 rfl rfl dX11_disturbNests_74 (fun _ _ => ?_)
            refine GO.iload dX11_disturbNests_77 rfl ?_
            refine GO.iconst dX11_disturbNests_79 ?_
            refine GO.iadd dX11_disturbNests_80 ?_
            have q255 : -2147483648 ≤ X242 ∧ X242 ≤ 2147483647 := r243
            refine GO.idiv dX11_disturbNests_81 ⟨by omega, by omega⟩ (by omega) ?_
            refine GO.callS (N := mX4_add) dX11_disturbNests_82 gS_RX11_476 (t_X4_add h247 r5 wdiv_ir) rfl [] rfl rfl (Nat.le_of_ble_eq_true rfl) rfl (k_vs fun V258 h257 hF256 => ?_)
            refine GO.iinc (X := i6) (n := 1) (Y := i6 + 1) (ls1 := [some (.ref x), some (.ref p0), some (ti z3), some (ti (i6 + 1)), some (.ref o237), some (ti X242)]) dX11_disturbNests_85 rfl rfl rfl rfl ?_
            refine GO.goto (tgt := 14) dX11_disturbNests_88 (by decide) ?_
            refine GO.drop [true, true, true, true, false, false] rfl ?_
            exact ih232 (i6 + 1) V258 ⟨by omega, by omega, trivial⟩ (by show (2147483647 - (i6 + 1)).toNat < (2147483647 - i6).toNat; omega)

set_option maxHeartbeats 1000000 in
theorem t_X11_goDown {K : Kmap} {V : Vmap} {x : Nat} {p0 : Int} (h_x : K x = some (0, 10)) (r_p0 : ir p0) : MC mX11_goDown K V [.ref x, ti p0] (VS K (fun V1 => (True))) := by
  refine MC.start 5 (by decide +kernel) rfl rfl rfl (ls0 := [some (.ref x), some (ti p0), none, none, none, none, none]) rfl ?_
  refine GO.aload_n dX11_goDown_0 rfl rfl ?_
  refine GO.aload_n dX11_goDown_1 rfl rfl ?_
  refine GO.getR h_x fl_RX11_79 rfl rfl dX11_goDown_2 (fun hv2 h1 => ?_)
  refine GO.iload_n dX11_goDown_5 rfl rfl ?_
  refine GO.iconst dX11_goDown_6 ?_
  refine GO.callV (ci := 7) (N := mX8_get) dX11_goDown_7 (RX8, TX8, 4) rfl gV_RX11_209 h1 (t_X8_get h1 r_p0 (ir_c rfl)) rfl [.ref x] rfl rfl (Nat.le_of_ble_eq_true rfl) rfl (k_ip fun X3 r4 h5 => ?_)
  refine GO.iconst dX11_goDown_10 ?_
  refine GO.callV (ci := 10) (N := mX11_placeOf) dX11_goDown_11 (RX11, TX11, 20) rfl gV_RX11_169 h_x (t_X11_placeOf h_x r4 (ir_c rfl)) rfl [] rfl rfl (Nat.le_of_ble_eq_true rfl) rfl (k_rp (fun h8 => ?_) (fun o6 h7 h8 => ?_))
  ·
    refine GO.astore_nN (ls1 := [some (.ref x), some (ti p0), some (.null), none, none, none, none]) dX11_goDown_14 rfl rfl rfl ?_
    refine GO.aload_nN dX11_goDown_15 rfl rfl ?_
    refine GO.ifnonnullN dX11_goDown_16 ?_
    exact GO.retv rfl rfl dX11_goDown_19 ⟨rfl, rfl, trivial⟩
  ·
    refine GO.astore_n (ls1 := [some (.ref x), some (ti p0), some (.ref o6), none, none, none, none]) dX11_goDown_14 rfl rfl rfl ?_
    refine GO.aload_n dX11_goDown_15 rfl rfl ?_
    refine GO.ifnonnull (tgt := 20) dX11_goDown_16 (by decide) ?_
    refine GO.aload_n dX11_goDown_20 rfl rfl ?_
    refine GO.getRaw h_x fl_RX11_79 hv2 dX11_goDown_21 ?_
    refine GO.iload_n dX11_goDown_24 rfl rfl ?_
    refine GO.iconst dX11_goDown_25 ?_
    refine GO.callV (ci := 7) (N := mX8_get) dX11_goDown_26 (RX8, TX8, 4) rfl gV_RX11_209 h1 (t_X8_get h1 r_p0 (ir_c rfl)) rfl [] rfl rfl (Nat.le_of_ble_eq_true rfl) rfl (k_ip fun X11 r12 h13 => ?_)
    refine GO.istore_n (ls1 := [some (.ref x), some (ti p0), some (.ref o6), some (ti X11), none, none, none]) dX11_goDown_29 rfl rfl rfl ?_
    refine GO.iload_n dX11_goDown_30 rfl rfl ?_
    refine GO.sipush dX11_goDown_31 rfl ?_
    refine GO.idiv dX11_goDown_34 (ir_c rfl) (by omega) ?_
    refine GO.bipush dX11_goDown_35 rfl ?_
    refine GO.callS (N := mJ9_min_7cf53) dX11_goDown_37 gS_RX11_479 (t_J9_min_7cf53 wdiv_ir (ir_c rfl)) rfl [] rfl rfl (Nat.le_of_ble_eq_true rfl) rfl (k_ip fun X14 r15 h16 => ?_)
    have q17 : -2147483648 ≤ wdiv X11 500 ∧ wdiv X11 500 ≤ 2147483647 := wdiv_ir
    have q18 : -2147483648 ≤ X14 ∧ X14 ≤ 2147483647 := r15
    refine GO.istore (ls1 := [some (.ref x), some (ti p0), some (.ref o6), some (ti X11), some (ti X14), none, none]) dX11_goDown_40 rfl rfl ?_
    refine GO.aload_n dX11_goDown_42 rfl rfl ?_
    refine GO.callV (ci := 3) (N := mX3_sureDepth) dX11_goDown_43 (RX3, TX3, 16) rfl gV_RX11_482 h7 (t_X3_sureDepth h7) rfl [] rfl rfl (Nat.le_of_ble_eq_true rfl) rfl (k_ip fun X19 r20 h21 => ?_)
    refine GO.aload_n dX11_goDown_46 rfl rfl ?_
    refine GO.getB h_x fl_RX11_94 rfl rfl dX11_goDown_47 (fun n24 hv23 h22 b25 => ?_)
    refine GO.bipush dX11_goDown_50 rfl ?_
    refine GO.callS (N := mX4_get) dX11_goDown_52 gS_RX11_253 (t_X4_get rfl h22 (ir_c rfl)) rfl [ti X19] rfl rfl (Nat.le_of_ble_eq_true rfl) rfl (k_ip fun X26 r27 h28 => ?_)
    refine GO.isub dX11_goDown_55 ?_
    refine GO.norm (fun z29 r30 _ => ?_)
    refine GO.istore (ls1 := [some (.ref x), some (ti p0), some (.ref o6), some (ti X11), some (ti X14), some (ti z29), none]) dX11_goDown_56 rfl rfl ?_
    refine GO.iload_n dX11_goDown_58 rfl rfl ?_
    refine GO.aload_n dX11_goDown_59 rfl rfl ?_
    refine GO.getRaw h_x fl_RX11_94 hv23 dX11_goDown_60 ?_
    refine GO.iload dX11_goDown_63 rfl ?_
    refine GO.callS (N := mX4_get) dX11_goDown_65 gS_RX11_253 (t_X4_get rfl h22 r15) rfl [ti X11] rfl rfl (Nat.le_of_ble_eq_true rfl) rfl (k_ip fun X33 r34 h35 => ?_)
    refine GO.iadd dX11_goDown_68 ?_
    refine GO.norm (fun z36 r37 _ => ?_)
    refine GO.iload dX11_goDown_69 rfl ?_
    refine GO.callS (N := mJ9_min_7cf53) dX11_goDown_71 gS_RX11_479 (t_J9_min_7cf53 r37 r30) rfl [] rfl rfl (Nat.le_of_ble_eq_true rfl) rfl (k_ip fun X38 r39 h40 => ?_)
    have q41 : -2147483648 ≤ z29 ∧ z29 ≤ 2147483647 := r30
    have q42 : -2147483648 ≤ X38 ∧ X38 ≤ 2147483647 := r39
    have q43 : -2147483648 ≤ z36 ∧ z36 ≤ 2147483647 := r37
    refine GO.istore (ls1 := [some (.ref x), some (ti p0), some (.ref o6), some (ti X11), some (ti X14), some (ti z29), some (ti X38)]) dX11_goDown_74 rfl rfl ?_
    refine GO.aload_n dX11_goDown_76 rfl rfl ?_
    refine GO.getRaw h_x fl_RX11_79 hv2 dX11_goDown_77 ?_
    refine GO.iload_n dX11_goDown_80 rfl rfl ?_
    refine GO.iconst dX11_goDown_81 ?_
    refine GO.iload_n dX11_goDown_82 rfl rfl ?_
    refine GO.iload dX11_goDown_83 rfl ?_
    refine GO.callS (N := mJ9_max_7cf53) dX11_goDown_85 gS_RX11_296 (t_J9_max_7cf53 r12 r39) rfl [ti 2, ti p0, .ref (vq V x 13)] rfl rfl (Nat.le_of_ble_eq_true rfl) rfl (k_ip fun X46 r47 h48 => ?_)
    have q49 : -2147483648 ≤ X46 ∧ X46 ≤ 2147483647 := r47
    have q50 : -2147483648 ≤ X11 ∧ X11 ≤ 2147483647 := r12
    refine GO.callV (ci := 7) (N := mX8_put) dX11_goDown_88 (RX8, TX8, 4) rfl gV_RX11_485 h1 (t_X8_put h1 r_p0 (ir_c rfl) r47) rfl [] rfl rfl (Nat.le_of_ble_eq_true rfl) rfl (k_vs fun V53 h52 hF51 => ?_)
    exact GO.retv rfl rfl dX11_goDown_91 ⟨rfl, rfl, trivial⟩

set_option maxHeartbeats 1000000 in
theorem t_X11_passWork {K : Kmap} {V : Vmap} {x : Nat} {p0 : Int} (h_x : K x = some (0, 10)) (r_p0 : ir p0) : MC mX11_passWork K V [.ref x, ti p0] (VS K (fun V1 => (True))) := by
  refine MC.start 3 (by decide +kernel) rfl rfl rfl (ls0 := [some (.ref x), some (ti p0), none, none, none]) rfl ?_
  refine GO.aload_n dX11_passWork_0 rfl rfl ?_
  refine GO.iload_n dX11_passWork_1 rfl rfl ?_
  refine GO.callV (ci := 10) (N := mX11_workOf) dX11_passWork_2 (RX11, TX11, 20) rfl gV_RX11_309 h_x (t_X11_workOf h_x r_p0) rfl [] rfl rfl (Nat.le_of_ble_eq_true rfl) rfl (k_rp (fun h3 => ?_) (fun o1 h2 h3 => ?_))
  ·
    refine GO.astore_nN (ls1 := [some (.ref x), some (ti p0), some (.null), none, none]) dX11_passWork_5 rfl rfl rfl ?_
    refine GO.aload_nN dX11_passWork_6 rfl rfl ?_
    refine GO.ifnullN (tgt := 38) dX11_passWork_7 (by decide) ?_
    exact GO.retv rfl rfl dX11_passWork_38 ⟨rfl, rfl, trivial⟩
  ·
    refine GO.astore_n (ls1 := [some (.ref x), some (ti p0), some (.ref o1), none, none]) dX11_passWork_5 rfl rfl rfl ?_
    refine GO.aload_n dX11_passWork_6 rfl rfl ?_
    refine GO.ifnull dX11_passWork_7 ?_
    refine GO.aload_n dX11_passWork_10 rfl rfl ?_
    refine GO.getR h_x fl_RX11_12 rfl rfl dX11_passWork_11 (fun hv5 h4 => ?_)
    refine GO.getI h4 fl_RX11_145 rfl rfl dX11_passWork_14 (fun _ _ => ?_)
    refine GO.aload_n dX11_passWork_17 rfl rfl ?_
    refine GO.getI h2 fl_RX11_452 rfl rfl dX11_passWork_18 (fun _ _ => ?_)
    refine GO.icmp_lt (tgt := 38) dX11_passWork_21 (by decide) vi_ir vi_ir (fun c6 => ?_) (fun c6 => ?_)
    ·
      exact GO.retv rfl rfl dX11_passWork_38 ⟨rfl, rfl, trivial⟩
    ·
      refine GO.aload_n dX11_passWork_24 rfl rfl ?_
      refine GO.getRaw h_x fl_RX11_12 hv5 dX11_passWork_25 ?_
      refine GO.getI h4 fl_RX11_145 rfl rfl dX11_passWork_28 (fun _ _ => ?_)
      refine GO.aload_n dX11_passWork_31 rfl rfl ?_
      refine GO.getI h2 fl_RX11_455 rfl rfl dX11_passWork_32 (fun _ _ => ?_)
      refine GO.icmp_le (tgt := 39) dX11_passWork_35 (by decide) vi_ir vi_ir (fun c9 => ?_) (fun c9 => ?_)
      ·
        refine GO.aload_n dX11_passWork_39 rfl rfl ?_
        refine GO.aload_n dX11_passWork_40 rfl rfl ?_
        refine GO.aload_n dX11_passWork_41 rfl rfl ?_
        refine GO.getRaw h_x fl_RX11_12 hv5 dX11_passWork_42 ?_
        refine GO.getI h4 fl_RX11_145 rfl rfl dX11_passWork_45 (fun _ _ => ?_)
        refine GO.iconst dX11_passWork_48 ?_
        refine GO.callV (ci := 10) (N := mX11_judge) dX11_passWork_49 (RX11, TX11, 20) rfl gV_RX11_331 h_x (t_X11_judge h_x h2 vi_ir (ir_c rfl) (by omega)) rfl [] rfl rfl (Nat.le_of_ble_eq_true rfl) rfl (k_is fun X12 V16 r13 h14 hF15 => ?_)
        refine GO.if_eq (tgt := 66) dX11_passWork_52 (by decide) r13 (fun c17 => ?_) (fun c17 => ?_)
        ·
          refine GO.aload_n dX11_passWork_66 rfl rfl ?_
          refine GO.dup dX11_passWork_67 rfl ?_
          refine GO.getI h2 fl_RX11_461 rfl rfl dX11_passWork_68 (fun _ _ => ?_)
          refine GO.iconst dX11_passWork_71 ?_
          refine GO.iadd dX11_passWork_72 ?_
          refine GO.norm (fun z18 r19 _ => ?_)
          refine GO.putI h2 fp_RX11_461 rfl (by decide +kernel) r19 (r19).1 (r19).2 dX11_passWork_73 (fun V21 e20 => ?_)
          refine GO.aload_n dX11_passWork_76 rfl rfl ?_
          refine GO.aload_n dX11_passWork_77 rfl rfl ?_
          refine GO.getI h2 fl_RX11_353 rfl rfl dX11_passWork_78 (fun _ _ => ?_)
          refine GO.callV (ci := 10) (N := mX11_partyOf) dX11_passWork_81 (RX11, TX11, 20) rfl gV_RX11_151 h_x (t_X11_partyOf h_x vi_ir) rfl [] rfl rfl (Nat.le_of_ble_eq_true rfl) rfl (k_rp (fun h24 => ?_) (fun o22 h23 h24 => ?_))
          ·
            refine GO.astore_nN (ls1 := [some (.ref x), some (ti p0), some (.ref o1), some (.null), none]) dX11_passWork_84 rfl rfl rfl ?_
            refine GO.aload_n dX11_passWork_85 rfl rfl ?_
            refine GO.getI h2 fl_RX11_375 rfl rfl dX11_passWork_86 (fun _ _ => ?_)
            have hj26 : GO mX11_passWork K V (VS K (fun V1 => (True))) K V21 0 0 106 [some (.ref x), some (ti p0), some (.ref o1), some (.null), none] [] := by
              skip
              refine GO.aload_n dX11_passWork_106 rfl rfl ?_
              refine GO.aload_n dX11_passWork_107 rfl rfl ?_
              refine GO.callV (ci := 10) (N := mX11_disturbNests) dX11_passWork_108 (RX11, TX11, 20) rfl gV_RX11_467 h_x (t_X11_disturbNests h_x h2) rfl [] rfl rfl (Nat.le_of_ble_eq_true rfl) rfl (k_vs fun V29 h28 hF27 => ?_)
              refine GO.iconst dX11_passWork_111 ?_
              refine GO.istore (ls1 := [some (.ref x), some (ti p0), some (.ref o1), some (.null), some (ti 0)]) dX11_passWork_112 rfl rfl ?_
              refine GO.loop1 (fun i30 W => 0 ≤ i30 ∧ i30 ≤ 2147483647 ∧ True) (fun i30 => [some (.ref x), some (ti p0), some (.ref o1), some (.null), some (ti i30)]) (fun i30 W => (2147483647 - i30).toNat) 0 ⟨by omega, by omega, trivial⟩ rfl (fun i30 Wi30 hp356 ih355 => ?_)
              obtain ⟨l_i30, u_i30, -⟩ := hp356
              have r_i30 : ir i30 := ⟨by omega, by omega⟩
              show GO mX11_passWork K V (VS K (fun V1 => (True))) K Wi30 0 0 114 [some (.ref x), some (ti p0), some (.ref o1), some (.null), some (ti i30)] []
              refine GO.iload dX11_passWork_114 rfl ?_
              refine GO.aload_n dX11_passWork_116 rfl rfl ?_
              refine GO.getR h_x fl_RX11_79 rfl rfl dX11_passWork_117 (fun hv358 h357 => ?_)
              refine GO.getI h357 fl_RX11_199 rfl rfl dX11_passWork_120 (fun _ _ => ?_)
              refine GO.icmp_ge (tgt := 152) dX11_passWork_123 (by decide) r_i30 vi_ir (fun c359 => ?_) (fun c359 => ?_)
              ·
                exact GO.retv rfl rfl dX11_passWork_152 ⟨rfl, rfl, trivial⟩
              ·
                refine GO.aload_n dX11_passWork_126 rfl rfl ?_
                refine GO.getRaw h_x fl_RX11_79 hv358 dX11_passWork_127 ?_
                refine GO.iload dX11_passWork_130 rfl ?_
                refine GO.iconst dX11_passWork_132 ?_
                refine GO.callV (ci := 7) (N := mX8_get) dX11_passWork_133 (RX8, TX8, 4) rfl gV_RX11_209 h357 (t_X8_get h357 r_i30 (ir_c rfl)) rfl [] rfl rfl (Nat.le_of_ble_eq_true rfl) rfl (k_ip fun X362 r363 h364 => ?_)
                refine GO.iload_n dX11_passWork_136 rfl rfl ?_
                refine GO.icmp_ne (tgt := 146) dX11_passWork_137 (by decide) r363 r_p0 (fun c365 => ?_) (fun c365 => ?_)
                ·
                  refine GO.iinc (X := i30) (n := 1) (Y := i30 + 1) (ls1 := [some (.ref x), some (ti p0), some (.ref o1), some (.null), some (ti (i30 + 1))]) dX11_passWork_146 rfl rfl rfl rfl ?_
                  refine GO.goto (tgt := 114) dX11_passWork_149 (by decide) ?_
                  have q366 : -2147483648 ≤ vi Wi30 (vq Wi30 x 13) 3 ∧ vi Wi30 (vq Wi30 x 13) 3 ≤ 2147483647 := vi_ir
                  exact ih355 (i30 + 1) Wi30 ⟨by omega, by omega, trivial⟩ (by show (2147483647 - (i30 + 1)).toNat < (2147483647 - i30).toNat; omega)
                ·
                  refine GO.aload_n dX11_passWork_140 rfl rfl ?_
                  refine GO.iload dX11_passWork_141 rfl ?_
                  refine GO.callV (ci := 10) (N := mX11_goDown) dX11_passWork_143 (RX11, TX11, 20) rfl gV_RX11_470 h_x (t_X11_goDown h_x r_i30) rfl [] rfl rfl (Nat.le_of_ble_eq_true rfl) rfl (k_vs fun V369 h368 hF367 => ?_)
                  refine GO.iinc (X := i30) (n := 1) (Y := i30 + 1) (ls1 := [some (.ref x), some (ti p0), some (.ref o1), some (.null), some (ti (i30 + 1))]) dX11_passWork_146 rfl rfl rfl rfl ?_
                  refine GO.goto (tgt := 114) dX11_passWork_149 (by decide) ?_
                  have q370 : -2147483648 ≤ vi Wi30 (vq Wi30 x 13) 3 ∧ vi Wi30 (vq Wi30 x 13) 3 ≤ 2147483647 := vi_ir
                  exact ih355 (i30 + 1) V369 ⟨by omega, by omega, trivial⟩ (by show (2147483647 - (i30 + 1)).toNat < (2147483647 - i30).toNat; omega)
            refine GO.if_ne (tgt := 106) dX11_passWork_89 (by decide) vi_ir (fun c371 => ?_) (fun c371 => ?_)
            ·
              exact hj26 
            ·
              refine GO.aload_nN dX11_passWork_92 rfl rfl ?_
              refine GO.ifnullN (tgt := 106) dX11_passWork_93 (by decide) ?_
              exact hj26 
          ·
            refine GO.astore_n (ls1 := [some (.ref x), some (ti p0), some (.ref o1), some (.ref o22), none]) dX11_passWork_84 rfl rfl rfl ?_
            refine GO.aload_n dX11_passWork_85 rfl rfl ?_
            refine GO.getI h2 fl_RX11_375 rfl rfl dX11_passWork_86 (fun _ _ => ?_)
            have hj377 : ∀ (V378 : Vmap), GO mX11_passWork K V (VS K (fun V1 => (True))) K V378 0 0 106 [some (.ref x), some (ti p0), some (.ref o1), some (.ref o22), none] [] := by
              intro V378
              refine GO.aload_n dX11_passWork_106 rfl rfl ?_
              refine GO.aload_n dX11_passWork_107 rfl rfl ?_
              refine GO.callV (ci := 10) (N := mX11_disturbNests) dX11_passWork_108 (RX11, TX11, 20) rfl gV_RX11_467 h_x (t_X11_disturbNests h_x h2) rfl [] rfl rfl (Nat.le_of_ble_eq_true rfl) rfl (k_vs fun V381 h380 hF379 => ?_)
              refine GO.iconst dX11_passWork_111 ?_
              refine GO.istore (ls1 := [some (.ref x), some (ti p0), some (.ref o1), some (.ref o22), some (ti 0)]) dX11_passWork_112 rfl rfl ?_
              refine GO.loop1 (fun i382 W => 0 ≤ i382 ∧ i382 ≤ 2147483647 ∧ True) (fun i382 => [some (.ref x), some (ti p0), some (.ref o1), some (.ref o22), some (ti i382)]) (fun i382 W => (2147483647 - i382).toNat) 0 ⟨by omega, by omega, trivial⟩ rfl (fun i382 Wi382 hp708 ih707 => ?_)
              obtain ⟨l_i382, u_i382, -⟩ := hp708
              have r_i382 : ir i382 := ⟨by omega, by omega⟩
              show GO mX11_passWork K V (VS K (fun V1 => (True))) K Wi382 0 0 114 [some (.ref x), some (ti p0), some (.ref o1), some (.ref o22), some (ti i382)] []
              refine GO.iload dX11_passWork_114 rfl ?_
              refine GO.aload_n dX11_passWork_116 rfl rfl ?_
              refine GO.getR h_x fl_RX11_79 rfl rfl dX11_passWork_117 (fun hv710 h709 => ?_)
              refine GO.getI h709 fl_RX11_199 rfl rfl dX11_passWork_120 (fun _ _ => ?_)
              refine GO.icmp_ge (tgt := 152) dX11_passWork_123 (by decide) r_i382 vi_ir (fun c711 => ?_) (fun c711 => ?_)
              ·
                exact GO.retv rfl rfl dX11_passWork_152 ⟨rfl, rfl, trivial⟩
              ·
                refine GO.aload_n dX11_passWork_126 rfl rfl ?_
                refine GO.getRaw h_x fl_RX11_79 hv710 dX11_passWork_127 ?_
                refine GO.iload dX11_passWork_130 rfl ?_
                refine GO.iconst dX11_passWork_132 ?_
                refine GO.callV (ci := 7) (N := mX8_get) dX11_passWork_133 (RX8, TX8, 4) rfl gV_RX11_209 h709 (t_X8_get h709 r_i382 (ir_c rfl)) rfl [] rfl rfl (Nat.le_of_ble_eq_true rfl) rfl (k_ip fun X714 r715 h716 => ?_)
                refine GO.iload_n dX11_passWork_136 rfl rfl ?_
                refine GO.icmp_ne (tgt := 146) dX11_passWork_137 (by decide) r715 r_p0 (fun c717 => ?_) (fun c717 => ?_)
                ·
                  refine GO.iinc (X := i382) (n := 1) (Y := i382 + 1) (ls1 := [some (.ref x), some (ti p0), some (.ref o1), some (.ref o22), some (ti (i382 + 1))]) dX11_passWork_146 rfl rfl rfl rfl ?_
                  refine GO.goto (tgt := 114) dX11_passWork_149 (by decide) ?_
                  have q718 : -2147483648 ≤ vi Wi382 (vq Wi382 x 13) 3 ∧ vi Wi382 (vq Wi382 x 13) 3 ≤ 2147483647 := vi_ir
                  exact ih707 (i382 + 1) Wi382 ⟨by omega, by omega, trivial⟩ (by show (2147483647 - (i382 + 1)).toNat < (2147483647 - i382).toNat; omega)
                ·
                  refine GO.aload_n dX11_passWork_140 rfl rfl ?_
                  refine GO.iload dX11_passWork_141 rfl ?_
                  refine GO.callV (ci := 10) (N := mX11_goDown) dX11_passWork_143 (RX11, TX11, 20) rfl gV_RX11_470 h_x (t_X11_goDown h_x r_i382) rfl [] rfl rfl (Nat.le_of_ble_eq_true rfl) rfl (k_vs fun V721 h720 hF719 => ?_)
                  refine GO.iinc (X := i382) (n := 1) (Y := i382 + 1) (ls1 := [some (.ref x), some (ti p0), some (.ref o1), some (.ref o22), some (ti (i382 + 1))]) dX11_passWork_146 rfl rfl rfl rfl ?_
                  refine GO.goto (tgt := 114) dX11_passWork_149 (by decide) ?_
                  have q722 : -2147483648 ≤ vi Wi382 (vq Wi382 x 13) 3 ∧ vi Wi382 (vq Wi382 x 13) 3 ≤ 2147483647 := vi_ir
                  exact ih707 (i382 + 1) V721 ⟨by omega, by omega, trivial⟩ (by show (2147483647 - (i382 + 1)).toNat < (2147483647 - i382).toNat; omega)
            refine GO.if_ne (tgt := 106) dX11_passWork_89 (by decide) vi_ir (fun c723 => ?_) (fun c723 => ?_)
            ·
              exact hj377  V21
            ·
              refine GO.aload_n dX11_passWork_92 rfl rfl ?_
              refine GO.ifnull dX11_passWork_93 ?_
              refine GO.aload_n dX11_passWork_96 rfl rfl ?_
              refine GO.dup dX11_passWork_97 rfl ?_
              refine GO.getI h23 fl_RX11_464 rfl rfl dX11_passWork_98 (fun _ _ => ?_)
              refine GO.iconst dX11_passWork_101 ?_
              refine GO.iadd dX11_passWork_102 ?_
              refine GO.norm (fun z724 r725 _ => ?_)
              refine GO.putI h23 fp_RX11_464 rfl (by decide +kernel) r725 (r725).1 (r725).2 dX11_passWork_103 (fun V727 e726 => ?_)
              exact hj377  V727
        ·
          refine GO.aload_n dX11_passWork_55 rfl rfl ?_
          refine GO.dup dX11_passWork_56 rfl ?_
          refine GO.getI h2 fl_RX11_458 rfl rfl dX11_passWork_57 (fun _ _ => ?_)
          refine GO.iconst dX11_passWork_60 ?_
          refine GO.iadd dX11_passWork_61 ?_
          refine GO.norm (fun z728 r729 _ => ?_)
          refine GO.putI h2 fp_RX11_458 rfl (by decide +kernel) r729 (r729).1 (r729).2 dX11_passWork_62 (fun V731 e730 => ?_)
          exact GO.retv rfl rfl dX11_passWork_65 ⟨rfl, rfl, trivial⟩
      ·
        exact GO.retv rfl rfl dX11_passWork_38 ⟨rfl, rfl, trivial⟩

set_option maxHeartbeats 1000000 in
theorem t_X11_admitParties {K : Kmap} {V : Vmap} {x : Nat} (h_x : K x = some (0, 10)) : MC mX11_admitParties K V [.ref x] (VS K (fun V1 => (True))) := by
  refine MC.start 3 (by decide +kernel) rfl rfl rfl (ls0 := [some (.ref x), none, none, none]) rfl ?_
  refine GO.iconst dX11_admitParties_0 ?_
  refine GO.istore_n (ls1 := [some (.ref x), some (ti 0), none, none]) dX11_admitParties_1 rfl rfl rfl ?_
  refine GO.loop1 (fun i1 W => 0 ≤ i1 ∧ i1 ≤ 9 ∧ True) (fun i1 => [some (.ref x), some (ti i1), none, none]) (fun i1 W => (2147483647 - i1).toNat) 0 ⟨by omega, by omega, trivial⟩ rfl (fun i1 Wi1 hp153 ih152 => ?_)
  obtain ⟨l_i1, u_i1, -⟩ := hp153
  have r_i1 : ir i1 := ⟨by omega, by omega⟩
  show GO mX11_admitParties K V (VS K (fun V1 => (True))) K Wi1 0 0 2 [some (.ref x), some (ti i1), none, none] []
  refine GO.iload_n dX11_admitParties_2 rfl rfl ?_
  refine GO.aload_n dX11_admitParties_3 rfl rfl ?_
  refine GO.getI h_x fl_RX11_36 rfl rfl dX11_admitParties_4 (fun l154 u155 => ?_)
  refine GO.icmp_ge (tgt := 89) dX11_admitParties_7 (by decide) r_i1 vi_ir (fun c156 => ?_) (fun c156 => ?_)
  ·
    exact GO.retv rfl rfl dX11_admitParties_89 ⟨rfl, rfl, trivial⟩
  ·
    refine GO.aload_n dX11_admitParties_10 rfl rfl ?_
    refine GO.iload_n dX11_admitParties_11 rfl rfl ?_
    refine GO.callV (ci := 10) (N := mX11_partyOf) dX11_admitParties_12 (RX11, TX11, 20) rfl gV_RX11_151 h_x (t_X11_partyOf h_x r_i1) rfl [] rfl rfl (Nat.le_of_ble_eq_true rfl) rfl (k_rp (fun h159 => ?_) (fun o157 h158 h159 => ?_))
    ·
      refine GO.astore_nN (ls1 := [some (.ref x), some (ti i1), some (.null), none]) dX11_admitParties_15 rfl rfl rfl ?_
      refine GO.aload_nN dX11_admitParties_16 rfl rfl ?_
      refine GO.ifnullN (tgt := 83) dX11_admitParties_17 (by decide) ?_
      refine GO.iinc (X := i1) (n := 1) (Y := i1 + 1) (ls1 := [some (.ref x), some (ti (i1 + 1)), some (.null), none]) dX11_admitParties_83 rfl rfl rfl rfl ?_
      refine GO.goto (tgt := 2) dX11_admitParties_86 (by decide) ?_
      refine GO.drop [true, true, false, true] rfl ?_
      exact ih152 (i1 + 1) Wi1 ⟨by omega, by omega, trivial⟩ (by show (2147483647 - (i1 + 1)).toNat < (2147483647 - i1).toNat; omega)
    ·
      refine GO.astore_n (ls1 := [some (.ref x), some (ti i1), some (.ref o157), none]) dX11_admitParties_15 rfl rfl rfl ?_
      refine GO.aload_n dX11_admitParties_16 rfl rfl ?_
      refine GO.ifnull dX11_admitParties_17 ?_
      refine GO.aload_n dX11_admitParties_20 rfl rfl ?_
      refine GO.getI h158 fl_RX11_341 rfl rfl dX11_admitParties_21 (fun _ _ => ?_)
      refine GO.iconst dX11_admitParties_24 ?_
      refine GO.icmp_eq (tgt := 31) dX11_admitParties_25 (by decide) vi_ir (ir_c rfl) (fun c160 => ?_) (fun c160 => ?_)
      ·
        refine GO.aload_n dX11_admitParties_31 rfl rfl ?_
        refine GO.getR h_x fl_RX11_19 rfl rfl dX11_admitParties_32 (fun hv162 h161 => ?_)
        refine GO.iload_n dX11_admitParties_35 rfl rfl ?_
        refine GO.aload_n dX11_admitParties_36 rfl rfl ?_
        refine GO.aload_n dX11_admitParties_37 rfl rfl ?_
        refine GO.getR h_x fl_RX11_12 rfl rfl dX11_admitParties_38 (fun hv164 h163 => ?_)
        refine GO.getI h163 fl_RX11_145 rfl rfl dX11_admitParties_41 (fun _ _ => ?_)
        refine GO.callV (ci := 1) (N := mX1_weigh) dX11_admitParties_44 (RX1, TX1, 13) rfl gV_RX11_279 h161 (t_X1_weigh h161 r_i1 h158 vi_ir) rfl [] rfl rfl (Nat.le_of_ble_eq_true rfl) rfl (k_vs fun V167 h166 hF165 => ?_)
        refine GO.aload_n dX11_admitParties_47 rfl rfl ?_
        refine GO.getRaw h_x fl_RX11_19 (Eq.trans (hF165 _ _ _ h_x h_x (by decide +kernel)) hv162) dX11_admitParties_48 ?_
        refine GO.bipush dX11_admitParties_51 rfl ?_
        refine GO.iconst dX11_admitParties_53 ?_
        refine GO.iconst dX11_admitParties_54 ?_
        refine GO.callV (ci := 1) (N := mX1_numberOf) dX11_admitParties_55 (RX1, TX1, 13) rfl gV_RX11_292 h161 (t_X1_numberOf h161 (ir_c rfl) (ir_c rfl) (ir_c rfl)) rfl [] rfl rfl (Nat.le_of_ble_eq_true rfl) rfl (k_ip fun X170 r171 h172 => ?_)
        refine GO.istore_n (ls1 := [some (.ref x), some (ti i1), some (.ref o157), some (ti X170)]) dX11_admitParties_58 rfl rfl rfl ?_
        refine GO.iload_n dX11_admitParties_59 rfl rfl ?_
        refine GO.iconst dX11_admitParties_60 ?_
        refine GO.icmp_eq (tgt := 83) dX11_admitParties_61 (by decide) r171 (ir_c rfl) (fun c173 => ?_) (fun c173 => ?_)
        ·
          refine GO.iinc (X := i1) (n := 1) (Y := i1 + 1) (ls1 := [some (.ref x), some (ti (i1 + 1)), some (.ref o157), some (ti X170)]) dX11_admitParties_83 rfl rfl rfl rfl ?_
          refine GO.goto (tgt := 2) dX11_admitParties_86 (by decide) ?_
          refine GO.drop [true, true, false, false] rfl ?_
          exact ih152 (i1 + 1) V167 ⟨by omega, by omega, trivial⟩ (by show (2147483647 - (i1 + 1)).toNat < (2147483647 - i1).toNat; omega)
        ·
          refine GO.aload_n dX11_admitParties_64 rfl rfl ?_
          refine GO.getI h158 fl_RX11_464 rfl rfl dX11_admitParties_65 (fun _ _ => ?_)
          refine GO.iload_n dX11_admitParties_68 rfl rfl ?_
          refine GO.icmp_lt (tgt := 83) dX11_admitParties_69 (by decide) vi_ir r171 (fun c174 => ?_) (fun c174 => ?_)
          ·
            refine GO.iinc (X := i1) (n := 1) (Y := i1 + 1) (ls1 := [some (.ref x), some (ti (i1 + 1)), some (.ref o157), some (ti X170)]) dX11_admitParties_83 rfl rfl rfl rfl ?_
            refine GO.goto (tgt := 2) dX11_admitParties_86 (by decide) ?_
            refine GO.drop [true, true, false, false] rfl ?_
            exact ih152 (i1 + 1) V167 ⟨by omega, by omega, trivial⟩ (by show (2147483647 - (i1 + 1)).toNat < (2147483647 - i1).toNat; omega)
          ·
            refine GO.aload_n dX11_admitParties_72 rfl rfl ?_
            refine GO.aload_n dX11_admitParties_73 rfl rfl ?_
            refine GO.getRaw h_x fl_RX11_12 (Eq.trans (hF165 _ _ _ h_x h_x (by decide +kernel)) hv164) dX11_admitParties_74 ?_
            refine GO.getI h163 fl_RX11_145 rfl rfl dX11_admitParties_77 (fun _ _ => ?_)
            refine GO.putI h158 fp_RX11_341 rfl (by decide +kernel) vi_ir (vi_ir).1 (vi_ir).2 dX11_admitParties_80 (fun V178 e177 => ?_)
            refine GO.iinc (X := i1) (n := 1) (Y := i1 + 1) (ls1 := [some (.ref x), some (ti (i1 + 1)), some (.ref o157), some (ti X170)]) dX11_admitParties_83 rfl rfl rfl rfl ?_
            refine GO.goto (tgt := 2) dX11_admitParties_86 (by decide) ?_
            refine GO.drop [true, true, false, false] rfl ?_
            exact ih152 (i1 + 1) V178 ⟨by omega, by omega, trivial⟩ (by show (2147483647 - (i1 + 1)).toNat < (2147483647 - i1).toNat; omega)
      ·
        refine GO.goto (tgt := 83) dX11_admitParties_28 (by decide) ?_
        refine GO.iinc (X := i1) (n := 1) (Y := i1 + 1) (ls1 := [some (.ref x), some (ti (i1 + 1)), some (.ref o157), none]) dX11_admitParties_83 rfl rfl rfl rfl ?_
        refine GO.goto (tgt := 2) dX11_admitParties_86 (by decide) ?_
        refine GO.drop [true, true, false, true] rfl ?_
        exact ih152 (i1 + 1) Wi1 ⟨by omega, by omega, trivial⟩ (by show (2147483647 - (i1 + 1)).toNat < (2147483647 - i1).toNat; omega)
