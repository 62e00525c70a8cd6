def mX11_areYearDays : MRec := (RX11, cX11_areYearDays, 2, (some .boolean), yX11_areYearDays, 0, 0, 0, 0, 0)
def mX11_dark : MRec := (RX11, cX11_dark, 3, (some .boolean), yX11_dark, 1, 21, 0, 0, 6)
def mX11_party : MRec := (RX11, cX11_party, 2, (some .int), yX11_party, 2, 43, 3, 32, 16598062275523971834049631454764644604049784928969747599982629359110265590759579298972565258335475774262847441455854010941817638484232027819904885804034680074337973575563986457329664)
def mX11_partyOf : MRec := (RX11, cX11_partyOf, 2, (some (.object "IceTreaty$Party")), yX11_partyOf, 0, 0, 0, 0, 0)
def mX11_claimsAreAsleep : MRec := (RX11, cX11_claimsAreAsleep, 3, (some .boolean), yX11_claimsAreAsleep, 5, 127, 0, 0, 123947994148171612303484120256144569967825878055802728615871649113951085856808377342222976957446615908923352254691881254912)
def mX11_settle : MRec := (RX11, cX11_settle, 2, (some .int), yX11_settle, 0, 0, 0, 0, 121416805764108066932466369176469931665150427440758760643057482912022365719828103168)
def mX11_claim : MRec := (RX11, cX11_claim, 6, (some .int), yX11_claim, 6, 149, 3, 36, 564334117367815042357687469461997916537692687584971418399409520785922930523767811394480414801376083974284049326101967224560797710576475279936335498698927153558658673408523138971992064)
def mX11_anyPlace : MRec := (RX11, cX11_anyPlace, 2, (some (.object "IceTreaty$Place")), yX11_anyPlace, 0, 0, 0, 0, 0)
def mX11_placeOf : MRec := (RX11, cX11_placeOf, 4, (some (.object "IceTreaty$Place")), yX11_placeOf, 1, 21, 0, 0, 0)
def mX11_title : MRec := (RX11, cX11_title, 5, (some .boolean), yX11_title, 6, 149, 0, 0, 123947994148171612303484120256144569967825878055802728615871649113951085856808377342222976957446615908923352254726240993280)
def mX11_tally : MRec := (RX11, cX11_tally, 3, (none : Option Jvm.ClassFile.FieldType), yX11_tally, 0, 0, 0, 0, 7588550360256754183279148073529370729071901715047420004889892225542594864082845696)
def mX11_station : MRec := (RX11, cX11_station, 7, (some .int), yX11_station, 3, 68, 3, 36, 564334117367815042357687469461997916537692687584971418399409396837928782352155507910360158656806116155994543883630105536190831833019989200630894990769389711832641975598865922513698816)
def mX11_standingStation : MRec := (RX11, cX11_standingStation, 3, (some (.object "IceTreaty$Place")), yX11_standingStation, 2, 44, 0, 0, 0)
def mX11_field : MRec := (RX11, cX11_field, 4, (some .int), yX11_field, 3, 68, 3, 36, 564334117367815042357687469461997916537692687584971418399409396837928782352155507910360158656806116148405993523373351352911683759490618471558993275721969706942749750056268447090737152)
set_option maxHeartbeats 1000000 in
theorem t_X11_areYearDays {K : Kmap} {V : Vmap} {p0 : Int} {p1 : Int} (r_p0 : ir p0) (r_p1 : ir p1) : MC mX11_areYearDays K V [ti p0, ti p1] (IP K V (fun X => (X = 0 ∨ X = 1) ∧ (X ≠ 0 → p0 ≥ 0 ∧ p0 ≤ 359 ∧ p1 ≥ p0 ∧ p1 ≤ 359) ∧ (X = 0 → (p0 < 0 ∨ p0 > 359 ∨ p1 < p0 ∨ p1 > 359)))) := by
  refine MC.start 0 (by decide +kernel) rfl rfl rfl (ls0 := [some (ti p0), some (ti p1)]) rfl ?_
  refine GO.iload_n dX11_areYearDays_0 rfl rfl ?_
  refine GO.if_lt (tgt := 20) dX11_areYearDays_1 (by decide) r_p0 (fun c1 => ?_) (fun c1 => ?_)
  ·
    refine GO.iconst dX11_areYearDays_20 ?_
    exact GO.retz rfl rfl dX11_areYearDays_21 (Or.inl rfl) ⟨rfl, rfl, _, rfl, (ir_c rfl), ⟨Or.inl rfl, fun h => absurd rfl h, fun h => by omega⟩⟩
  ·
    refine GO.iload_n dX11_areYearDays_4 rfl rfl ?_
    refine GO.iload_n dX11_areYearDays_5 rfl rfl ?_
    refine GO.icmp_gt (tgt := 20) dX11_areYearDays_6 (by decide) r_p0 r_p1 (fun c2 => ?_) (fun c2 => ?_)
    ·
      refine GO.iconst dX11_areYearDays_20 ?_
      exact GO.retz rfl rfl dX11_areYearDays_21 (Or.inl rfl) ⟨rfl, rfl, _, rfl, (ir_c rfl), ⟨Or.inl rfl, fun h => absurd rfl h, fun h => by omega⟩⟩
    ·
      refine GO.iload_n dX11_areYearDays_9 rfl rfl ?_
      refine GO.sipush dX11_areYearDays_10 rfl ?_
      refine GO.icmp_ge (tgt := 20) dX11_areYearDays_13 (by decide) r_p1 (ir_c rfl) (fun c3 => ?_) (fun c3 => ?_)
      ·
        refine GO.iconst dX11_areYearDays_20 ?_
        exact GO.retz rfl rfl dX11_areYearDays_21 (Or.inl rfl) ⟨rfl, rfl, _, rfl, (ir_c rfl), ⟨Or.inl rfl, fun h => absurd rfl h, fun h => by omega⟩⟩
      ·
        refine GO.iconst dX11_areYearDays_16 ?_
        refine GO.goto (tgt := 21) dX11_areYearDays_17 (by decide) ?_
        exact GO.retz rfl rfl dX11_areYearDays_21 (Or.inr rfl) ⟨rfl, rfl, _, rfl, (ir_c rfl), ⟨Or.inr rfl, fun h => by omega, fun h => absurd h (by decide)⟩⟩

set_option maxHeartbeats 1000000 in
theorem t_X11_dark {K : Kmap} {V : Vmap} {x : Nat} {p0 : Int} {p1 : Int} (h_x : K x = some (0, 10)) (r_p0 : ir p0) (r_p1 : ir p1) : MC mX11_dark K V [.ref x, ti p0, ti p1] (IS K (fun X V1 => (X = 0 ∨ X = 1) ∧ (X ≠ 0 → p0 ≥ 0 ∧ p0 ≤ 359 ∧ p1 ≥ p0 ∧ p1 ≤ 359) ∧ (X = 0 → (p0 < 0 ∨ p0 > 359 ∨ p1 < p0 ∨ p1 > 359)))) := by
  refine MC.start 0 (by decide +kernel) rfl rfl rfl (ls0 := [some (.ref x), some (ti p0), some (ti p1)]) rfl ?_
  refine GO.iload_n dX11_dark_0 rfl rfl ?_
  refine GO.iload_n dX11_dark_1 rfl rfl ?_
  refine GO.callS (N := mX11_areYearDays) dX11_dark_2 gS_RX11_135 (t_X11_areYearDays r_p0 r_p1) rfl [] rfl rfl (Nat.le_of_ble_eq_true rfl) rfl (k_ip fun X1 r2 h3 => ?_)
  refine GO.if_ne (tgt := 10) dX11_dark_5 (by decide) r2 (fun c4 => ?_) (fun c4 => ?_)
  ·
    have q5 := h3.2.1 (by omega)
    refine GO.aload_n dX11_dark_10 rfl rfl ?_
    refine GO.getR h_x fl_RX11_12 rfl rfl dX11_dark_11 (fun hv7 h6 => ?_)
    refine GO.iload_n dX11_dark_14 rfl rfl ?_
    refine GO.putI h6 fp_RX11_139 rfl (by decide +kernel) r_p0 (r_p0).1 (r_p0).2 dX11_dark_15 (fun V9 e8 => ?_)
    refine GO.aload_n dX11_dark_18 rfl rfl ?_
    refine GO.getRaw h_x fl_RX11_12 (Eq.trans (uq_ne e8 (Or.inl (K_ne h_x h6 (by decide)))) hv7) dX11_dark_19 ?_
    refine GO.iload_n dX11_dark_22 rfl rfl ?_
    refine GO.putI h6 fp_RX11_142 rfl (by decide +kernel) r_p1 (r_p1).1 (r_p1).2 dX11_dark_23 (fun V13 e12 => ?_)
    refine GO.iconst dX11_dark_26 ?_
    exact GO.retz rfl rfl dX11_dark_27 (Or.inr rfl) ⟨rfl, _, rfl, (ir_c rfl), ⟨Or.inr rfl, fun h => by omega, fun h => absurd h (by decide)⟩⟩
  ·
    have q14 := h3.2.2 (by omega)
    refine GO.iconst dX11_dark_8 ?_
    exact GO.retz rfl rfl dX11_dark_9 (Or.inl rfl) ⟨rfl, _, rfl, (ir_c rfl), ⟨Or.inl rfl, fun h => absurd rfl h, fun h => by omega⟩⟩

set_option maxHeartbeats 1000000 in
theorem t_X11_party {K : Kmap} {V : Vmap} {x : Nat} {p0 : Int} (h_x : K x = some (0, 10)) (r_p0 : ir p0) (z_p0 : p0 = 0 ∨ p0 = 1) (w_0 : PN V x) : MC mX11_party K V [.ref x, ti p0] (IX (fun X _ V1 => (((X = (-1) ∧ vi V1 x 4 = vi V x 4 ∧ vi V x 4 ≥ 9) ∨ (X = vi V x 4 ∧ vi V1 x 4 = (vi V x 4 + 1) ∧ vi V x 4 < 9))) ∧ (PN V1 x) ∧ (NEWP V V1 x X) ∧ (NEWY K V V1 x X))) := by
  refine MC.start 0 (by decide +kernel) rfl rfl rfl (ls0 := [some (.ref x), some (ti p0)]) rfl ?_
  refine GO.useWT (fun hW_0 => ?_)
  refine GO.aload_n dX11_party_0 rfl rfl ?_
  refine GO.getI h_x fl_RX11_36 rfl rfl dX11_party_1 (fun l1 u2 => ?_)
  refine GO.aload_n dX11_party_4 rfl rfl ?_
  refine GO.getA (n := 9) h_x fl_RX11_32 rfl rfl rfl rfl dX11_party_5 (fun hv4 h3 => ?_)
  refine GO.alen h3 dX11_party_8 (fun h5 => ?_)
  refine GO.icmp_lt (tgt := 14) dX11_party_9 (by decide) vi_ir ⟨by omega, by omega⟩ (fun c6 => ?_) (fun c6 => ?_)
  ·
    refine GO.aload_n dX11_party_14 rfl rfl ?_
    refine GO.getRaw h_x fl_RX11_32 hv4 dX11_party_15 ?_
    refine GO.aload_n dX11_party_18 rfl rfl ?_
    refine GO.getI h_x fl_RX11_36 rfl rfl dX11_party_19 (fun l9 u10 => ?_)
    refine GO.new (ci := 14) (RX2, TX2, 5) tyX2 rfl rfl lays_2 tyX2_ok gw_219 gw_325 gw_9 rfl rfl dX11_party_22 (fun o11 K12 V18 hq13 hK14 hE15 h16 _ hV17 => ?_)
    have h19 := hE15.obj (by decide) h_x
    have h20 := hE15.arr h3
    refine GO.dup dX11_party_25 rfl ?_
    refine GO.iload_n dX11_party_26 rfl rfl ?_
    refine GO.if_eq (tgt := 40) dX11_party_27 (by decide) r_p0 (fun c21 => ?_) (fun c21 => ?_)
    ·
      refine GO.iconst dX11_party_40 ?_
      refine GO.callI (N := mX2_init) dX11_party_41 gI_RX11_148 rfl (t_X2_init h16 (ir_c rfl)) rfl [.ref o11, ti (vi V x 4), .ref (vq V x 3)] rfl rfl (Nat.le_of_ble_eq_true rfl) rfl (k_vx fun K24 V26 h25 hE23 hF22 => ?_)
      have h27 := hE23.obj (by decide) h19
      have h28 := hE23.arr h20
      have h29 := h25.1.1
      have ir0_41 := h25.1.2.2.2.1
      have ir1_41 := h25.1.2.2.2.2
      have q30 : vi V26 o11 2 = 0 := h25.1.2.1
      have hzr31 : ZR K12 V26 o11 4 7 0 := h25.1.2.2.1
      refine GO.aast (t := 4) (by decide) (RX2, TX2, 5) rfl rfl rfl (by decide +kernel) h28 h29 vi_ir (by omega) (by omega) dX11_party_44 (fun V33 e32 => ?_)
      refine GO.aload_n dX11_party_45 rfl rfl ?_
      refine GO.dup dX11_party_46 rfl ?_
      refine GO.getI h27 fl_RX11_36 rfl rfl dX11_party_47 (fun l34 u35 => ?_)
      have e38 : vi V18 x 4 = vi V x 4 := vi_nw hV17 (K_old h_x hq13)
      have e37 : vi V26 x 4 = vi V18 x 4 := vi_fr hF22 h19 h27 (by decide +kernel)
      have e36 : vi V33 x 4 = vi V26 x 4 := vi_up e32 (Or.inl (K_ne h27 h28 (by decide)))
      refine GO.dup_x1 dX11_party_50 rfl rfl ?_
      refine GO.iconst dX11_party_51 ?_
      refine GO.iadd dX11_party_52 ?_
      refine GO.putI h27 fp_RX11_36 rfl (by decide +kernel) ⟨by omega, by omega⟩ (by omega) (by omega) dX11_party_53 (fun V40 e39 => ?_)
      have e41 : vi V40 x 4 = (vi V33 x 4) + 1 := upd2_int e39 ⟨by omega, by omega⟩
      exact GO.reti rfl rfl dX11_party_56 ⟨_, rfl, vi_ir, ⟨(by first | exact trivial | omega), (by first | exact w_0 | exact NN.push (t := 4) (by decide) w_0 h_x (by assumption) (by assumption) (by assumption) (by assumption) (by assumption) (by assumption) (by assumption) (by assumption) (by decide +kernel) (by assumption) (by assumption) (by omega) (by omega) ⟨by omega, by omega⟩), (by first | exact NEWP.no | exact NEWP.mk w_0 hW_0 h_x (by assumption) (by assumption) (by assumption) (by assumption) (by assumption) (by assumption) (by assumption) (by assumption) (by decide +kernel) (by assumption) (by assumption) (by omega) (by omega) ⟨by omega, by omega⟩ (by omega)), (by first | exact NEWY.no | exact NEWY.mk h_x hW_0 hq13 hK14 hV17 ir0_41 ir1_41 (by assumption) (by assumption) (by omega) (by omega) ⟨by omega, by omega⟩ (by omega))⟩⟩
    ·
      refine GO.aload_n dX11_party_30 rfl rfl ?_
      refine GO.getR h19 fl_RX11_12 rfl rfl dX11_party_31 (fun hv43 h42 => ?_)
      refine GO.getI h42 fl_RX11_145 rfl rfl dX11_party_34 (fun l44 u45 => ?_)
      refine GO.goto (tgt := 41) dX11_party_37 (by decide) ?_
      refine GO.callI (N := mX2_init) dX11_party_41 gI_RX11_148 rfl (t_X2_init h16 vi_ir) rfl [.ref o11, ti (vi V x 4), .ref (vq V x 3)] rfl rfl (Nat.le_of_ble_eq_true rfl) rfl (k_vx fun K48 V50 h49 hE47 hF46 => ?_)
      have h51 := hE47.obj (by decide) h19
      have h52 := hE47.arr h20
      have h53 := h49.1.1
      have ir0_41 := h49.1.2.2.2.1
      have ir1_41 := h49.1.2.2.2.2
      have q54 : vi V50 o11 2 = 0 := h49.1.2.1
      have hzr55 : ZR K12 V50 o11 4 7 0 := h49.1.2.2.1
      refine GO.aast (t := 4) (by decide) (RX2, TX2, 5) rfl rfl rfl (by decide +kernel) h52 h53 vi_ir (by omega) (by omega) dX11_party_44 (fun V57 e56 => ?_)
      refine GO.aload_n dX11_party_45 rfl rfl ?_
      refine GO.dup dX11_party_46 rfl ?_
      refine GO.getI h51 fl_RX11_36 rfl rfl dX11_party_47 (fun l58 u59 => ?_)
      have e62 : vi V18 x 4 = vi V x 4 := vi_nw hV17 (K_old h_x hq13)
      have e61 : vi V50 x 4 = vi V18 x 4 := vi_fr hF46 h19 h51 (by decide +kernel)
      have e60 : vi V57 x 4 = vi V50 x 4 := vi_up e56 (Or.inl (K_ne h51 h52 (by decide)))
      refine GO.dup_x1 dX11_party_50 rfl rfl ?_
      refine GO.iconst dX11_party_51 ?_
      refine GO.iadd dX11_party_52 ?_
      refine GO.putI h51 fp_RX11_36 rfl (by decide +kernel) ⟨by omega, by omega⟩ (by omega) (by omega) dX11_party_53 (fun V64 e63 => ?_)
      have e65 : vi V64 x 4 = (vi V57 x 4) + 1 := upd2_int e63 ⟨by omega, by omega⟩
      exact GO.reti rfl rfl dX11_party_56 ⟨_, rfl, vi_ir, ⟨(by first | exact trivial | omega), (by first | exact w_0 | exact NN.push (t := 4) (by decide) w_0 h_x (by assumption) (by assumption) (by assumption) (by assumption) (by assumption) (by assumption) (by assumption) (by assumption) (by decide +kernel) (by assumption) (by assumption) (by omega) (by omega) ⟨by omega, by omega⟩), (by first | exact NEWP.no | exact NEWP.mk w_0 hW_0 h_x (by assumption) (by assumption) (by assumption) (by assumption) (by assumption) (by assumption) (by assumption) (by assumption) (by decide +kernel) (by assumption) (by assumption) (by omega) (by omega) ⟨by omega, by omega⟩ (by omega)), (by first | exact NEWY.no | exact NEWY.mk h_x hW_0 hq13 hK14 hV17 ir0_41 ir1_41 (by assumption) (by assumption) (by omega) (by omega) ⟨by omega, by omega⟩ (by omega))⟩⟩
  ·
    refine GO.iconst dX11_party_12 ?_
    exact GO.reti rfl rfl dX11_party_13 ⟨_, rfl, (ir_c rfl), ⟨(by first | exact trivial | omega), (by first | exact w_0 | exact NN.push (t := 4) (by decide) w_0 h_x (by assumption) (by assumption) (by assumption) (by assumption) (by assumption) (by assumption) (by assumption) (by assumption) (by decide +kernel) (by assumption) (by assumption) (by omega) (by omega) ⟨by omega, by omega⟩), (by first | exact NEWP.no | exact NEWP.mk w_0 hW_0 h_x (by assumption) (by assumption) (by assumption) (by assumption) (by assumption) (by assumption) (by assumption) (by assumption) (by decide +kernel) (by assumption) (by assumption) (by omega) (by omega) ⟨by omega, by omega⟩ (by omega)), (by first | exact NEWY.no)⟩⟩

set_option maxHeartbeats 1000000 in
theorem t_X11_partyOf {K : Kmap} {V : Vmap} {x : Nat} {p0 : Int} (h_x : K x = some (0, 10)) (r_p0 : ir p0) : MC mX11_partyOf K V [.ref x, ti p0] (RP K V 2 ((True) ∧ (PN V x → p0 < 0 ∨ vi V x 4 ≤ p0)) (fun q => (p0 ≥ 0 ∧ p0 < vi V x 4) ∧ (q = vq V (vq V x 3) (p0).toNat))) := by
  refine MC.start 0 (by decide +kernel) rfl rfl rfl (ls0 := [some (.ref x), some (ti p0)]) rfl ?_
  refine GO.iload_n dX11_partyOf_0 rfl rfl ?_
  refine GO.if_lt (tgt := 30) dX11_partyOf_1 (by decide) r_p0 (fun c1 => ?_) (fun c1 => ?_)
  ·
    refine GO.null dX11_partyOf_30 ?_
    exact GO.reta rfl rfl (Or.inl ⟨_, rfl⟩) dX11_partyOf_31 (Or.inl rfl) ⟨rfl, rfl, Or.inl ⟨rfl, ⟨trivial, (by first | exact fun _ => (by omega))⟩⟩⟩
  ·
    refine GO.iload_n dX11_partyOf_4 rfl rfl ?_
    refine GO.aload_n dX11_partyOf_5 rfl rfl ?_
    refine GO.getI h_x fl_RX11_36 rfl rfl dX11_partyOf_6 (fun l2 u3 => ?_)
    refine GO.icmp_ge (tgt := 30) dX11_partyOf_9 (by decide) r_p0 vi_ir (fun c4 => ?_) (fun c4 => ?_)
    ·
      refine GO.null dX11_partyOf_30 ?_
      exact GO.reta rfl rfl (Or.inl ⟨_, rfl⟩) dX11_partyOf_31 (Or.inl rfl) ⟨rfl, rfl, Or.inl ⟨rfl, ⟨trivial, (by first | exact fun _ => (by omega))⟩⟩⟩
    ·
      refine GO.iload_n dX11_partyOf_12 rfl rfl ?_
      refine GO.aload_n dX11_partyOf_13 rfl rfl ?_
      refine GO.getA (n := 9) h_x fl_RX11_32 rfl rfl rfl rfl dX11_partyOf_14 (fun hv6 h5 => ?_)
      refine GO.alen h5 dX11_partyOf_17 (fun h7 => ?_)
      have q9 : -2147483648 ≤ p0 ∧ p0 ≤ 2147483647 := r_p0
      refine GO.icmp_ge (tgt := 30) dX11_partyOf_18 (by decide) r_p0 ⟨by omega, by omega⟩ (fun h => by exfalso; omega) (fun c8 => ?_)
      refine GO.aload_n dX11_partyOf_21 rfl rfl ?_
      refine GO.getRaw h_x fl_RX11_32 hv6 dX11_partyOf_22 ?_
      refine GO.iload_n dX11_partyOf_25 rfl rfl ?_
      refine GO.aald (t := 4) rfl rfl h5 r_p0 (by omega) (by omega) dX11_partyOf_26 (fun hnul => ?_) (fun _ h12 => ?_)
      ·
        refine GO.goto (tgt := 31) dX11_partyOf_27 (by decide) ?_
        exact GO.reta rfl rfl (Or.inl ⟨_, rfl⟩) dX11_partyOf_31 (Or.inl rfl) ⟨rfl, rfl, Or.inl ⟨rfl, ⟨trivial, (by first | exact fun _ => (by omega) | exact fun hpn => absurd hnul (hpn p0.toNat (by omega)))⟩⟩⟩
      ·
        refine GO.goto (tgt := 31) dX11_partyOf_27 (by decide) ?_
        exact GO.reta rfl rfl (Or.inl ⟨_, rfl⟩) dX11_partyOf_31 (Or.inr ⟨_, rfl⟩) ⟨rfl, rfl, Or.inr ⟨_, rfl, h12, ⟨by omega, rfl⟩⟩⟩

set_option maxHeartbeats 1000000 in
theorem t_X11_claimsAreAsleep {K : Kmap} {V : Vmap} {x : Nat} {p0 : Int} {p1 : Nat} (h_x : K x = some (0, 10)) (r_p0 : ir p0) (h_p1 : K p1 = some (0, 2)) (w_0 : CWI K V x) : MC mX11_claimsAreAsleep K V [.ref x, ti p0, .ref p1] (IS K (fun X V1 => (X = 0 ∨ X = 1) ∧ (X ≠ 0 → True) ∧ (X = 0 → True) ∧ (CAS K V V1 x p0 p1 X))) := by
  refine MC.start 0 (by decide +kernel) rfl rfl rfl (ls0 := [some (.ref x), some (ti p0), some (.ref p1)]) rfl ?_
  refine GO.useWT (fun hW_0 => ?_)
  refine GO.aload_n dX11_claimsAreAsleep_0 rfl rfl ?_
  refine GO.getR h_x fl_RX11_19 rfl rfl dX11_claimsAreAsleep_1 (fun hv2 h1 => ?_)
  refine GO.iload_n dX11_claimsAreAsleep_4 rfl rfl ?_
  refine GO.aload_n dX11_claimsAreAsleep_5 rfl rfl ?_
  refine GO.aload_n dX11_claimsAreAsleep_6 rfl rfl ?_
  refine GO.getR h_x fl_RX11_12 rfl rfl dX11_claimsAreAsleep_7 (fun hv4 h3 => ?_)
  refine GO.getI h3 fl_RX11_145 rfl rfl dX11_claimsAreAsleep_10 (fun l5 u6 => ?_)
  refine GO.callV (ci := 1) (N := mX1_weigh) dX11_claimsAreAsleep_13 (RX1, TX1, 13) rfl gV_RX11_279 h1 (t_X1_weigh h1 r_p0 h_p1 vi_ir) rfl [] rfl rfl (Nat.le_of_ble_eq_true rfl) rfl (k_vs fun V9 h8 hF7 => ?_)
  have raw_weigh := h8.2
  have rw13 := h8.2
  refine GO.aload_n dX11_claimsAreAsleep_16 rfl rfl ?_
  refine GO.getRaw h_x fl_RX11_19 (Eq.trans (hF7 _ _ _ h_x h_x (by decide +kernel)) hv2) dX11_claimsAreAsleep_17 ?_
  refine GO.bipush dX11_claimsAreAsleep_20 rfl ?_
  refine GO.iconst dX11_claimsAreAsleep_22 ?_
  refine GO.iconst dX11_claimsAreAsleep_23 ?_
  refine GO.callV (ci := 1) (N := mX1_numberOf) dX11_claimsAreAsleep_24 (RX1, TX1, 13) rfl gV_RX11_292 h1 (t_X1_numberOf h1 (ir_c rfl) (ir_c rfl) (ir_c rfl)) rfl [] rfl rfl (Nat.le_of_ble_eq_true rfl) rfl (k_ip fun X12 r13 h14 => ?_)
  have raw_numberOf := h14.2
  have rw24 := h14.2
  refine GO.iconst dX11_claimsAreAsleep_27 ?_
  refine GO.icmp_eq (tgt := 35) dX11_claimsAreAsleep_28 (by decide) r13 (ir_c rfl) (fun c15 => ?_) (fun c15 => ?_)
  ·
    refine GO.iconst dX11_claimsAreAsleep_35 ?_
    exact GO.retz rfl rfl dX11_claimsAreAsleep_36 (Or.inl rfl) ⟨rfl, _, rfl, (ir_c rfl), ⟨Or.inl rfl, fun _ => trivial, fun _ => trivial, CAS.mk w_0 rw13 rfl (by omega) hF7 hW_0 h_x (by decide +kernel) (by decide +kernel) rw24 (by constructor <;> intro _ <;> omega)⟩⟩
  ·
    refine GO.iconst dX11_claimsAreAsleep_31 ?_
    refine GO.goto (tgt := 36) dX11_claimsAreAsleep_32 (by decide) ?_
    exact GO.retz rfl rfl dX11_claimsAreAsleep_36 (Or.inr rfl) ⟨rfl, _, rfl, (ir_c rfl), ⟨Or.inr rfl, fun _ => trivial, fun _ => trivial, CAS.mk w_0 rw13 rfl (by omega) hF7 hW_0 h_x (by decide +kernel) (by decide +kernel) rw24 (by constructor <;> intro _ <;> omega)⟩⟩

set_option maxHeartbeats 1000000 in
theorem t_X11_settle {K : Kmap} {V : Vmap} {x : Nat} {p0 : Nat} (h_x : K x = some (0, 10)) (h_p0 : K p0 = some (0, 3)) : MC mX11_settle K V [.ref x, .ref p0] (IS K (fun X V1 => (X ≥ (-2147483648) ∧ X ≤ 2147483647) ∧ (SET V V1 x p0 X))) := by
  refine MC.start 0 (by decide +kernel) rfl rfl rfl (ls0 := [some (.ref x), some (.ref p0)]) rfl ?_
  refine GO.aload_n dX11_settle_0 rfl rfl ?_
  refine GO.getI h_x fl_RX11_46 rfl rfl dX11_settle_1 (fun l1 u2 => ?_)
  refine GO.aload_n dX11_settle_4 rfl rfl ?_
  refine GO.getA (n := 60) h_x fl_RX11_42 rfl rfl rfl rfl dX11_settle_5 (fun hv4 h3 => ?_)
  refine GO.alen h3 dX11_settle_8 (fun h5 => ?_)
  refine GO.icmp_lt (tgt := 14) dX11_settle_9 (by decide) vi_ir ⟨by omega, by omega⟩ (fun c6 => ?_) (fun c6 => ?_)
  ·
    refine GO.aload_n dX11_settle_14 rfl rfl ?_
    refine GO.getRaw h_x fl_RX11_42 hv4 dX11_settle_15 ?_
    refine GO.aload_n dX11_settle_18 rfl rfl ?_
    refine GO.getI h_x fl_RX11_46 rfl rfl dX11_settle_19 (fun l9 u10 => ?_)
    refine GO.aload_n dX11_settle_22 rfl rfl ?_
    refine GO.aast (t := 5) (by decide) (RX3, TX3, 16) rfl rfl rfl (by decide +kernel) h3 h_p0 vi_ir (by omega) (by omega) dX11_settle_23 (fun V12 e11 => ?_)
    refine GO.aload_n dX11_settle_24 rfl rfl ?_
    refine GO.dup dX11_settle_25 rfl ?_
    refine GO.getI h_x fl_RX11_46 rfl rfl dX11_settle_26 (fun l13 u14 => ?_)
    have e15 : vi V12 x 6 = vi V x 6 := vi_up e11 (Or.inl (K_ne h_x h3 (by decide)))
    refine GO.dup_x1 dX11_settle_29 rfl rfl ?_
    refine GO.iconst dX11_settle_30 ?_
    refine GO.iadd dX11_settle_31 ?_
    refine GO.putI h_x fp_RX11_46 rfl (by decide +kernel) ⟨by omega, by omega⟩ (by omega) (by omega) dX11_settle_32 (fun V17 e16 => ?_)
    exact GO.reti rfl rfl dX11_settle_35 ⟨rfl, _, rfl, vi_ir, ⟨(by first | exact trivial | omega), (by first | exact SET.no (by omega) rfl | exact SET.ok (by omega) e11 e16 (by omega) (by omega))⟩⟩
  ·
    refine GO.iconst dX11_settle_12 ?_
    exact GO.reti rfl rfl dX11_settle_13 ⟨rfl, _, rfl, (ir_c rfl), ⟨(by first | exact trivial | omega), (by first | exact SET.no (by omega) rfl | exact SET.ok (by omega) (by assumption) (by assumption) (by omega) (by omega))⟩⟩

set_option maxHeartbeats 1000000 in
theorem t_X11_claim {K : Kmap} {V : Vmap} {x : Nat} {p0 : Int} {p1 : Int} {p2 : Int} {p3 : Int} (h_x : K x = some (0, 10)) (r_p0 : ir p0) (r_p1 : ir p1) (r_p2 : ir p2) (r_p3 : ir p3) (w_0 : CWI K V x) : MC mX11_claim K V [.ref x, ti p0, ti p1, ti p2, ti p3] (IX (fun X K1 V1 => (X ≥ (-2147483648) ∧ X ≤ 2147483647) ∧ (CWI K1 V1 x) ∧ (CLM K V V1 x p0 p1 p2 p3 X))) := by
  refine MC.start 1 (by decide +kernel) rfl rfl rfl (ls0 := [some (.ref x), some (ti p0), some (ti p1), some (ti p2), some (ti p3), none]) rfl ?_
  refine GO.useWT (fun hW_0 => ?_)
  refine GO.useWT (fun hW_0 => ?_)
  refine GO.aload_n dX11_claim_0 rfl rfl ?_
  refine GO.iload_n dX11_claim_1 rfl rfl ?_
  refine GO.callV (ci := 10) (N := mX11_partyOf) dX11_claim_2 (RX11, TX11, 20) rfl gV_RX11_151 h_x (t_X11_partyOf h_x r_p0) rfl [] rfl rfl (Nat.le_of_ble_eq_true rfl) rfl (k_rp (fun h3 => ?_) (fun o1 h2 h3 => ?_))
  ·
    have rwn2 := h3.2
    have hn4 : PN V x → p0 < 0 ∨ vi V x 4 ≤ p0 := h3.2
    refine GO.astoreN (ls1 := [some (.ref x), some (ti p0), some (ti p1), some (ti p2), some (ti p3), some (.null)]) dX11_claim_5 rfl rfl ?_
    refine GO.aloadN dX11_claim_7 rfl ?_
    refine GO.ifnullN (tgt := 46) dX11_claim_9 (by decide) ?_
    refine GO.iconst dX11_claim_46 ?_
    exact GO.reti rfl rfl dX11_claim_47 ⟨_, rfl, (ir_c rfl), ⟨(by first | exact trivial | omega), (by first | exact w_0), (by first | exact CLM.no (fun g => by have h9 := rwn2 w_0.1; have h8 := g.1; have h7 := g.2.1; omega) rfl | exact CLM.no (fun g => by have h9 := g.2.2.2; omega) rfl)⟩⟩
  ·
    have hp5 : p0 ≥ 0 ∧ p0 < vi V x 4 := h3.1
    have rwp2 := h3.2
    have hq6 : o1 = vq V (vq V x 3) (p0).toNat := h3.2
    refine GO.astore (ls1 := [some (.ref x), some (ti p0), some (ti p1), some (ti p2), some (ti p3), some (.ref o1)]) dX11_claim_5 rfl rfl ?_
    refine GO.aload dX11_claim_7 rfl ?_
    refine GO.ifnull dX11_claim_9 ?_
    refine GO.aload_n dX11_claim_12 rfl rfl ?_
    refine GO.getR h_x fl_RX11_12 rfl rfl dX11_claim_13 (fun hv8 h7 => ?_)
    refine GO.iload_n dX11_claim_16 rfl rfl ?_
    refine GO.iload_n dX11_claim_17 rfl rfl ?_
    refine GO.callV (ci := 0) (N := mX0_isRectangle) dX11_claim_18 (RX0, TX0, 13) rfl gV_RX11_155 h7 (t_X0_isRectangle h7 r_p1 r_p2) rfl [] rfl rfl (Nat.le_of_ble_eq_true rfl) rfl (k_ip fun X9 r10 h11 => ?_)
    have raw_isRectangle := h11.2.2.2
    have rw18 := h11.2.2.2
    refine GO.if_eq (tgt := 46) dX11_claim_21 (by decide) r10 (fun c12 => ?_) (fun c12 => ?_)
    ·
      refine GO.iconst dX11_claim_46 ?_
      exact GO.reti rfl rfl dX11_claim_47 ⟨_, rfl, (ir_c rfl), ⟨(by first | exact trivial | omega), (by first | exact w_0), (by first | exact CLM.no (fun g => absurd (rw18.mpr g.2.2.1) (by omega)) rfl | exact CLM.no (fun g => by have h9 := g.2.2.2; omega) rfl)⟩⟩
    ·
      refine GO.iload dX11_claim_24 rfl ?_
      refine GO.iconst dX11_claim_26 ?_
      refine GO.sipush dX11_claim_27 rfl ?_
      refine GO.callS (N := mX11_between) dX11_claim_30 gS_RX11_112 (t_X11_between r_p3 (ir_c rfl) (ir_c rfl)) rfl [] rfl rfl (Nat.le_of_ble_eq_true rfl) rfl (k_ip fun X13 r14 h15 => ?_)
      refine GO.if_eq (tgt := 46) dX11_claim_33 (by decide) r14 (fun c16 => ?_) (fun c16 => ?_)
      ·
        have q17 := h15.2.2 (by omega)
        refine GO.iconst dX11_claim_46 ?_
        exact GO.reti rfl rfl dX11_claim_47 ⟨_, rfl, (ir_c rfl), ⟨(by first | exact trivial | omega), (by first | exact w_0), (by first | exact CLM.no (fun g => absurd (rw18.mpr g.2.2.1) (by omega)) rfl | exact CLM.no (fun g => by have h9 := g.2.2.2; omega) rfl)⟩⟩
      ·
        have q18 := h15.2.1 (by omega)
        refine GO.aload_n dX11_claim_36 rfl rfl ?_
        refine GO.iload_n dX11_claim_37 rfl rfl ?_
        refine GO.aload dX11_claim_38 rfl ?_
        refine GO.callV (ci := 10) (N := mX11_claimsAreAsleep) dX11_claim_40 (RX11, TX11, 20) rfl gV_RX11_158 h_x (t_X11_claimsAreAsleep h_x r_p0 h2 (w_0)) rfl [] rfl rfl (Nat.le_of_ble_eq_true rfl) rfl (k_is fun X19 V23 r20 h21 hF22 => ?_)
        have raw_claimsAreAsleep := h21.2.2.2
        have rw40 := h21.2.2.2
        have hcs := rw40 rwp2 (by omega) (by omega)
        refine GO.useWT (fun hWa => ?_)
        refine GO.useWT (fun hWa => ?_)
        have sm0 : SMC V V23 x := SMC.fr hF22 ext.rf hW_0 h_x (by decide +kernel) (by decide +kernel) (by decide +kernel)
        have hasl := ASL.yes w_0 (fun L hL => (rw40 rwp2 (by omega) (by omega)).2 L hL)
        refine GO.if_eq (tgt := 48) dX11_claim_43 (by decide) r20 (fun c24 => ?_) (fun c24 => ?_)
        ·
          refine GO.aload_n dX11_claim_48 rfl rfl ?_
          refine GO.new (ci := 15) (RX3, TX3, 16) tyX3 rfl rfl lays_3 tyX3_ok gw_221 gw_425 gw_10 rfl rfl dX11_claim_49 (fun o25 K26 V32 hq27 hK28 hE29 h30 _ hV31 => ?_)
          have h33 := hE29.obj (by decide) h_x
          have h34 := hE29.obj (by decide) h2
          refine GO.useWT (fun hWb => ?_)
          have hc1 := CWI.fr (ws := 0) hcs.1 (FR.rf.new ext.rf hq27 hK28 hV31) hE29 hWa h_x (by decide +kernel) (by decide +kernel) (by decide +kernel)
          have hx1 := hE29.obj (Or.inl (by decide)) h_x
          refine GO.useWT (fun hWn => ?_)
          have sm1 := SMC.tr sm0 (SMC.fr (ws := 0) (FR.rf.new ext.rf hq27 hK28 hV31) hE29 hWa h_x rfl rfl rfl)
          have hx1n := hE29.obj (Or.inl (by decide)) h_x
          refine GO.dup dX11_claim_52 rfl ?_
          refine GO.iconst dX11_claim_53 ?_
          refine GO.iload_n dX11_claim_54 rfl rfl ?_
          refine GO.iload_n dX11_claim_55 rfl rfl ?_
          refine GO.iload_n dX11_claim_56 rfl rfl ?_
          refine GO.iload dX11_claim_57 rfl ?_
          refine GO.callI (N := mX3_init) dX11_claim_59 gI_RX11_162 rfl (t_X3_init h30 (ir_c rfl) r_p0 r_p1 r_p2 r_p3) rfl [.ref o25, .ref x] rfl rfl (Nat.le_of_ble_eq_true rfl) rfl (k_vx fun K37 V39 h38 hE36 hF35 => ?_)
          have h40 := hE36.obj (by decide) h33
          have h41 := hE36.obj (by decide) h34
          have h42 := h38.1.1
          have ir0_59 := h38.1.2
          refine GO.useWT (fun hWc => ?_)
          have hc2 := CWI.fr hc1 hF35 hE36 hWb hx1 (by decide +kernel) (by decide +kernel) (by decide +kernel)
          have hx2 := hE36.obj (Or.inl (by decide)) hx1
          refine GO.useWT (fun hWi => ?_)
          have sm2 := SMC.tr sm1 (SMC.fr hF35 hE36 hWn hx1n (by decide +kernel) (by decide +kernel) (by decide +kernel))
          have hx2n := hE36.obj (Or.inl (by decide)) hx1n
          have hEE := hE29.tr hE36
          refine GO.callV (ci := 10) (N := mX11_settle) dX11_claim_62 (RX11, TX11, 20) rfl gV_RX11_165 h40 (t_X11_settle h40 h42) rfl [] rfl rfl (Nat.le_of_ble_eq_true rfl) rfl (k_is fun X43 V47 r44 h45 hF46 => ?_)
          have raw_settle := h45.2
          have rw62 := h45.2
          have hc3 := CWI.fr hc2 hF46 ext.rf hWc hx2 (by decide +kernel) (by decide +kernel) (by decide +kernel)
          exact GO.reti rfl rfl dX11_claim_65 ⟨_, rfl, r44, ⟨(by first | exact trivial | omega), (by first | exact w_0 | exact hcs.1 | exact hc3), (by first | exact CLM.no (fun g => absurd (rw18.mpr g.2.2.1) (by omega)) rfl | exact CLM.no (fun g => by have h9 := g.2.2.2; omega) rfl | exact CLM.as rfl (by omega) hasl sm0 | exact CLM.ok ⟨by omega, by omega, rw18.mp (by omega), by omega, by omega⟩ (by omega) hasl (NEWL.mk sm2 hq27 hW_0 h_x hEE h38.1.1 hWi hx2n h38.1.2 rw62))⟩⟩
        ·
          refine GO.iconst dX11_claim_46 ?_
          exact GO.reti rfl rfl dX11_claim_47 ⟨_, rfl, (ir_c rfl), ⟨(by first | exact trivial | omega), (by first | exact w_0 | exact hcs.1), (by first | exact CLM.no (fun g => absurd (rw18.mpr g.2.2.1) (by omega)) rfl | exact CLM.no (fun g => by have h9 := g.2.2.2; omega) rfl | exact CLM.as rfl (by omega) hasl sm0)⟩⟩

set_option maxHeartbeats 1000000 in
theorem t_X11_anyPlace {K : Kmap} {V : Vmap} {x : Nat} {p0 : Int} (h_x : K x = some (0, 10)) (r_p0 : ir p0) : MC mX11_anyPlace K V [.ref x, ti p0] (RP K V 3 ((True) ∧ (NN 6 5 V x → p0 < 0 ∨ vi V x 6 ≤ p0)) (fun q => (p0 ≥ 0 ∧ p0 < vi V x 6) ∧ (q = plO V x (p0).toNat))) := by
  refine MC.start 0 (by decide +kernel) rfl rfl rfl (ls0 := [some (.ref x), some (ti p0)]) rfl ?_
  refine GO.iload_n dX11_anyPlace_0 rfl rfl ?_
  refine GO.if_lt (tgt := 30) dX11_anyPlace_1 (by decide) r_p0 (fun c1 => ?_) (fun c1 => ?_)
  ·
    refine GO.null dX11_anyPlace_30 ?_
    exact GO.reta rfl rfl (Or.inl ⟨_, rfl⟩) dX11_anyPlace_31 (Or.inl rfl) ⟨rfl, rfl, Or.inl ⟨rfl, ⟨trivial, (by first | exact fun _ => (by omega))⟩⟩⟩
  ·
    refine GO.iload_n dX11_anyPlace_4 rfl rfl ?_
    refine GO.aload_n dX11_anyPlace_5 rfl rfl ?_
    refine GO.getI h_x fl_RX11_46 rfl rfl dX11_anyPlace_6 (fun l2 u3 => ?_)
    refine GO.icmp_ge (tgt := 30) dX11_anyPlace_9 (by decide) r_p0 vi_ir (fun c4 => ?_) (fun c4 => ?_)
    ·
      refine GO.null dX11_anyPlace_30 ?_
      exact GO.reta rfl rfl (Or.inl ⟨_, rfl⟩) dX11_anyPlace_31 (Or.inl rfl) ⟨rfl, rfl, Or.inl ⟨rfl, ⟨trivial, (by first | exact fun _ => (by omega))⟩⟩⟩
    ·
      refine GO.iload_n dX11_anyPlace_12 rfl rfl ?_
      refine GO.aload_n dX11_anyPlace_13 rfl rfl ?_
      refine GO.getA (n := 60) h_x fl_RX11_42 rfl rfl rfl rfl dX11_anyPlace_14 (fun hv6 h5 => ?_)
      refine GO.alen h5 dX11_anyPlace_17 (fun h7 => ?_)
      have q9 : -2147483648 ≤ p0 ∧ p0 ≤ 2147483647 := r_p0
      refine GO.icmp_ge (tgt := 30) dX11_anyPlace_18 (by decide) r_p0 ⟨by omega, by omega⟩ (fun h => by exfalso; omega) (fun c8 => ?_)
      refine GO.aload_n dX11_anyPlace_21 rfl rfl ?_
      refine GO.getRaw h_x fl_RX11_42 hv6 dX11_anyPlace_22 ?_
      refine GO.iload_n dX11_anyPlace_25 rfl rfl ?_
      refine GO.aald (t := 5) rfl rfl h5 r_p0 (by omega) (by omega) dX11_anyPlace_26 (fun hnul => ?_) (fun _ h12 => ?_)
      ·
        refine GO.goto (tgt := 31) dX11_anyPlace_27 (by decide) ?_
        exact GO.reta rfl rfl (Or.inl ⟨_, rfl⟩) dX11_anyPlace_31 (Or.inl rfl) ⟨rfl, rfl, Or.inl ⟨rfl, ⟨trivial, (by first | exact fun _ => (by omega) | exact fun hpn => absurd hnul (hpn p0.toNat (by omega)))⟩⟩⟩
      ·
        refine GO.goto (tgt := 31) dX11_anyPlace_27 (by decide) ?_
        exact GO.reta rfl rfl (Or.inl ⟨_, rfl⟩) dX11_anyPlace_31 (Or.inr ⟨_, rfl⟩) ⟨rfl, rfl, Or.inr ⟨_, rfl, h12, ⟨by omega, rfl⟩⟩⟩

set_option maxHeartbeats 1000000 in
theorem t_X11_placeOf {K : Kmap} {V : Vmap} {x : Nat} {p0 : Int} {p1 : Int} (h_x : K x = some (0, 10)) (r_p0 : ir p0) (r_p1 : ir p1) : MC mX11_placeOf K V [.ref x, ti p0, ti p1] (RP K V 3 ((True) ∧ (NN 6 5 V x → ¬ PK V x p0 p1)) (fun q => (p0 ≥ 0 ∧ p0 < vi V x 6) ∧ (q = plO V x (p0).toNat ∧ PK V x p0 p1))) := by
  refine MC.start 1 (by decide +kernel) rfl rfl rfl (ls0 := [some (.ref x), some (ti p0), some (ti p1), none]) rfl ?_
  refine GO.aload_n dX11_placeOf_0 rfl rfl ?_
  refine GO.iload_n dX11_placeOf_1 rfl rfl ?_
  refine GO.callV (ci := 10) (N := mX11_anyPlace) dX11_placeOf_2 (RX11, TX11, 20) rfl gV_RX11_384 h_x (t_X11_anyPlace h_x r_p0) rfl [] rfl rfl (Nat.le_of_ble_eq_true rfl) rfl (k_rp (fun h3 => ?_) (fun o1 h2 h3 => ?_))
  ·
    have rwn2 := h3.2
    have hn4 : NN 6 5 V x → p0 < 0 ∨ vi V x 6 ≤ p0 := h3.2
    refine GO.astore_nN (ls1 := [some (.ref x), some (ti p0), some (ti p1), some (.null)]) dX11_placeOf_5 rfl rfl rfl ?_
    refine GO.aload_nN dX11_placeOf_6 rfl rfl ?_
    refine GO.ifnullN (tgt := 22) dX11_placeOf_7 (by decide) ?_
    refine GO.null dX11_placeOf_22 ?_
    exact GO.reta rfl rfl (Or.inl ⟨_, rfl⟩) dX11_placeOf_23 (Or.inl rfl) ⟨rfl, rfl, Or.inl ⟨rfl, ⟨trivial, (by first | exact fun hpn => PK.nn rwn2 hpn)⟩⟩⟩
  ·
    have hp5 : p0 ≥ 0 ∧ p0 < vi V x 6 := h3.1
    have rwp2 := h3.2
    have hq6 : o1 = plO V x (p0).toNat := h3.2
    refine GO.astore_n (ls1 := [some (.ref x), some (ti p0), some (ti p1), some (.ref o1)]) dX11_placeOf_5 rfl rfl rfl ?_
    refine GO.aload_n dX11_placeOf_6 rfl rfl ?_
    refine GO.ifnull dX11_placeOf_7 ?_
    refine GO.aload_n dX11_placeOf_10 rfl rfl ?_
    refine GO.getI h2 fl_RX11_387 rfl rfl dX11_placeOf_11 (fun _ _ => ?_)
    refine GO.iload_n dX11_placeOf_14 rfl rfl ?_
    refine GO.icmp_ne (tgt := 22) dX11_placeOf_15 (by decide) vi_ir r_p1 (fun c7 => ?_) (fun c7 => ?_)
    ·
      refine GO.null dX11_placeOf_22 ?_
      exact GO.reta rfl rfl (Or.inl ⟨_, rfl⟩) dX11_placeOf_23 (Or.inl rfl) ⟨rfl, rfl, Or.inl ⟨rfl, ⟨trivial, (by first | exact fun _ => PK.nk rwp2 (by omega))⟩⟩⟩
    ·
      refine GO.aload_n dX11_placeOf_18 rfl rfl ?_
      refine GO.goto (tgt := 23) dX11_placeOf_19 (by decide) ?_
      exact GO.reta rfl rfl (Or.inl ⟨_, rfl⟩) dX11_placeOf_23 (Or.inr ⟨_, rfl⟩) ⟨rfl, rfl, Or.inr ⟨_, rfl, h2, ⟨by omega, ⟨rwp2, PK.mk rwp2 (by omega) (by omega) (by omega)⟩⟩⟩⟩

set_option maxHeartbeats 1000000 in
theorem t_X11_title {K : Kmap} {V : Vmap} {x : Nat} {p0 : Int} {p1 : Int} (h_x : K x = some (0, 10)) (r_p0 : ir p0) (r_p1 : ir p1) (w_0 : CWI K V x) : MC mX11_title K V [.ref x, ti p0, ti p1] (IS K (fun X V1 => (X = 0 ∨ X = 1) ∧ (X ≠ 0 → True) ∧ (X = 0 → True) ∧ (CWI K V1 x) ∧ (TIC K V V1 x p0 p1 X))) := by
  refine MC.start 2 (by decide +kernel) rfl rfl rfl (ls0 := [some (.ref x), some (ti p0), some (ti p1), none, none]) rfl ?_
  refine GO.useWT (fun hW_0 => ?_)
  refine GO.useWT (fun hW_0 => ?_)
  refine GO.aload_n dX11_title_0 rfl rfl ?_
  refine GO.iload_n dX11_title_1 rfl rfl ?_
  refine GO.iconst dX11_title_2 ?_
  refine GO.callV (ci := 10) (N := mX11_placeOf) dX11_title_3 (RX11, TX11, 20) rfl gV_RX11_169 h_x (t_X11_placeOf h_x r_p0 (ir_c rfl)) rfl [] rfl rfl (Nat.le_of_ble_eq_true rfl) rfl (k_rp (fun h3 => ?_) (fun o1 h2 h3 => ?_))
  ·
    have rwn3 := h3.2
    have hn4 : NN 6 5 V x → ¬ PK V x p0 0 := h3.2
    refine GO.astore_nN (ls1 := [some (.ref x), some (ti p0), some (ti p1), some (.null), none]) dX11_title_6 rfl rfl rfl ?_
    refine GO.aload_nN dX11_title_7 rfl rfl ?_
    refine GO.ifnullN (tgt := 22) dX11_title_8 (by decide) ?_
    refine GO.iconst dX11_title_22 ?_
    exact GO.retz rfl rfl dX11_title_23 (Or.inl rfl) ⟨rfl, _, rfl, (ir_c rfl), ⟨Or.inl rfl, fun _ => trivial, fun _ => trivial, (by first | exact w_0 | exact CWI.put (kd := (0, 3)) (j := 4) w_0 (by assumption) (by assumption) hW_0 h_x (by decide +kernel) (by decide +kernel) (by decide +kernel) (by decide +kernel)), (by first | exact TIC.nt rwn3 rfl | exact TIC.nn (by omega) rfl)⟩⟩
  ·
    have hp5 : p0 ≥ 0 ∧ p0 < vi V x 6 := h3.1
    have rwp3 := h3.2
    have hq6 : o1 = plO V x (p0).toNat ∧ PK V x p0 0 := h3.2
    refine GO.astore_n (ls1 := [some (.ref x), some (ti p0), some (ti p1), some (.ref o1), none]) dX11_title_6 rfl rfl rfl ?_
    refine GO.aload_n dX11_title_7 rfl rfl ?_
    refine GO.ifnull dX11_title_8 ?_
    refine GO.iload_n dX11_title_11 rfl rfl ?_
    refine GO.iconst dX11_title_12 ?_
    refine GO.sipush dX11_title_13 rfl ?_
    refine GO.callS (N := mX11_between) dX11_title_16 gS_RX11_112 (t_X11_between r_p1 (ir_c rfl) (ir_c rfl)) rfl [] rfl rfl (Nat.le_of_ble_eq_true rfl) rfl (k_ip fun X7 r8 h9 => ?_)
    refine GO.if_ne (tgt := 24) dX11_title_19 (by decide) r8 (fun c10 => ?_) (fun c10 => ?_)
    ·
      have q11 := h9.2.1 (by omega)
      refine GO.aload_n dX11_title_24 rfl rfl ?_
      refine GO.aload_n dX11_title_25 rfl rfl ?_
      refine GO.getI h2 fl_RX11_173 rfl rfl dX11_title_26 (fun _ _ => ?_)
      refine GO.callV (ci := 10) (N := mX11_partyOf) dX11_title_29 (RX11, TX11, 20) rfl gV_RX11_151 h_x (t_X11_partyOf h_x vi_ir) rfl [] rfl rfl (Nat.le_of_ble_eq_true rfl) rfl (k_rp (fun h14 => ?_) (fun o12 h13 h14 => ?_))
      ·
        have rwn29 := h14.2
        have hn15 : PN V x → (vi V o1 1) < 0 ∨ vi V x 4 ≤ (vi V o1 1) := h14.2
        refine GO.astoreN (ls1 := [some (.ref x), some (ti p0), some (ti p1), some (.ref o1), some (.null)]) dX11_title_32 rfl rfl ?_
        refine GO.iload_n dX11_title_34 rfl rfl ?_
        refine GO.aload_n dX11_title_35 rfl rfl ?_
        refine GO.getI h2 fl_RX11_176 rfl rfl dX11_title_36 (fun _ _ => ?_)
        refine GO.icmp_le (tgt := 62) dX11_title_39 (by decide) r_p1 vi_ir (fun c16 => ?_) (fun c16 => ?_)
        ·
          refine GO.useWT (fun hWt => ?_)
          refine GO.aload_n dX11_title_62 rfl rfl ?_
          refine GO.iload_n dX11_title_63 rfl rfl ?_
          refine GO.putI h2 fp_RX11_176 rfl (by decide +kernel) r_p1 (r_p1).1 (r_p1).2 dX11_title_64 (fun V18 e17 => ?_)
          refine GO.iconst dX11_title_67 ?_
          exact GO.retz rfl rfl dX11_title_68 (Or.inr rfl) ⟨rfl, _, rfl, (ir_c rfl), ⟨Or.inr rfl, fun _ => trivial, fun _ => trivial, (by first | exact w_0 | exact CWI.put (kd := (0, 3)) (j := 4) w_0 (by assumption) e17 hW_0 h_x (by decide +kernel) (by decide +kernel) (by decide +kernel) (by decide +kernel)), (by first | exact TIC.nn (by omega) rfl | exact TIC.set SMC.rf hW_0 h_x hWt rwp3 ⟨by omega, by omega⟩ e17 rfl (fun g => by have h9 := g.1; omega) | exact TIC.np SMC.rf hW_0 h_x hWt rwp3 ⟨by omega, by omega⟩ e17 rfl rwn29 w_0.1)⟩⟩
        ·
          refine GO.aloadN dX11_title_42 rfl ?_
          refine GO.ifnullN (tgt := 62) dX11_title_44 (by decide) ?_
          refine GO.useWT (fun hWt => ?_)
          refine GO.aload_n dX11_title_62 rfl rfl ?_
          refine GO.iload_n dX11_title_63 rfl rfl ?_
          refine GO.putI h2 fp_RX11_176 rfl (by decide +kernel) r_p1 (r_p1).1 (r_p1).2 dX11_title_64 (fun V20 e19 => ?_)
          refine GO.iconst dX11_title_67 ?_
          exact GO.retz rfl rfl dX11_title_68 (Or.inr rfl) ⟨rfl, _, rfl, (ir_c rfl), ⟨Or.inr rfl, fun _ => trivial, fun _ => trivial, (by first | exact w_0 | exact CWI.put (kd := (0, 3)) (j := 4) w_0 (by assumption) e19 hW_0 h_x (by decide +kernel) (by decide +kernel) (by decide +kernel) (by decide +kernel)), (by first | exact TIC.nn (by omega) rfl | exact TIC.set SMC.rf hW_0 h_x hWt rwp3 ⟨by omega, by omega⟩ e19 rfl (fun g => by have h9 := g.1; omega) | exact TIC.np SMC.rf hW_0 h_x hWt rwp3 ⟨by omega, by omega⟩ e19 rfl rwn29 w_0.1)⟩⟩
      ·
        have hp21 : (vi V o1 1) ≥ 0 ∧ (vi V o1 1) < vi V x 4 := h14.1
        have rwp29 := h14.2
        have hq22 : o12 = vq V (vq V x 3) ((vi V o1 1)).toNat := h14.2
        refine GO.astore (ls1 := [some (.ref x), some (ti p0), some (ti p1), some (.ref o1), some (.ref o12)]) dX11_title_32 rfl rfl ?_
        refine GO.iload_n dX11_title_34 rfl rfl ?_
        refine GO.aload_n dX11_title_35 rfl rfl ?_
        refine GO.getI h2 fl_RX11_176 rfl rfl dX11_title_36 (fun _ _ => ?_)
        refine GO.icmp_le (tgt := 62) dX11_title_39 (by decide) r_p1 vi_ir (fun c23 => ?_) (fun c23 => ?_)
        ·
          refine GO.useWT (fun hWt => ?_)
          refine GO.aload_n dX11_title_62 rfl rfl ?_
          refine GO.iload_n dX11_title_63 rfl rfl ?_
          refine GO.putI h2 fp_RX11_176 rfl (by decide +kernel) r_p1 (r_p1).1 (r_p1).2 dX11_title_64 (fun V25 e24 => ?_)
          refine GO.iconst dX11_title_67 ?_
          exact GO.retz rfl rfl dX11_title_68 (Or.inr rfl) ⟨rfl, _, rfl, (ir_c rfl), ⟨Or.inr rfl, fun _ => trivial, fun _ => trivial, (by first | exact w_0 | exact CWI.put (kd := (0, 3)) (j := 4) w_0 (by assumption) e24 hW_0 h_x (by decide +kernel) (by decide +kernel) (by decide +kernel) (by decide +kernel)), (by first | exact TIC.nn (by omega) rfl | exact TIC.set SMC.rf hW_0 h_x hWt rwp3 ⟨by omega, by omega⟩ e24 rfl (fun g => by have h9 := g.1; omega))⟩⟩
        ·
          refine GO.aload dX11_title_42 rfl ?_
          refine GO.ifnull dX11_title_44 ?_
          refine GO.aload_n dX11_title_47 rfl rfl ?_
          refine GO.aload_n dX11_title_48 rfl rfl ?_
          refine GO.getI h2 fl_RX11_173 rfl rfl dX11_title_49 (fun _ _ => ?_)
          refine GO.aload dX11_title_52 rfl ?_
          refine GO.callV (ci := 10) (N := mX11_claimsAreAsleep) dX11_title_54 (RX11, TX11, 20) rfl gV_RX11_158 h_x (t_X11_claimsAreAsleep h_x vi_ir h13 (w_0)) rfl [] rfl rfl (Nat.le_of_ble_eq_true rfl) rfl (k_is fun X26 V30 r27 h28 hF29 => ?_)
          have raw_claimsAreAsleep := h28.2.2.2
          have rw54 := h28.2.2.2
          have hcs := rw54 rwp29 (by omega) (by omega)
          refine GO.useWT (fun hWa => ?_)
          have sm0 : SMC V V30 x := SMC.fr hF29 ext.rf hW_0 h_x (by decide +kernel) (by decide +kernel) (by decide +kernel)
          have hasl := ASL.yes w_0 (fun L hL => (rw54 rwp29 (by omega) (by omega)).2 L hL)
          refine GO.if_eq (tgt := 62) dX11_title_57 (by decide) r27 (fun c31 => ?_) (fun c31 => ?_)
          ·
            refine GO.useWT (fun hWt => ?_)
            refine GO.aload_n dX11_title_62 rfl rfl ?_
            refine GO.iload_n dX11_title_63 rfl rfl ?_
            refine GO.putI h2 fp_RX11_176 rfl (by decide +kernel) r_p1 (r_p1).1 (r_p1).2 dX11_title_64 (fun V33 e32 => ?_)
            refine GO.iconst dX11_title_67 ?_
            exact GO.retz rfl rfl dX11_title_68 (Or.inr rfl) ⟨rfl, _, rfl, (ir_c rfl), ⟨Or.inr rfl, fun _ => trivial, fun _ => trivial, (by first | exact w_0 | exact hcs.1 | exact CWI.put (kd := (0, 3)) (j := 4) w_0 (by assumption) e32 hW_0 h_x (by decide +kernel) (by decide +kernel) (by decide +kernel) (by decide +kernel) | exact CWI.put (kd := (0, 3)) (j := 4) hcs.1 (by assumption) e32 hWa h_x (by decide +kernel) (by decide +kernel) (by decide +kernel) (by decide +kernel)), (by first | exact TIC.nn (by omega) rfl | exact TIC.as rwp3 (by omega) rfl (by omega) hasl sm0 | exact TIC.set SMC.rf hW_0 h_x hWt rwp3 ⟨by omega, by omega⟩ e32 rfl (fun g => by have h9 := g.1; omega) | exact TIC.set sm0 hW_0 h_x hWt rwp3 ⟨by omega, by omega⟩ e32 rfl (fun g => absurd (hasl.mpr g.2) (by omega)))⟩⟩
          ·
            refine GO.iconst dX11_title_60 ?_
            exact GO.retz rfl rfl dX11_title_61 (Or.inl rfl) ⟨rfl, _, rfl, (ir_c rfl), ⟨Or.inl rfl, fun _ => trivial, fun _ => trivial, (by first | exact w_0 | exact hcs.1 | exact CWI.put (kd := (0, 3)) (j := 4) w_0 (by assumption) (by assumption) hW_0 h_x (by decide +kernel) (by decide +kernel) (by decide +kernel) (by decide +kernel) | exact CWI.put (kd := (0, 3)) (j := 4) hcs.1 (by assumption) (by assumption) hWa h_x (by decide +kernel) (by decide +kernel) (by decide +kernel) (by decide +kernel)), (by first | exact TIC.nn (by omega) rfl | exact TIC.as rwp3 (by omega) rfl (by omega) hasl sm0)⟩⟩
    ·
      have q34 := h9.2.2 (by omega)
      refine GO.iconst dX11_title_22 ?_
      exact GO.retz rfl rfl dX11_title_23 (Or.inl rfl) ⟨rfl, _, rfl, (ir_c rfl), ⟨Or.inl rfl, fun _ => trivial, fun _ => trivial, (by first | exact w_0 | exact CWI.put (kd := (0, 3)) (j := 4) w_0 (by assumption) (by assumption) hW_0 h_x (by decide +kernel) (by decide +kernel) (by decide +kernel) (by decide +kernel)), (by first | exact TIC.nn (by omega) rfl)⟩⟩

set_option maxHeartbeats 1000000 in
theorem t_X11_tally {K : Kmap} {V : Vmap} {x : Nat} {p0 : Int} {p1 : Int} (h_x : K x = some (0, 10)) (r_p0 : ir p0) (r_p1 : ir p1) : MC mX11_tally K V [.ref x, ti p0, ti p1] (VS K (fun V1 => (True))) := by
  refine MC.start 0 (by decide +kernel) rfl rfl rfl (ls0 := [some (.ref x), some (ti p0), some (ti p1)]) rfl ?_
  refine GO.iload_n dX11_tally_0 rfl rfl ?_
  refine GO.if_lt (tgt := 24) dX11_tally_1 (by decide) r_p0 (fun c1 => ?_) (fun c1 => ?_)
  ·
    exact GO.retv rfl rfl dX11_tally_24 ⟨rfl, rfl, trivial⟩
  ·
    refine GO.iload_n dX11_tally_4 rfl rfl ?_
    refine GO.aload_n dX11_tally_5 rfl rfl ?_
    refine GO.getA (n := 8) h_x fl_RX11_98 rfl rfl rfl rfl dX11_tally_6 (fun hv3 h2 => ?_)
    refine GO.alen h2 dX11_tally_9 (fun h4 => ?_)
    refine GO.icmp_ge (tgt := 24) dX11_tally_10 (by decide) r_p0 ⟨by omega, by omega⟩ (fun c5 => ?_) (fun c5 => ?_)
    ·
      exact GO.retv rfl rfl dX11_tally_24 ⟨rfl, rfl, trivial⟩
    ·
      refine GO.aload_n dX11_tally_13 rfl rfl ?_
      refine GO.getRaw h_x fl_RX11_98 hv3 dX11_tally_14 ?_
      refine GO.iload_n dX11_tally_17 rfl rfl ?_
      refine GO.dup2 dX11_tally_18 rfl rfl ?_
      have q8 : -2147483648 ≤ p0 ∧ p0 ≤ 2147483647 := r_p0
      refine GO.lald h2 r_p0 (by omega) (by omega) dX11_tally_19 ?_
      refine GO.anyL (fun z9 => ?_)
      refine GO.iload_n dX11_tally_20 rfl rfl ?_
      refine GO.i2l dX11_tally_21 ?_
      refine GO.anyL (fun z10 => ?_)
      refine GO.ladd dX11_tally_22 ?_
      refine GO.anyL (fun z11 => ?_)
      refine GO.last (by decide +kernel) h2 r_p0 (by omega) (by omega) dX11_tally_23 (fun V13 e12 => ?_)
      exact GO.retv rfl rfl dX11_tally_24 ⟨rfl, rfl, trivial⟩

set_option maxHeartbeats 1000000 in
theorem t_X11_station {K : Kmap} {V : Vmap} {x : Nat} {p0 : Int} {p1 : Int} {p2 : Int} {p3 : Int} (h_x : K x = some (0, 10)) (r_p0 : ir p0) (r_p1 : ir p1) (r_p2 : ir p2) (r_p3 : ir p3) (w_0 : PN V x) : MC mX11_station K V [.ref x, ti p0, ti p1, ti p2, ti p3] (IX (fun X _ V1 => (X ≥ (-2147483648) ∧ X ≤ 2147483647) ∧ (STC K V V1 x p0 p1 p2 p3 X))) := by
  refine MC.start 2 (by decide +kernel) rfl rfl rfl (ls0 := [some (.ref x), some (ti p0), some (ti p1), some (ti p2), some (ti p3), none, none]) rfl ?_
  refine GO.useWT (fun hW_0 => ?_)
  refine GO.aload_n dX11_station_0 rfl rfl ?_
  refine GO.iload_n dX11_station_1 rfl rfl ?_
  refine GO.callV (ci := 10) (N := mX11_partyOf) dX11_station_2 (RX11, TX11, 20) rfl gV_RX11_151 h_x (t_X11_partyOf h_x r_p0) rfl [] rfl rfl (Nat.le_of_ble_eq_true rfl) rfl (k_rp (fun h3 => ?_) (fun o1 h2 h3 => ?_))
  ·
    have rwn2 := h3.2
    have hn4 : PN V x → p0 < 0 ∨ vi V x 4 ≤ p0 := h3.2
    have hnn5 := hn4 w_0
    refine GO.ifnullN (tgt := 41) dX11_station_5 (by decide) ?_
    refine GO.iconst dX11_station_41 ?_
    exact GO.reti rfl rfl dX11_station_42 ⟨_, rfl, (ir_c rfl), ⟨(by first | exact trivial | omega), (by first | exact STC.no (fun g => by have h9 := rwn2 w_0; have h8 := g.1; have h7 := g.2.1; omega) rfl | exact STC.no (fun g => by have h9 := g.2.2.2.2; omega) rfl)⟩⟩
  ·
    have hp6 : p0 ≥ 0 ∧ p0 < vi V x 4 := h3.1
    have rwp2 := h3.2
    have hq7 : o1 = vq V (vq V x 3) (p0).toNat := h3.2
    refine GO.ifnull dX11_station_5 ?_
    refine GO.aload_n dX11_station_8 rfl rfl ?_
    refine GO.getR h_x fl_RX11_12 rfl rfl dX11_station_9 (fun hv9 h8 => ?_)
    refine GO.iload_n dX11_station_12 rfl rfl ?_
    refine GO.callV (ci := 0) (N := mX0_isFirm) dX11_station_13 (RX0, TX0, 13) rfl gV_RX11_179 h8 (t_X0_isFirm h8 r_p1) rfl [] rfl rfl (Nat.le_of_ble_eq_true rfl) rfl (k_ip fun X10 r11 h12 => ?_)
    have raw_isFirm := h12.2.2.2
    have rw13 := h12.2.2.2
    refine GO.if_eq (tgt := 41) dX11_station_16 (by decide) r11 (fun c13 => ?_) (fun c13 => ?_)
    ·
      refine GO.iconst dX11_station_41 ?_
      exact GO.reti rfl rfl dX11_station_42 ⟨_, rfl, (ir_c rfl), ⟨(by first | exact trivial | omega), (by first | exact STC.no (fun g => absurd (rw13.mpr ⟨g.2.2.1, g.2.2.2.1⟩) (by omega)) rfl | exact STC.no (fun g => by have h9 := g.2.2.2.2; omega) rfl)⟩⟩
    ·
      refine GO.iload_n dX11_station_19 rfl rfl ?_
      refine GO.iconst dX11_station_20 ?_
      refine GO.sipush dX11_station_21 rfl ?_
      refine GO.callS (N := mX11_between) dX11_station_24 gS_RX11_112 (t_X11_between r_p2 (ir_c rfl) (ir_c rfl)) rfl [] rfl rfl (Nat.le_of_ble_eq_true rfl) rfl (k_ip fun X14 r15 h16 => ?_)
      refine GO.if_eq (tgt := 41) dX11_station_27 (by decide) r15 (fun c17 => ?_) (fun c17 => ?_)
      ·
        have q18 := h16.2.2 (by omega)
        refine GO.iconst dX11_station_41 ?_
        exact GO.reti rfl rfl dX11_station_42 ⟨_, rfl, (ir_c rfl), ⟨(by first | exact trivial | omega), (by first | exact STC.no (fun g => absurd (rw13.mpr ⟨g.2.2.1, g.2.2.2.1⟩) (by omega)) rfl | exact STC.no (fun g => by have h9 := g.2.2.2.2; omega) rfl)⟩⟩
      ·
        have q19 := h16.2.1 (by omega)
        refine GO.iload dX11_station_30 rfl ?_
        refine GO.iconst dX11_station_32 ?_
        refine GO.ldc (X := 100000) dX11_station_33 gw_522 rfl ?_
        refine GO.callS (N := mX11_between) dX11_station_35 gS_RX11_112 (t_X11_between r_p3 (ir_c rfl) (ir_c rfl)) rfl [] rfl rfl (Nat.le_of_ble_eq_true rfl) rfl (k_ip fun X20 r21 h22 => ?_)
        refine GO.if_ne (tgt := 43) dX11_station_38 (by decide) r21 (fun c23 => ?_) (fun c23 => ?_)
        ·
          have q24 := h22.2.1 (by omega)
          have hWa := hW_0
          have sm0 : SMC V V x := SMC.rf
          refine GO.new (ci := 15) (RX3, TX3, 16) tyX3 rfl rfl lays_3 tyX3_ok gw_221 gw_425 gw_10 rfl rfl dX11_station_43 (fun o25 K26 V32 hq27 hK28 hE29 h30 _ hV31 => ?_)
          have h33 := hE29.obj (by decide) h_x
          refine GO.useWT (fun hWn => ?_)
          have sm1 := SMC.tr sm0 (SMC.fr (ws := 0) (FR.rf.new ext.rf hq27 hK28 hV31) hE29 hWa h_x rfl rfl rfl)
          have hx1n := hE29.obj (Or.inl (by decide)) h_x
          refine GO.dup dX11_station_46 rfl ?_
          refine GO.iconst dX11_station_47 ?_
          refine GO.iload_n dX11_station_48 rfl rfl ?_
          refine GO.iload_n dX11_station_49 rfl rfl ?_
          refine GO.iconst dX11_station_50 ?_
          refine GO.iconst dX11_station_51 ?_
          refine GO.callI (N := mX3_init) dX11_station_52 gI_RX11_162 rfl (t_X3_init h30 (ir_c rfl) r_p0 r_p1 (ir_c rfl) (ir_c rfl)) rfl [.ref o25] rfl rfl (Nat.le_of_ble_eq_true rfl) rfl (k_vx fun K36 V38 h37 hE35 hF34 => ?_)
          have h39 := hE35.obj (by decide) h33
          have h40 := h37.1.1
          have ir0_52 := h37.1.2
          refine GO.useWT (fun hWi => ?_)
          have sm2 := SMC.tr sm1 (SMC.fr hF34 hE35 hWn hx1n (by decide +kernel) (by decide +kernel) (by decide +kernel))
          have hx2n := hE35.obj (Or.inl (by decide)) hx1n
          have hEE := hE29.tr hE35
          refine GO.astore (ls1 := [some (.ref x), some (ti p0), some (ti p1), some (ti p2), some (ti p3), some (.ref o25), none]) dX11_station_55 rfl rfl ?_
          refine GO.aload dX11_station_57 rfl ?_
          refine GO.iload_n dX11_station_59 rfl rfl ?_
          refine GO.putI h40 fp_RX11_183 rfl (by decide +kernel) r_p2 (r_p2).1 (r_p2).2 dX11_station_60 (fun V42 e41 => ?_)
          refine GO.useWT (fun hWp => ?_)
          have sm3 := SMC.new hEE hq27 hW_0 h_x h37.1.1 hWi hx2n sm2 e41
          refine GO.aload dX11_station_63 rfl ?_
          refine GO.iload dX11_station_65 rfl ?_
          refine GO.putI h40 fp_RX11_186 rfl (by decide +kernel) r_p3 (r_p3).1 (r_p3).2 dX11_station_67 (fun V44 e43 => ?_)
          refine GO.useWT (fun hWq => ?_)
          have sm4 := SMC.new hEE hq27 hW_0 h_x h37.1.1 hWp hx2n sm3 e43
          refine GO.aload dX11_station_70 rfl ?_
          refine GO.aload_n dX11_station_72 rfl rfl ?_
          refine GO.getR h39 fl_RX11_12 rfl rfl dX11_station_73 (fun hv46 h45 => ?_)
          refine GO.getI h45 fl_RX11_145 rfl rfl dX11_station_76 (fun l47 u48 => ?_)
          have htd := std_today hW_0 h_x hq27 hV31 hx1n hF34 hE35 hWn (by decide +kernel) e41 e43 h37.1.1 hWi
          refine GO.putI h40 fp_RX11_189 rfl (by decide +kernel) vi_ir (by omega) (by omega) dX11_station_79 (fun V50 e49 => ?_)
          refine GO.useWT (fun hWr => ?_)
          have sm5 := SMC.new hEE hq27 hW_0 h_x h37.1.1 hWq hx2n sm4 e49
          refine GO.aload_n dX11_station_82 rfl rfl ?_
          refine GO.aload dX11_station_83 rfl ?_
          refine GO.callV (ci := 10) (N := mX11_settle) dX11_station_85 (RX11, TX11, 20) rfl gV_RX11_165 h39 (t_X11_settle h39 h40) rfl [] rfl rfl (Nat.le_of_ble_eq_true rfl) rfl (k_is fun X51 V55 r52 h53 hF54 => ?_)
          have raw_settle := h53.2
          have rw85 := h53.2
          refine GO.useWT (fun hWs => ?_)
          refine GO.istore (ls1 := [some (.ref x), some (ti p0), some (ti p1), some (ti p2), some (ti p3), some (.ref o25), some (ti X51)]) dX11_station_88 rfl rfl ?_
          refine GO.iload dX11_station_90 rfl ?_
          refine GO.iconst dX11_station_92 ?_
          refine GO.icmp_eq (tgt := 103) dX11_station_93 (by decide) r52 (ir_c rfl) (fun c56 => ?_) (fun c56 => ?_)
          ·
            refine GO.iload dX11_station_103 rfl ?_
            exact GO.reti rfl rfl dX11_station_105 ⟨_, rfl, r52, ⟨(by first | exact trivial | omega), (by first | exact STC.no (fun g => absurd (rw13.mpr ⟨g.2.2.1, g.2.2.2.1⟩) (by omega)) rfl | exact STC.no (fun g => by have h9 := g.2.2.2.2; omega) rfl | exact STC.ok ⟨by omega, by omega, (rw13.mp (by omega)).1, (rw13.mp (by omega)).2, by omega, by omega, by omega, by omega⟩ htd (NEWL.mk sm5 hq27 hW_0 h_x hEE h37.1.1 hWr hx2n (PLN.since (PLN.put (PLN.put h37.1.2 e41 (by decide)) e43 (by decide)) e49 vi_ir) rw85) | exact STC.ok ⟨by omega, by omega, (rw13.mp (by omega)).1, (rw13.mp (by omega)).2, by omega, by omega, by omega, by omega⟩ htd (NEWL.fr (NEWL.mk sm5 hq27 hW_0 h_x hEE h37.1.1 hWr hx2n (PLN.since (PLN.put (PLN.put h37.1.2 e41 (by decide)) e43 (by decide)) e49 vi_ir) rw85) (by assumption) ext.rf hWs hx2n (by decide +kernel) (by decide +kernel) (by decide +kernel)))⟩⟩
          ·
            refine GO.aload_n dX11_station_96 rfl rfl ?_
            refine GO.iconst dX11_station_97 ?_
            refine GO.iload dX11_station_98 rfl ?_
            refine GO.callV (ci := 10) (N := mX11_tally) dX11_station_100 (RX11, TX11, 20) rfl gV_RX11_192 h39 (t_X11_tally h39 (ir_c rfl) r_p3) rfl [] rfl rfl (Nat.le_of_ble_eq_true rfl) rfl (k_vs fun V59 h58 hF57 => ?_)
            refine GO.iload dX11_station_103 rfl ?_
            exact GO.reti rfl rfl dX11_station_105 ⟨_, rfl, r52, ⟨(by first | exact trivial | omega), (by first | exact STC.no (fun g => absurd (rw13.mpr ⟨g.2.2.1, g.2.2.2.1⟩) (by omega)) rfl | exact STC.no (fun g => by have h9 := g.2.2.2.2; omega) rfl | exact STC.ok ⟨by omega, by omega, (rw13.mp (by omega)).1, (rw13.mp (by omega)).2, by omega, by omega, by omega, by omega⟩ htd (NEWL.mk sm5 hq27 hW_0 h_x hEE h37.1.1 hWr hx2n (PLN.since (PLN.put (PLN.put h37.1.2 e41 (by decide)) e43 (by decide)) e49 vi_ir) rw85) | exact STC.ok ⟨by omega, by omega, (rw13.mp (by omega)).1, (rw13.mp (by omega)).2, by omega, by omega, by omega, by omega⟩ htd (NEWL.fr (NEWL.mk sm5 hq27 hW_0 h_x hEE h37.1.1 hWr hx2n (PLN.since (PLN.put (PLN.put h37.1.2 e41 (by decide)) e43 (by decide)) e49 vi_ir) rw85) hF57 ext.rf hWs hx2n (by decide +kernel) (by decide +kernel) (by decide +kernel)))⟩⟩
        ·
          have q60 := h22.2.2 (by omega)
          refine GO.iconst dX11_station_41 ?_
          exact GO.reti rfl rfl dX11_station_42 ⟨_, rfl, (ir_c rfl), ⟨(by first | exact trivial | omega), (by first | exact STC.no (fun g => absurd (rw13.mpr ⟨g.2.2.1, g.2.2.2.1⟩) (by omega)) rfl | exact STC.no (fun g => by have h9 := g.2.2.2.2; omega) rfl)⟩⟩

set_option maxHeartbeats 1000000 in
theorem t_X11_standingStation {K : Kmap} {V : Vmap} {x : Nat} {p0 : Int} (h_x : K x = some (0, 10)) (r_p0 : ir p0) : MC mX11_standingStation K V [.ref x, ti p0] (RP K V 3 ((True) ∧ (NN 6 5 V x → ¬ STN V x p0)) (fun q => (p0 ≥ 0 ∧ p0 < vi V x 6) ∧ (q = plO V x (p0).toNat ∧ STN V x p0))) := by
  refine MC.start 1 (by decide +kernel) rfl rfl rfl (ls0 := [some (.ref x), some (ti p0), none]) rfl ?_
  refine GO.aload_n dX11_standingStation_0 rfl rfl ?_
  refine GO.iload_n dX11_standingStation_1 rfl rfl ?_
  refine GO.iconst dX11_standingStation_2 ?_
  refine GO.callV (ci := 10) (N := mX11_placeOf) dX11_standingStation_3 (RX11, TX11, 20) rfl gV_RX11_169 h_x (t_X11_placeOf h_x r_p0 (ir_c rfl)) rfl [] rfl rfl (Nat.le_of_ble_eq_true rfl) rfl (k_rp (fun h3 => ?_) (fun o1 h2 h3 => ?_))
  ·
    have rwn3 := h3.2
    have hn4 : NN 6 5 V x → ¬ PK V x p0 1 := h3.2
    refine GO.astore_nN (ls1 := [some (.ref x), some (ti p0), some (.null)]) dX11_standingStation_6 rfl rfl rfl ?_
    refine GO.aload_nN dX11_standingStation_7 rfl rfl ?_
    refine GO.ifnullN (tgt := 22) dX11_standingStation_8 (by decide) ?_
    refine GO.null dX11_standingStation_22 ?_
    exact GO.reta rfl rfl (Or.inl ⟨_, rfl⟩) dX11_standingStation_23 (Or.inl rfl) ⟨rfl, rfl, Or.inl ⟨rfl, ⟨trivial, (by first | exact fun hpn => STN.nn rwn3 hpn)⟩⟩⟩
  ·
    have hp5 : p0 ≥ 0 ∧ p0 < vi V x 6 := h3.1
    have rwp3 := h3.2
    have hq6 : o1 = plO V x (p0).toNat ∧ PK V x p0 1 := h3.2
    refine GO.astore_n (ls1 := [some (.ref x), some (ti p0), some (.ref o1)]) dX11_standingStation_6 rfl rfl rfl ?_
    refine GO.aload_n dX11_standingStation_7 rfl rfl ?_
    refine GO.ifnull dX11_standingStation_8 ?_
    refine GO.aload_n dX11_standingStation_11 rfl rfl ?_
    refine GO.getI h2 fl_RX11_511 rfl rfl dX11_standingStation_12 (fun l7 u8 => ?_)
    refine GO.if_ne (tgt := 22) dX11_standingStation_15 (by decide) vi_ir (fun c9 => ?_) (fun c9 => ?_)
    ·
      refine GO.null dX11_standingStation_22 ?_
      exact GO.reta rfl rfl (Or.inl ⟨_, rfl⟩) dX11_standingStation_23 (Or.inl rfl) ⟨rfl, rfl, Or.inl ⟨rfl, ⟨trivial, (by first | exact fun _ => STN.nl rwp3 (by omega))⟩⟩⟩
    ·
      refine GO.aload_n dX11_standingStation_18 rfl rfl ?_
      refine GO.goto (tgt := 23) dX11_standingStation_19 (by decide) ?_
      exact GO.reta rfl rfl (Or.inl ⟨_, rfl⟩) dX11_standingStation_23 (Or.inr ⟨_, rfl⟩) ⟨rfl, rfl, Or.inr ⟨_, rfl, h2, ⟨by omega, ⟨rwp3.1, STN.mk rwp3 (by omega)⟩⟩⟩⟩

set_option maxHeartbeats 1000000 in
theorem t_X11_field {K : Kmap} {V : Vmap} {x : Nat} {p0 : Int} {p1 : Int} (h_x : K x = some (0, 10)) (r_p0 : ir p0) (r_p1 : ir p1) : MC mX11_field K V [.ref x, ti p0, ti p1] (IX (fun X _ V1 => (X ≥ (-2147483648) ∧ X ≤ 2147483647) ∧ (FLC K V V1 x p0 p1 X))) := by
  refine MC.start 1 (by decide +kernel) rfl rfl rfl (ls0 := [some (.ref x), some (ti p0), some (ti p1), none]) rfl ?_
  refine GO.useWT (fun hW_0 => ?_)
  refine GO.aload_n dX11_field_0 rfl rfl ?_
  refine GO.iload_n dX11_field_1 rfl rfl ?_
  refine GO.callV (ci := 10) (N := mX11_standingStation) dX11_field_2 (RX11, TX11, 20) rfl gV_RX11_195 h_x (t_X11_standingStation h_x r_p0) rfl [] rfl rfl (Nat.le_of_ble_eq_true rfl) rfl (k_rp (fun h3 => ?_) (fun o1 h2 h3 => ?_))
  ·
    have rwn2 := h3.2
    have hn4 : NN 6 5 V x → ¬ STN V x p0 := h3.2
    refine GO.astore_nN (ls1 := [some (.ref x), some (ti p0), some (ti p1), some (.null)]) dX11_field_5 rfl rfl rfl ?_
    refine GO.aload_nN dX11_field_6 rfl rfl ?_
    refine GO.ifnullN (tgt := 21) dX11_field_7 (by decide) ?_
    refine GO.iconst dX11_field_21 ?_
    exact GO.reti rfl rfl dX11_field_22 ⟨_, rfl, (ir_c rfl), ⟨(by first | exact trivial | omega), (by first | exact FLC.nt rwn2 rfl)⟩⟩
  ·
    have hp5 : p0 ≥ 0 ∧ p0 < vi V x 6 := h3.1
    have rwp2 := h3.2
    have hq6 : o1 = plO V x (p0).toNat ∧ STN V x p0 := h3.2
    refine GO.astore_n (ls1 := [some (.ref x), some (ti p0), some (ti p1), some (.ref o1)]) dX11_field_5 rfl rfl rfl ?_
    refine GO.aload_n dX11_field_6 rfl rfl ?_
    refine GO.ifnull dX11_field_7 ?_
    refine GO.aload_n dX11_field_10 rfl rfl ?_
    refine GO.getR h_x fl_RX11_12 rfl rfl dX11_field_11 (fun hv8 h7 => ?_)
    refine GO.iload_n dX11_field_14 rfl rfl ?_
    refine GO.callV (ci := 0) (N := mX0_isFirm) dX11_field_15 (RX0, TX0, 13) rfl gV_RX11_179 h7 (t_X0_isFirm h7 r_p1) rfl [] rfl rfl (Nat.le_of_ble_eq_true rfl) rfl (k_ip fun X9 r10 h11 => ?_)
    have raw_isFirm := h11.2.2.2
    have rw15 := h11.2.2.2
    refine GO.if_ne (tgt := 23) dX11_field_18 (by decide) r10 (fun c12 => ?_) (fun c12 => ?_)
    ·
      refine GO.aload_n dX11_field_23 rfl rfl ?_
      have hWa := hW_0
      have sm0 : SMC V V x := SMC.rf
      refine GO.new (ci := 15) (RX3, TX3, 16) tyX3 rfl rfl lays_3 tyX3_ok gw_221 gw_425 gw_10 rfl rfl dX11_field_24 (fun o13 K14 V20 hq15 hK16 hE17 h18 _ hV19 => ?_)
      have h21 := hE17.obj (by decide) h_x
      have h22 := hE17.obj (by decide) h2
      refine GO.useWT (fun hWn => ?_)
      have sm1 := SMC.tr sm0 (SMC.fr (ws := 0) (FR.rf.new ext.rf hq15 hK16 hV19) hE17 hWa h_x rfl rfl rfl)
      have hx1n := hE17.obj (Or.inl (by decide)) h_x
      refine GO.dup dX11_field_27 rfl ?_
      refine GO.iconst dX11_field_28 ?_
      refine GO.aload_n dX11_field_29 rfl rfl ?_
      refine GO.getI h22 fl_RX11_173 rfl rfl dX11_field_30 (fun _ _ => ?_)
      refine GO.iload_n dX11_field_33 rfl rfl ?_
      refine GO.iconst dX11_field_34 ?_
      refine GO.iload_n dX11_field_35 rfl rfl ?_
      refine GO.callI (N := mX3_init) dX11_field_36 gI_RX11_162 rfl (t_X3_init h18 (ir_c rfl) vi_ir r_p1 (ir_c rfl) r_p0) rfl [.ref o13, .ref x] rfl rfl (Nat.le_of_ble_eq_true rfl) rfl (k_vx fun K25 V27 h26 hE24 hF23 => ?_)
      have h28 := hE24.obj (by decide) h21
      have h29 := hE24.obj (by decide) h22
      have h30 := h26.1.1
      have ir0_36 := h26.1.2
      refine GO.useWT (fun hWi => ?_)
      have sm2 := SMC.tr sm1 (SMC.fr hF23 hE24 hWn hx1n (by decide +kernel) (by decide +kernel) (by decide +kernel))
      have hx2n := hE24.obj (Or.inl (by decide)) hx1n
      have hEE := hE17.tr hE24
      refine GO.callV (ci := 10) (N := mX11_settle) dX11_field_39 (RX11, TX11, 20) rfl gV_RX11_165 h28 (t_X11_settle h28 h30) rfl [] rfl rfl (Nat.le_of_ble_eq_true rfl) rfl (k_is fun X31 V35 r32 h33 hF34 => ?_)
      have raw_settle := h33.2
      have rw39 := h33.2
      exact GO.reti rfl rfl dX11_field_42 ⟨_, rfl, r32, ⟨(by first | exact trivial | omega), (by first | exact FLC.nf rw15 (by omega) rfl | exact FLC.ok rwp2 rw15 (by omega) (NEWL.mk sm2 hq15 hW_0 h_x hEE h26.1.1 hWi hx2n (PLN.ow h26.1.2 (vi_nw hV19 (K_old (show K _ = some (0, 3) by assumption) hq15))) rw39))⟩⟩
    ·
      refine GO.iconst dX11_field_21 ?_
      exact GO.reti rfl rfl dX11_field_22 ⟨_, rfl, (ir_c rfl), ⟨(by first | exact trivial | omega), (by first | exact FLC.nf rw15 (by omega) rfl)⟩⟩
