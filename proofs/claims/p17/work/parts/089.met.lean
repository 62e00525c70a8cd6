def mX11_claimsAreAsleep : MRec := (RX11, cX11_claimsAreAsleep, 3, (some .boolean), yX11_claimsAreAsleep, 5, 127, 0, 0, 123947994148171612303484120256144569967825878055802728615871649113951085856808377342222976957446615908923352254691881254912)
def mX11_settle : MRec := (RX11, cX11_settle, 2, (some .int), yX11_settle, 0, 0, 0, 0, 121416805764108066932466369176469931665150427440758760643057482912022365719828103168)
def mX11_claim : MRec := (RX11, cX11_claim, 6, (some .int), yX11_claim, 6, 149, 3, 36, 564334117367815042357687469461997916537692687584971418399409520785922930523767811394480414801376083974284049326101967224560797710576475279936335498698927153558658673408523138971992064)
def mX11_anyPlace : MRec := (RX11, cX11_anyPlace, 2, (some (.object "IceTreaty$Place")), yX11_anyPlace, 0, 0, 0, 0, 0)
def mX11_placeOf : MRec := (RX11, cX11_placeOf, 4, (some (.object "IceTreaty$Place")), yX11_placeOf, 1, 21, 0, 0, 0)
def mX11_title : MRec := (RX11, cX11_title, 5, (some .boolean), yX11_title, 6, 149, 0, 0, 123947994148171612303484120256144569967825878055802728615871649113951085856808377342222976957446615908923352254726240993280)
def mX11_tally : MRec := (RX11, cX11_tally, 3, (none : Option Jvm.ClassFile.FieldType), yX11_tally, 0, 0, 0, 0, 7588550360256754183279148073529370729071901715047420004889892225542594864082845696)
def mX11_station : MRec := (RX11, cX11_station, 7, (some .int), yX11_station, 3, 68, 3, 36, 564334117367815042357687469461997916537692687584971418399409396837928782352155507910360158656806116155994543883630105536190831833019989200630894990769389711832641975598865922513698816)
def mX11_standingStation : MRec := (RX11, cX11_standingStation, 3, (some (.object "IceTreaty$Place")), yX11_standingStation, 2, 44, 0, 0, 0)
def mX11_field : MRec := (RX11, cX11_field, 4, (some .int), yX11_field, 3, 68, 3, 36, 564334117367815042357687469461997916537692687584971418399409396837928782352155507910360158656806116148405993523373351352911683759490618471558993275721969706942749750056268447090737152)
def mX11_reserve : MRec := (RX11, cX11_reserve, 4, (some .int), yX11_reserve, 3, 68, 3, 36, 564334117367815042357687469461997916537692687584971418399409396837928782352155507910360158656806116148405993523373351352911683759490618471558993275721969706942749750056268447090737152)
def mX11_site : MRec := (RX11, cX11_site, 3, (some .int), yX11_site, 3, 68, 3, 36, 564334117367815042357687469461997916537692687584971418399409396837928782352155507910360158656806116148405993523373351352911683759490618471558993275721969706942749750056268447090737152)
def mX8_isFull_k31 : MRec := (RX8, cX8_isFull, 1, (some .boolean), yX8_isFull, 0, 0, 0, 0, 0)
def mX8_put_k31 : MRec := (RX8, cX8_put, 6, (none : Option Jvm.ClassFile.FieldType), yX8_put, 0, 0, 0, 0, 43322963970637732180912721627235682866194329302747133987038743447103457934462900359999600095377180907771737671271930809827721216)
def mX8_append_k31 : MRec := (RX8, cX8_append, 7, (some .int), yX8_append, 1, 25, 0, 0, 9797766621314684873895700802803279209044463565243731922466831101232640732676423455199461349798677140994740862316442171586702782994492892617188900691048455231624352361948934749022246243962720802322776064)
set_option maxHeartbeats 1000000 in
theorem t_X11_claimsAreAsleep {K : Kmap} {V : Vmap} {x : Nat} {p0 : Int} {p1 : Nat} (h_x : K x = some (0, 10)) (r_p0 : ir p0) (h_p1 : K p1 = some (0, 2)) (w_0 : CWI K V x) : MC mX11_claimsAreAsleep K V [.ref x, ti p0, .ref p1] (IS K (fun X V1 => (X = 0 ∨ X = 1) ∧ (X ≠ 0 → True) ∧ (X = 0 → True) ∧ (CAS K V V1 x p0 p1 X))) := by
  refine MC.start 0 (by decide +kernel) rfl rfl rfl (ls0 := [some (.ref x), some (ti p0), some (.ref p1)]) rfl ?_
  refine GO.useWT (fun hW_0 => ?_)
  refine GO.aload_n dX11_claimsAreAsleep_0 rfl rfl ?_
  refine GO.getR h_x fl_RX11_19 rfl rfl dX11_claimsAreAsleep_1 (fun hv2 h1 => ?_)
  refine GO.iload_n dX11_claimsAreAsleep_4 rfl rfl ?_
  refine GO.aload_n dX11_claimsAreAsleep_5 rfl rfl ?_
  refine GO.aload_n dX11_claimsAreAsleep_6 rfl rfl ?_
  refine GO.getR h_x fl_RX11_12 rfl rfl dX11_claimsAreAsleep_7 (fun hv4 h3 => ?_)
  refine GO.getI h3 fl_RX11_145 rfl rfl dX11_claimsAreAsleep_10 (fun l5 u6 => ?_)
  refine GO.callV (ci := 1) (N := mX1_weigh) dX11_claimsAreAsleep_13 (RX1, TX1, 13) rfl gV_RX11_279 h1 (t_X1_weigh h1 r_p0 h_p1 vi_ir) rfl [] rfl rfl (Nat.le_of_ble_eq_true rfl) rfl (k_vs fun V9 h8 hF7 => ?_)
  have raw_weigh := h8.2
  have rw13 := h8.2
  refine GO.aload_n dX11_claimsAreAsleep_16 rfl rfl ?_
  refine GO.getRaw h_x fl_RX11_19 (Eq.trans (hF7 _ _ _ h_x h_x (by decide +kernel)) hv2) dX11_claimsAreAsleep_17 ?_
  refine GO.bipush dX11_claimsAreAsleep_20 rfl ?_
  refine GO.iconst dX11_claimsAreAsleep_22 ?_
  refine GO.iconst dX11_claimsAreAsleep_23 ?_
  refine GO.callV (ci := 1) (N := mX1_numberOf) dX11_claimsAreAsleep_24 (RX1, TX1, 13) rfl gV_RX11_292 h1 (t_X1_numberOf h1 (ir_c rfl) (ir_c rfl) (ir_c rfl)) rfl [] rfl rfl (Nat.le_of_ble_eq_true rfl) rfl (k_ip fun X12 r13 h14 => ?_)
  have raw_numberOf := h14.2
  have rw24 := h14.2
  refine GO.iconst dX11_claimsAreAsleep_27 ?_
  refine GO.icmp_eq (tgt := 35) dX11_claimsAreAsleep_28 (by decide) r13 (ir_c rfl) (fun c15 => ?_) (fun c15 => ?_)
  ·
    refine GO.iconst dX11_claimsAreAsleep_35 ?_
    exact GO.retz rfl rfl dX11_claimsAreAsleep_36 (Or.inl rfl) ⟨rfl, _, rfl, (ir_c rfl), ⟨Or.inl rfl, fun _ => trivial, fun _ => trivial, CAS.mk w_0 rw13 rfl (by omega) hF7 hW_0 h_x (by decide +kernel) (by decide +kernel) rw24 (by constructor <;> intro _ <;> omega)⟩⟩
  ·
    refine GO.iconst dX11_claimsAreAsleep_31 ?_
    refine GO.goto (tgt := 36) dX11_claimsAreAsleep_32 (by decide) ?_
    exact GO.retz rfl rfl dX11_claimsAreAsleep_36 (Or.inr rfl) ⟨rfl, _, rfl, (ir_c rfl), ⟨Or.inr rfl, fun _ => trivial, fun _ => trivial, CAS.mk w_0 rw13 rfl (by omega) hF7 hW_0 h_x (by decide +kernel) (by decide +kernel) rw24 (by constructor <;> intro _ <;> omega)⟩⟩

set_option maxHeartbeats 1000000 in
theorem t_X11_settle {K : Kmap} {V : Vmap} {x : Nat} {p0 : Nat} (h_x : K x = some (0, 10)) (h_p0 : K p0 = some (0, 3)) : MC mX11_settle K V [.ref x, .ref p0] (IS K (fun X V1 => True)) := by
  refine MC.start 0 (by decide +kernel) rfl rfl rfl (ls0 := [some (.ref x), some (.ref p0)]) rfl ?_
  refine GO.aload_n dX11_settle_0 rfl rfl ?_
  refine GO.getI h_x fl_RX11_46 rfl rfl dX11_settle_1 (fun l1 u2 => ?_)
  refine GO.aload_n dX11_settle_4 rfl rfl ?_
  refine GO.getA (n := 60) h_x fl_RX11_42 rfl rfl rfl rfl dX11_settle_5 (fun hv4 h3 => ?_)
  refine GO.alen h3 dX11_settle_8 (fun h5 => ?_)
  refine GO.icmp_lt (tgt := 14) dX11_settle_9 (by decide) vi_ir ⟨by omega, by omega⟩ (fun c6 => ?_) (fun c6 => ?_)
  ·
    refine GO.aload_n dX11_settle_14 rfl rfl ?_
    refine GO.getRaw h_x fl_RX11_42 hv4 dX11_settle_15 ?_
    refine GO.aload_n dX11_settle_18 rfl rfl ?_
    refine GO.getI h_x fl_RX11_46 rfl rfl dX11_settle_19 (fun l9 u10 => ?_)
    refine GO.aload_n dX11_settle_22 rfl rfl ?_
    refine GO.aast (t := 5) (by decide) (RX3, TX3, 16) rfl rfl rfl (by decide +kernel) h3 h_p0 vi_ir (by omega) (by omega) dX11_settle_23 (fun V12 e11 => ?_)
    refine GO.aload_n dX11_settle_24 rfl rfl ?_
    refine GO.dup dX11_settle_25 rfl ?_
    refine GO.getI h_x fl_RX11_46 rfl rfl dX11_settle_26 (fun l13 u14 => ?_)
    have e15 : vi V12 x 6 = vi V x 6 := vi_up e11 (Or.inl (K_ne h_x h3 (by decide)))
    refine GO.dup_x1 dX11_settle_29 rfl rfl ?_
    refine GO.iconst dX11_settle_30 ?_
    refine GO.iadd dX11_settle_31 ?_
    refine GO.putI h_x fp_RX11_46 rfl (by decide +kernel) ⟨by omega, by omega⟩ (by omega) (by omega) dX11_settle_32 (fun V17 e16 => ?_)
    exact GO.reti rfl rfl dX11_settle_35 ⟨rfl, _, rfl, vi_ir, trivial⟩
  ·
    refine GO.iconst dX11_settle_12 ?_
    exact GO.reti rfl rfl dX11_settle_13 ⟨rfl, _, rfl, (ir_c rfl), trivial⟩

set_option maxHeartbeats 1000000 in
theorem t_X11_claim {K : Kmap} {V : Vmap} {x : Nat} {p0 : Int} {p1 : Int} {p2 : Int} {p3 : Int} (h_x : K x = some (0, 10)) (r_p0 : ir p0) (r_p1 : ir p1) (r_p2 : ir p2) (r_p3 : ir p3) (w_0 : CWI K V x) : MC mX11_claim K V [.ref x, ti p0, ti p1, ti p2, ti p3] (IX (fun X K1 V1 => (True) ∧ (CWI K1 V1 x))) := by
  refine MC.start 1 (by decide +kernel) rfl rfl rfl (ls0 := [some (.ref x), some (ti p0), some (ti p1), some (ti p2), some (ti p3), none]) rfl ?_
  refine GO.useWT (fun hW_0 => ?_)
  refine GO.aload_n dX11_claim_0 rfl rfl ?_
  refine GO.iload_n dX11_claim_1 rfl rfl ?_
  refine GO.callV (ci := 10) (N := mX11_partyOf) dX11_claim_2 (RX11, TX11, 20) rfl gV_RX11_151 h_x (t_X11_partyOf h_x r_p0) rfl [] rfl rfl (Nat.le_of_ble_eq_true rfl) rfl (k_rp (fun h3 => ?_) (fun o1 h2 h3 => ?_))
  ·
    have rwn2 := h3.2
    have hn4 : PN V x → p0 < 0 ∨ vi V x 4 ≤ p0 := h3.2
    refine GO.astoreN (ls1 := [some (.ref x), some (ti p0), some (ti p1), some (ti p2), some (ti p3), some (.null)]) dX11_claim_5 rfl rfl ?_
    refine GO.aloadN dX11_claim_7 rfl ?_
    refine GO.ifnullN (tgt := 46) dX11_claim_9 (by decide) ?_
    refine GO.iconst dX11_claim_46 ?_
    exact GO.reti rfl rfl dX11_claim_47 ⟨_, rfl, (ir_c rfl), ⟨(by first | exact trivial | omega), (by first | exact w_0)⟩⟩
  ·
    have hp5 : p0 ≥ 0 ∧ p0 < vi V x 4 := h3.1
    have rwp2 := h3.2
    have hq6 : o1 = vq V (vq V x 3) (p0).toNat := h3.2
    refine GO.astore (ls1 := [some (.ref x), some (ti p0), some (ti p1), some (ti p2), some (ti p3), some (.ref o1)]) dX11_claim_5 rfl rfl ?_
    refine GO.aload dX11_claim_7 rfl ?_
    refine GO.ifnull dX11_claim_9 ?_
    refine GO.aload_n dX11_claim_12 rfl rfl ?_
    refine GO.getR h_x fl_RX11_12 rfl rfl dX11_claim_13 (fun hv8 h7 => ?_)
    refine GO.iload_n dX11_claim_16 rfl rfl ?_
    refine GO.iload_n dX11_claim_17 rfl rfl ?_
    refine GO.callV (ci := 0) (N := mX0_isRectangle) dX11_claim_18 (RX0, TX0, 13) rfl gV_RX11_155 h7 (t_X0_isRectangle h7 r_p1 r_p2) rfl [] rfl rfl (Nat.le_of_ble_eq_true rfl) rfl (k_ip fun X9 r10 h11 => ?_)
    refine GO.if_eq (tgt := 46) dX11_claim_21 (by decide) r10 (fun c12 => ?_) (fun c12 => ?_)
    ·
      refine GO.iconst dX11_claim_46 ?_
      exact GO.reti rfl rfl dX11_claim_47 ⟨_, rfl, (ir_c rfl), ⟨(by first | exact trivial | omega), (by first | exact w_0)⟩⟩
    ·
      refine GO.iload dX11_claim_24 rfl ?_
      refine GO.iconst dX11_claim_26 ?_
      refine GO.sipush dX11_claim_27 rfl ?_
      refine GO.callS (N := mX11_between) dX11_claim_30 gS_RX11_112 (t_X11_between r_p3 (ir_c rfl) (ir_c rfl)) rfl [] rfl rfl (Nat.le_of_ble_eq_true rfl) rfl (k_ip fun X13 r14 h15 => ?_)
      refine GO.if_eq (tgt := 46) dX11_claim_33 (by decide) r14 (fun c16 => ?_) (fun c16 => ?_)
      ·
        have q17 := h15.2.2 (by omega)
        refine GO.iconst dX11_claim_46 ?_
        exact GO.reti rfl rfl dX11_claim_47 ⟨_, rfl, (ir_c rfl), ⟨(by first | exact trivial | omega), (by first | exact w_0)⟩⟩
      ·
        have q18 := h15.2.1 (by omega)
        refine GO.aload_n dX11_claim_36 rfl rfl ?_
        refine GO.iload_n dX11_claim_37 rfl rfl ?_
        refine GO.aload dX11_claim_38 rfl ?_
        refine GO.callV (ci := 10) (N := mX11_claimsAreAsleep) dX11_claim_40 (RX11, TX11, 20) rfl gV_RX11_158 h_x (t_X11_claimsAreAsleep h_x r_p0 h2 (w_0)) rfl [] rfl rfl (Nat.le_of_ble_eq_true rfl) rfl (k_is fun X19 V23 r20 h21 hF22 => ?_)
        have raw_claimsAreAsleep := h21.2.2.2
        have rw40 := h21.2.2.2
        have hcs := rw40 rwp2 (by omega) (by omega)
        refine GO.useWT (fun hWa => ?_)
        refine GO.if_eq (tgt := 48) dX11_claim_43 (by decide) r20 (fun c24 => ?_) (fun c24 => ?_)
        ·
          refine GO.aload_n dX11_claim_48 rfl rfl ?_
          refine GO.new (ci := 15) (RX3, TX3, 16) tyX3 rfl rfl lays_3 tyX3_ok gw_221 gw_425 gw_10 rfl rfl dX11_claim_49 (fun o25 K26 V32 hq27 hK28 hE29 h30 _ hV31 => ?_)
          have h33 := hE29.obj (by decide) h_x
          have h34 := hE29.obj (by decide) h2
          refine GO.useWT (fun hWb => ?_)
          have hc1 := CWI.fr (ws := 0) hcs.1 (FR.rf.new ext.rf hq27 hK28 hV31) hE29 hWa h_x (by decide +kernel) (by decide +kernel) (by decide +kernel)
          have hx1 := hE29.obj (Or.inl (by decide)) h_x
          refine GO.dup dX11_claim_52 rfl ?_
          refine GO.iconst dX11_claim_53 ?_
          refine GO.iload_n dX11_claim_54 rfl rfl ?_
          refine GO.iload_n dX11_claim_55 rfl rfl ?_
          refine GO.iload_n dX11_claim_56 rfl rfl ?_
          refine GO.iload dX11_claim_57 rfl ?_
          refine GO.callI (N := mX3_init) dX11_claim_59 gI_RX11_162 rfl (t_X3_init h30 (ir_c rfl) r_p0 r_p1 r_p2 r_p3) rfl [.ref o25, .ref x] rfl rfl (Nat.le_of_ble_eq_true rfl) rfl (k_vx fun K37 V39 h38 hE36 hF35 => ?_)
          have h40 := hE36.obj (by decide) h33
          have h41 := hE36.obj (by decide) h34
          have h42 := h38.1
          refine GO.useWT (fun hWc => ?_)
          have hc2 := CWI.fr hc1 hF35 hE36 hWb hx1 (by decide +kernel) (by decide +kernel) (by decide +kernel)
          have hx2 := hE36.obj (Or.inl (by decide)) hx1
          refine GO.callV (ci := 10) (N := mX11_settle) dX11_claim_62 (RX11, TX11, 20) rfl gV_RX11_165 h40 (t_X11_settle h40 h42) rfl [] rfl rfl (Nat.le_of_ble_eq_true rfl) rfl (k_is fun X43 V47 r44 h45 hF46 => ?_)
          have hc3 := CWI.fr hc2 hF46 ext.rf hWc hx2 (by decide +kernel) (by decide +kernel) (by decide +kernel)
          have q48 : -2147483648 ≤ X43 ∧ X43 ≤ 2147483647 := r44
          exact GO.reti rfl rfl dX11_claim_65 ⟨_, rfl, r44, ⟨(by first | exact trivial | omega), (by first | exact w_0 | exact hcs.1 | exact hc3)⟩⟩
        ·
          refine GO.iconst dX11_claim_46 ?_
          exact GO.reti rfl rfl dX11_claim_47 ⟨_, rfl, (ir_c rfl), ⟨(by first | exact trivial | omega), (by first | exact w_0 | exact hcs.1)⟩⟩

set_option maxHeartbeats 1000000 in
theorem t_X11_anyPlace {K : Kmap} {V : Vmap} {x : Nat} {p0 : Int} (h_x : K x = some (0, 10)) (r_p0 : ir p0) : MC mX11_anyPlace K V [.ref x, ti p0] (RP K V 3 (True) (fun _ => True)) := by
  refine MC.start 0 (by decide +kernel) rfl rfl rfl (ls0 := [some (.ref x), some (ti p0)]) rfl ?_
  refine GO.iload_n dX11_anyPlace_0 rfl rfl ?_
  refine GO.if_lt (tgt := 30) dX11_anyPlace_1 (by decide) r_p0 (fun c1 => ?_) (fun c1 => ?_)
  ·
    refine GO.null dX11_anyPlace_30 ?_
    exact GO.reta rfl rfl (Or.inl ⟨_, rfl⟩) dX11_anyPlace_31 (Or.inl rfl) ⟨rfl, rfl, Or.inl ⟨rfl, trivial⟩⟩
  ·
    refine GO.iload_n dX11_anyPlace_4 rfl rfl ?_
    refine GO.aload_n dX11_anyPlace_5 rfl rfl ?_
    refine GO.getI h_x fl_RX11_46 rfl rfl dX11_anyPlace_6 (fun l2 u3 => ?_)
    refine GO.icmp_ge (tgt := 30) dX11_anyPlace_9 (by decide) r_p0 vi_ir (fun c4 => ?_) (fun c4 => ?_)
    ·
      refine GO.null dX11_anyPlace_30 ?_
      exact GO.reta rfl rfl (Or.inl ⟨_, rfl⟩) dX11_anyPlace_31 (Or.inl rfl) ⟨rfl, rfl, Or.inl ⟨rfl, trivial⟩⟩
    ·
      refine GO.iload_n dX11_anyPlace_12 rfl rfl ?_
      refine GO.aload_n dX11_anyPlace_13 rfl rfl ?_
      refine GO.getA (n := 60) h_x fl_RX11_42 rfl rfl rfl rfl dX11_anyPlace_14 (fun hv6 h5 => ?_)
      refine GO.alen h5 dX11_anyPlace_17 (fun h7 => ?_)
      have q9 : -2147483648 ≤ p0 ∧ p0 ≤ 2147483647 := r_p0
      refine GO.icmp_ge (tgt := 30) dX11_anyPlace_18 (by decide) r_p0 ⟨by omega, by omega⟩ (fun h => by exfalso; omega) (fun c8 => ?_)
      refine GO.aload_n dX11_anyPlace_21 rfl rfl ?_
      refine GO.getRaw h_x fl_RX11_42 hv6 dX11_anyPlace_22 ?_
      refine GO.iload_n dX11_anyPlace_25 rfl rfl ?_
      refine GO.aald (t := 5) rfl rfl h5 r_p0 (by omega) (by omega) dX11_anyPlace_26 (fun _ => ?_) (fun _ h12 => ?_)
      ·
        refine GO.goto (tgt := 31) dX11_anyPlace_27 (by decide) ?_
        exact GO.reta rfl rfl (Or.inl ⟨_, rfl⟩) dX11_anyPlace_31 (Or.inl rfl) ⟨rfl, rfl, Or.inl ⟨rfl, trivial⟩⟩
      ·
        refine GO.goto (tgt := 31) dX11_anyPlace_27 (by decide) ?_
        exact GO.reta rfl rfl (Or.inl ⟨_, rfl⟩) dX11_anyPlace_31 (Or.inr ⟨_, rfl⟩) ⟨rfl, rfl, Or.inr ⟨_, rfl, h12, trivial⟩⟩

set_option maxHeartbeats 1000000 in
theorem t_X11_placeOf {K : Kmap} {V : Vmap} {x : Nat} {p0 : Int} {p1 : Int} (h_x : K x = some (0, 10)) (r_p0 : ir p0) (r_p1 : ir p1) : MC mX11_placeOf K V [.ref x, ti p0, ti p1] (RP K V 3 (True) (fun _ => True)) := by
  refine MC.start 1 (by decide +kernel) rfl rfl rfl (ls0 := [some (.ref x), some (ti p0), some (ti p1), none]) rfl ?_
  refine GO.aload_n dX11_placeOf_0 rfl rfl ?_
  refine GO.iload_n dX11_placeOf_1 rfl rfl ?_
  refine GO.callV (ci := 10) (N := mX11_anyPlace) dX11_placeOf_2 (RX11, TX11, 20) rfl gV_RX11_384 h_x (t_X11_anyPlace h_x r_p0) rfl [] rfl rfl (Nat.le_of_ble_eq_true rfl) rfl (k_rp (fun h3 => ?_) (fun o1 h2 h3 => ?_))
  ·
    refine GO.astore_nN (ls1 := [some (.ref x), some (ti p0), some (ti p1), some (.null)]) dX11_placeOf_5 rfl rfl rfl ?_
    refine GO.aload_nN dX11_placeOf_6 rfl rfl ?_
    refine GO.ifnullN (tgt := 22) dX11_placeOf_7 (by decide) ?_
    refine GO.null dX11_placeOf_22 ?_
    exact GO.reta rfl rfl (Or.inl ⟨_, rfl⟩) dX11_placeOf_23 (Or.inl rfl) ⟨rfl, rfl, Or.inl ⟨rfl, trivial⟩⟩
  ·
    refine GO.astore_n (ls1 := [some (.ref x), some (ti p0), some (ti p1), some (.ref o1)]) dX11_placeOf_5 rfl rfl rfl ?_
    refine GO.aload_n dX11_placeOf_6 rfl rfl ?_
    refine GO.ifnull dX11_placeOf_7 ?_
    refine GO.aload_n dX11_placeOf_10 rfl rfl ?_
    refine GO.getI h2 fl_RX11_387 rfl rfl dX11_placeOf_11 (fun _ _ => ?_)
    refine GO.iload_n dX11_placeOf_14 rfl rfl ?_
    refine GO.icmp_ne (tgt := 22) dX11_placeOf_15 (by decide) vi_ir r_p1 (fun c4 => ?_) (fun c4 => ?_)
    ·
      refine GO.null dX11_placeOf_22 ?_
      exact GO.reta rfl rfl (Or.inl ⟨_, rfl⟩) dX11_placeOf_23 (Or.inl rfl) ⟨rfl, rfl, Or.inl ⟨rfl, trivial⟩⟩
    ·
      refine GO.aload_n dX11_placeOf_18 rfl rfl ?_
      refine GO.goto (tgt := 23) dX11_placeOf_19 (by decide) ?_
      exact GO.reta rfl rfl (Or.inl ⟨_, rfl⟩) dX11_placeOf_23 (Or.inr ⟨_, rfl⟩) ⟨rfl, rfl, Or.inr ⟨_, rfl, h2, trivial⟩⟩

set_option maxHeartbeats 1000000 in
theorem t_X11_title {K : Kmap} {V : Vmap} {x : Nat} {p0 : Int} {p1 : Int} (h_x : K x = some (0, 10)) (r_p0 : ir p0) (r_p1 : ir p1) (w_0 : CWI K V x) : MC mX11_title K V [.ref x, ti p0, ti p1] (IS K (fun X V1 => (X = 0 ∨ X = 1) ∧ (X ≠ 0 → True) ∧ (X = 0 → True) ∧ (CWI K V1 x))) := by
  refine MC.start 2 (by decide +kernel) rfl rfl rfl (ls0 := [some (.ref x), some (ti p0), some (ti p1), none, none]) rfl ?_
  refine GO.useWT (fun hW_0 => ?_)
  refine GO.aload_n dX11_title_0 rfl rfl ?_
  refine GO.iload_n dX11_title_1 rfl rfl ?_
  refine GO.iconst dX11_title_2 ?_
  refine GO.callV (ci := 10) (N := mX11_placeOf) dX11_title_3 (RX11, TX11, 20) rfl gV_RX11_169 h_x (t_X11_placeOf h_x r_p0 (ir_c rfl)) rfl [] rfl rfl (Nat.le_of_ble_eq_true rfl) rfl (k_rp (fun h3 => ?_) (fun o1 h2 h3 => ?_))
  ·
    refine GO.astore_nN (ls1 := [some (.ref x), some (ti p0), some (ti p1), some (.null), none]) dX11_title_6 rfl rfl rfl ?_
    refine GO.aload_nN dX11_title_7 rfl rfl ?_
    refine GO.ifnullN (tgt := 22) dX11_title_8 (by decide) ?_
    refine GO.iconst dX11_title_22 ?_
    exact GO.retz rfl rfl dX11_title_23 (Or.inl rfl) ⟨rfl, _, rfl, (ir_c rfl), ⟨Or.inl rfl, fun _ => trivial, fun _ => trivial, (by first | exact w_0 | exact CWI.put (kd := (0, 3)) (j := 4) w_0 (by assumption) (by assumption) hW_0 h_x (by decide +kernel) (by decide +kernel) (by decide +kernel) (by decide +kernel))⟩⟩
  ·
    refine GO.astore_n (ls1 := [some (.ref x), some (ti p0), some (ti p1), some (.ref o1), none]) dX11_title_6 rfl rfl rfl ?_
    refine GO.aload_n dX11_title_7 rfl rfl ?_
    refine GO.ifnull dX11_title_8 ?_
    refine GO.iload_n dX11_title_11 rfl rfl ?_
    refine GO.iconst dX11_title_12 ?_
    refine GO.sipush dX11_title_13 rfl ?_
    refine GO.callS (N := mX11_between) dX11_title_16 gS_RX11_112 (t_X11_between r_p1 (ir_c rfl) (ir_c rfl)) rfl [] rfl rfl (Nat.le_of_ble_eq_true rfl) rfl (k_ip fun X4 r5 h6 => ?_)
    refine GO.if_ne (tgt := 24) dX11_title_19 (by decide) r5 (fun c7 => ?_) (fun c7 => ?_)
    ·
      have q8 := h6.2.1 (by omega)
      refine GO.aload_n dX11_title_24 rfl rfl ?_
      refine GO.aload_n dX11_title_25 rfl rfl ?_
      refine GO.getI h2 fl_RX11_173 rfl rfl dX11_title_26 (fun _ _ => ?_)
      refine GO.callV (ci := 10) (N := mX11_partyOf) dX11_title_29 (RX11, TX11, 20) rfl gV_RX11_151 h_x (t_X11_partyOf h_x vi_ir) rfl [] rfl rfl (Nat.le_of_ble_eq_true rfl) rfl (k_rp (fun h11 => ?_) (fun o9 h10 h11 => ?_))
      ·
        have rwn29 := h11.2
        have hn12 : PN V x → (vi V o1 1) < 0 ∨ vi V x 4 ≤ (vi V o1 1) := h11.2
        refine GO.astoreN (ls1 := [some (.ref x), some (ti p0), some (ti p1), some (.ref o1), some (.null)]) dX11_title_32 rfl rfl ?_
        refine GO.iload_n dX11_title_34 rfl rfl ?_
        refine GO.aload_n dX11_title_35 rfl rfl ?_
        refine GO.getI h2 fl_RX11_176 rfl rfl dX11_title_36 (fun _ _ => ?_)
        refine GO.icmp_le (tgt := 62) dX11_title_39 (by decide) r_p1 vi_ir (fun c13 => ?_) (fun c13 => ?_)
        ·
          refine GO.aload_n dX11_title_62 rfl rfl ?_
          refine GO.iload_n dX11_title_63 rfl rfl ?_
          refine GO.putI h2 fp_RX11_176 rfl (by decide +kernel) r_p1 (r_p1).1 (r_p1).2 dX11_title_64 (fun V15 e14 => ?_)
          refine GO.iconst dX11_title_67 ?_
          exact GO.retz rfl rfl dX11_title_68 (Or.inr rfl) ⟨rfl, _, rfl, (ir_c rfl), ⟨Or.inr rfl, fun _ => trivial, fun _ => trivial, (by first | exact w_0 | exact CWI.put (kd := (0, 3)) (j := 4) w_0 (by assumption) e14 hW_0 h_x (by decide +kernel) (by decide +kernel) (by decide +kernel) (by decide +kernel))⟩⟩
        ·
          refine GO.aloadN dX11_title_42 rfl ?_
          refine GO.ifnullN (tgt := 62) dX11_title_44 (by decide) ?_
          refine GO.aload_n dX11_title_62 rfl rfl ?_
          refine GO.iload_n dX11_title_63 rfl rfl ?_
          refine GO.putI h2 fp_RX11_176 rfl (by decide +kernel) r_p1 (r_p1).1 (r_p1).2 dX11_title_64 (fun V17 e16 => ?_)
          refine GO.iconst dX11_title_67 ?_
          exact GO.retz rfl rfl dX11_title_68 (Or.inr rfl) ⟨rfl, _, rfl, (ir_c rfl), ⟨Or.inr rfl, fun _ => trivial, fun _ => trivial, (by first | exact w_0 | exact CWI.put (kd := (0, 3)) (j := 4) w_0 (by assumption) e16 hW_0 h_x (by decide +kernel) (by decide +kernel) (by decide +kernel) (by decide +kernel))⟩⟩
      ·
        have hp18 : (vi V o1 1) ≥ 0 ∧ (vi V o1 1) < vi V x 4 := h11.1
        have rwp29 := h11.2
        have hq19 : o9 = vq V (vq V x 3) ((vi V o1 1)).toNat := h11.2
        refine GO.astore (ls1 := [some (.ref x), some (ti p0), some (ti p1), some (.ref o1), some (.ref o9)]) dX11_title_32 rfl rfl ?_
        refine GO.iload_n dX11_title_34 rfl rfl ?_
        refine GO.aload_n dX11_title_35 rfl rfl ?_
        refine GO.getI h2 fl_RX11_176 rfl rfl dX11_title_36 (fun _ _ => ?_)
        refine GO.icmp_le (tgt := 62) dX11_title_39 (by decide) r_p1 vi_ir (fun c20 => ?_) (fun c20 => ?_)
        ·
          refine GO.aload_n dX11_title_62 rfl rfl ?_
          refine GO.iload_n dX11_title_63 rfl rfl ?_
          refine GO.putI h2 fp_RX11_176 rfl (by decide +kernel) r_p1 (r_p1).1 (r_p1).2 dX11_title_64 (fun V22 e21 => ?_)
          refine GO.iconst dX11_title_67 ?_
          exact GO.retz rfl rfl dX11_title_68 (Or.inr rfl) ⟨rfl, _, rfl, (ir_c rfl), ⟨Or.inr rfl, fun _ => trivial, fun _ => trivial, (by first | exact w_0 | exact CWI.put (kd := (0, 3)) (j := 4) w_0 (by assumption) e21 hW_0 h_x (by decide +kernel) (by decide +kernel) (by decide +kernel) (by decide +kernel))⟩⟩
        ·
          refine GO.aload dX11_title_42 rfl ?_
          refine GO.ifnull dX11_title_44 ?_
          refine GO.aload_n dX11_title_47 rfl rfl ?_
          refine GO.aload_n dX11_title_48 rfl rfl ?_
          refine GO.getI h2 fl_RX11_173 rfl rfl dX11_title_49 (fun _ _ => ?_)
          refine GO.aload dX11_title_52 rfl ?_
          refine GO.callV (ci := 10) (N := mX11_claimsAreAsleep) dX11_title_54 (RX11, TX11, 20) rfl gV_RX11_158 h_x (t_X11_claimsAreAsleep h_x vi_ir h10 (w_0)) rfl [] rfl rfl (Nat.le_of_ble_eq_true rfl) rfl (k_is fun X23 V27 r24 h25 hF26 => ?_)
          have raw_claimsAreAsleep := h25.2.2.2
          have rw54 := h25.2.2.2
          have hcs := rw54 rwp29 (by omega) (by omega)
          refine GO.useWT (fun hWa => ?_)
          refine GO.if_eq (tgt := 62) dX11_title_57 (by decide) r24 (fun c28 => ?_) (fun c28 => ?_)
          ·
            refine GO.aload_n dX11_title_62 rfl rfl ?_
            refine GO.iload_n dX11_title_63 rfl rfl ?_
            refine GO.putI h2 fp_RX11_176 rfl (by decide +kernel) r_p1 (r_p1).1 (r_p1).2 dX11_title_64 (fun V30 e29 => ?_)
            refine GO.iconst dX11_title_67 ?_
            exact GO.retz rfl rfl dX11_title_68 (Or.inr rfl) ⟨rfl, _, rfl, (ir_c rfl), ⟨Or.inr rfl, fun _ => trivial, fun _ => trivial, (by first | exact w_0 | exact hcs.1 | exact CWI.put (kd := (0, 3)) (j := 4) w_0 (by assumption) e29 hW_0 h_x (by decide +kernel) (by decide +kernel) (by decide +kernel) (by decide +kernel) | exact CWI.put (kd := (0, 3)) (j := 4) hcs.1 (by assumption) e29 hWa h_x (by decide +kernel) (by decide +kernel) (by decide +kernel) (by decide +kernel))⟩⟩
          ·
            refine GO.iconst dX11_title_60 ?_
            exact GO.retz rfl rfl dX11_title_61 (Or.inl rfl) ⟨rfl, _, rfl, (ir_c rfl), ⟨Or.inl rfl, fun _ => trivial, fun _ => trivial, (by first | exact w_0 | exact hcs.1 | exact CWI.put (kd := (0, 3)) (j := 4) w_0 (by assumption) (by assumption) hW_0 h_x (by decide +kernel) (by decide +kernel) (by decide +kernel) (by decide +kernel) | exact CWI.put (kd := (0, 3)) (j := 4) hcs.1 (by assumption) (by assumption) hWa h_x (by decide +kernel) (by decide +kernel) (by decide +kernel) (by decide +kernel))⟩⟩
    ·
      have q31 := h6.2.2 (by omega)
      refine GO.iconst dX11_title_22 ?_
      exact GO.retz rfl rfl dX11_title_23 (Or.inl rfl) ⟨rfl, _, rfl, (ir_c rfl), ⟨Or.inl rfl, fun _ => trivial, fun _ => trivial, (by first | exact w_0 | exact CWI.put (kd := (0, 3)) (j := 4) w_0 (by assumption) (by assumption) hW_0 h_x (by decide +kernel) (by decide +kernel) (by decide +kernel) (by decide +kernel))⟩⟩

set_option maxHeartbeats 1000000 in
theorem t_X11_tally {K : Kmap} {V : Vmap} {x : Nat} {p0 : Int} {p1 : Int} (h_x : K x = some (0, 10)) (r_p0 : ir p0) (r_p1 : ir p1) : MC mX11_tally K V [.ref x, ti p0, ti p1] (VS K (fun V1 => (True))) := by
  refine MC.start 0 (by decide +kernel) rfl rfl rfl (ls0 := [some (.ref x), some (ti p0), some (ti p1)]) rfl ?_
  refine GO.iload_n dX11_tally_0 rfl rfl ?_
  refine GO.if_lt (tgt := 24) dX11_tally_1 (by decide) r_p0 (fun c1 => ?_) (fun c1 => ?_)
  ·
    exact GO.retv rfl rfl dX11_tally_24 ⟨rfl, rfl, trivial⟩
  ·
    refine GO.iload_n dX11_tally_4 rfl rfl ?_
    refine GO.aload_n dX11_tally_5 rfl rfl ?_
    refine GO.getA (n := 8) h_x fl_RX11_98 rfl rfl rfl rfl dX11_tally_6 (fun hv3 h2 => ?_)
    refine GO.alen h2 dX11_tally_9 (fun h4 => ?_)
    refine GO.icmp_ge (tgt := 24) dX11_tally_10 (by decide) r_p0 ⟨by omega, by omega⟩ (fun c5 => ?_) (fun c5 => ?_)
    ·
      exact GO.retv rfl rfl dX11_tally_24 ⟨rfl, rfl, trivial⟩
    ·
      refine GO.aload_n dX11_tally_13 rfl rfl ?_
      refine GO.getRaw h_x fl_RX11_98 hv3 dX11_tally_14 ?_
      refine GO.iload_n dX11_tally_17 rfl rfl ?_
      refine GO.dup2 dX11_tally_18 rfl rfl ?_
      have q8 : -2147483648 ≤ p0 ∧ p0 ≤ 2147483647 := r_p0
      refine GO.lald h2 r_p0 (by omega) (by omega) dX11_tally_19 ?_
      refine GO.anyL (fun z9 => ?_)
      refine GO.iload_n dX11_tally_20 rfl rfl ?_
      refine GO.i2l dX11_tally_21 ?_
      refine GO.anyL (fun z10 => ?_)
      refine GO.ladd dX11_tally_22 ?_
      refine GO.anyL (fun z11 => ?_)
      refine GO.last (by decide +kernel) h2 r_p0 (by omega) (by omega) dX11_tally_23 (fun V13 e12 => ?_)
      exact GO.retv rfl rfl dX11_tally_24 ⟨rfl, rfl, trivial⟩

set_option maxHeartbeats 1000000 in
theorem t_X11_station {K : Kmap} {V : Vmap} {x : Nat} {p0 : Int} {p1 : Int} {p2 : Int} {p3 : Int} (h_x : K x = some (0, 10)) (r_p0 : ir p0) (r_p1 : ir p1) (r_p2 : ir p2) (r_p3 : ir p3) : MC mX11_station K V [.ref x, ti p0, ti p1, ti p2, ti p3] (IX (fun X _ _ => True)) := by
  refine MC.start 2 (by decide +kernel) rfl rfl rfl (ls0 := [some (.ref x), some (ti p0), some (ti p1), some (ti p2), some (ti p3), none, none]) rfl ?_
  refine GO.aload_n dX11_station_0 rfl rfl ?_
  refine GO.iload_n dX11_station_1 rfl rfl ?_
  refine GO.callV (ci := 10) (N := mX11_partyOf) dX11_station_2 (RX11, TX11, 20) rfl gV_RX11_151 h_x (t_X11_partyOf h_x r_p0) rfl [] rfl rfl (Nat.le_of_ble_eq_true rfl) rfl (k_rp (fun h3 => ?_) (fun o1 h2 h3 => ?_))
  ·
    have rwn2 := h3.2
    have hn4 : PN V x → p0 < 0 ∨ vi V x 4 ≤ p0 := h3.2
    refine GO.ifnullN (tgt := 41) dX11_station_5 (by decide) ?_
    refine GO.iconst dX11_station_41 ?_
    exact GO.reti rfl rfl dX11_station_42 ⟨_, rfl, (ir_c rfl), trivial⟩
  ·
    have hp5 : p0 ≥ 0 ∧ p0 < vi V x 4 := h3.1
    have rwp2 := h3.2
    have hq6 : o1 = vq V (vq V x 3) (p0).toNat := h3.2
    refine GO.ifnull dX11_station_5 ?_
    refine GO.aload_n dX11_station_8 rfl rfl ?_
    refine GO.getR h_x fl_RX11_12 rfl rfl dX11_station_9 (fun hv8 h7 => ?_)
    refine GO.iload_n dX11_station_12 rfl rfl ?_
    refine GO.callV (ci := 0) (N := mX0_isFirm) dX11_station_13 (RX0, TX0, 13) rfl gV_RX11_179 h7 (t_X0_isFirm h7 r_p1) rfl [] rfl rfl (Nat.le_of_ble_eq_true rfl) rfl (k_ip fun X9 r10 h11 => ?_)
    refine GO.if_eq (tgt := 41) dX11_station_16 (by decide) r10 (fun c12 => ?_) (fun c12 => ?_)
    ·
      refine GO.iconst dX11_station_41 ?_
      exact GO.reti rfl rfl dX11_station_42 ⟨_, rfl, (ir_c rfl), trivial⟩
    ·
      refine GO.iload_n dX11_station_19 rfl rfl ?_
      refine GO.iconst dX11_station_20 ?_
      refine GO.sipush dX11_station_21 rfl ?_
      refine GO.callS (N := mX11_between) dX11_station_24 gS_RX11_112 (t_X11_between r_p2 (ir_c rfl) (ir_c rfl)) rfl [] rfl rfl (Nat.le_of_ble_eq_true rfl) rfl (k_ip fun X13 r14 h15 => ?_)
      refine GO.if_eq (tgt := 41) dX11_station_27 (by decide) r14 (fun c16 => ?_) (fun c16 => ?_)
      ·
        have q17 := h15.2.2 (by omega)
        refine GO.iconst dX11_station_41 ?_
        exact GO.reti rfl rfl dX11_station_42 ⟨_, rfl, (ir_c rfl), trivial⟩
      ·
        have q18 := h15.2.1 (by omega)
        refine GO.iload dX11_station_30 rfl ?_
        refine GO.iconst dX11_station_32 ?_
        refine GO.ldc (X := 100000) dX11_station_33 gw_522 rfl ?_
        refine GO.callS (N := mX11_between) dX11_station_35 gS_RX11_112 (t_X11_between r_p3 (ir_c rfl) (ir_c rfl)) rfl [] rfl rfl (Nat.le_of_ble_eq_true rfl) rfl (k_ip fun X19 r20 h21 => ?_)
        refine GO.if_ne (tgt := 43) dX11_station_38 (by decide) r20 (fun c22 => ?_) (fun c22 => ?_)
        ·
          have q23 := h21.2.1 (by omega)
          refine GO.new (ci := 15) (RX3, TX3, 16) tyX3 rfl rfl lays_3 tyX3_ok gw_221 gw_425 gw_10 rfl rfl dX11_station_43 (fun o24 K25 V31 hq26 hK27 hE28 h29 _ hV30 => ?_)
          have h32 := hE28.obj (by decide) h_x
          refine GO.dup dX11_station_46 rfl ?_
          refine GO.iconst dX11_station_47 ?_
          refine GO.iload_n dX11_station_48 rfl rfl ?_
          refine GO.iload_n dX11_station_49 rfl rfl ?_
          refine GO.iconst dX11_station_50 ?_
          refine GO.iconst dX11_station_51 ?_
          refine GO.callI (N := mX3_init) dX11_station_52 gI_RX11_162 rfl (t_X3_init h29 (ir_c rfl) r_p0 r_p1 (ir_c rfl) (ir_c rfl)) rfl [.ref o24] rfl rfl (Nat.le_of_ble_eq_true rfl) rfl (k_vx fun K35 V37 h36 hE34 hF33 => ?_)
          have h38 := hE34.obj (by decide) h32
          have h39 := h36.1
          refine GO.astore (ls1 := [some (.ref x), some (ti p0), some (ti p1), some (ti p2), some (ti p3), some (.ref o24), none]) dX11_station_55 rfl rfl ?_
          refine GO.aload dX11_station_57 rfl ?_
          refine GO.iload_n dX11_station_59 rfl rfl ?_
          refine GO.putI h39 fp_RX11_183 rfl (by decide +kernel) r_p2 (r_p2).1 (r_p2).2 dX11_station_60 (fun V41 e40 => ?_)
          refine GO.aload dX11_station_63 rfl ?_
          refine GO.iload dX11_station_65 rfl ?_
          refine GO.putI h39 fp_RX11_186 rfl (by decide +kernel) r_p3 (r_p3).1 (r_p3).2 dX11_station_67 (fun V43 e42 => ?_)
          refine GO.aload dX11_station_70 rfl ?_
          refine GO.aload_n dX11_station_72 rfl rfl ?_
          refine GO.getR h38 fl_RX11_12 rfl rfl dX11_station_73 (fun hv45 h44 => ?_)
          refine GO.getI h44 fl_RX11_145 rfl rfl dX11_station_76 (fun l46 u47 => ?_)
          refine GO.putI h39 fp_RX11_189 rfl (by decide +kernel) vi_ir (vi_ir).1 (vi_ir).2 dX11_station_79 (fun V49 e48 => ?_)
          refine GO.aload_n dX11_station_82 rfl rfl ?_
          refine GO.aload dX11_station_83 rfl ?_
          refine GO.callV (ci := 10) (N := mX11_settle) dX11_station_85 (RX11, TX11, 20) rfl gV_RX11_165 h38 (t_X11_settle h38 h39) rfl [] rfl rfl (Nat.le_of_ble_eq_true rfl) rfl (k_is fun X50 V54 r51 h52 hF53 => ?_)
          refine GO.istore (ls1 := [some (.ref x), some (ti p0), some (ti p1), some (ti p2), some (ti p3), some (.ref o24), some (ti X50)]) dX11_station_88 rfl rfl ?_
          refine GO.iload dX11_station_90 rfl ?_
          refine GO.iconst dX11_station_92 ?_
          refine GO.icmp_eq (tgt := 103) dX11_station_93 (by decide) r51 (ir_c rfl) (fun c55 => ?_) (fun c55 => ?_)
          ·
            refine GO.iload dX11_station_103 rfl ?_
            have q56 : -2147483648 ≤ X50 ∧ X50 ≤ 2147483647 := r51
            exact GO.reti rfl rfl dX11_station_105 ⟨_, rfl, r51, trivial⟩
          ·
            refine GO.aload_n dX11_station_96 rfl rfl ?_
            refine GO.iconst dX11_station_97 ?_
            refine GO.iload dX11_station_98 rfl ?_
            refine GO.callV (ci := 10) (N := mX11_tally) dX11_station_100 (RX11, TX11, 20) rfl gV_RX11_192 h38 (t_X11_tally h38 (ir_c rfl) r_p3) rfl [] rfl rfl (Nat.le_of_ble_eq_true rfl) rfl (k_vs fun V59 h58 hF57 => ?_)
            refine GO.iload dX11_station_103 rfl ?_
            have q60 : -2147483648 ≤ X50 ∧ X50 ≤ 2147483647 := r51
            exact GO.reti rfl rfl dX11_station_105 ⟨_, rfl, r51, trivial⟩
        ·
          have q61 := h21.2.2 (by omega)
          refine GO.iconst dX11_station_41 ?_
          exact GO.reti rfl rfl dX11_station_42 ⟨_, rfl, (ir_c rfl), trivial⟩

set_option maxHeartbeats 1000000 in
theorem t_X11_standingStation {K : Kmap} {V : Vmap} {x : Nat} {p0 : Int} (h_x : K x = some (0, 10)) (r_p0 : ir p0) : MC mX11_standingStation K V [.ref x, ti p0] (RP K V 3 (True) (fun _ => True)) := by
  refine MC.start 1 (by decide +kernel) rfl rfl rfl (ls0 := [some (.ref x), some (ti p0), none]) rfl ?_
  refine GO.aload_n dX11_standingStation_0 rfl rfl ?_
  refine GO.iload_n dX11_standingStation_1 rfl rfl ?_
  refine GO.iconst dX11_standingStation_2 ?_
  refine GO.callV (ci := 10) (N := mX11_placeOf) dX11_standingStation_3 (RX11, TX11, 20) rfl gV_RX11_169 h_x (t_X11_placeOf h_x r_p0 (ir_c rfl)) rfl [] rfl rfl (Nat.le_of_ble_eq_true rfl) rfl (k_rp (fun h3 => ?_) (fun o1 h2 h3 => ?_))
  ·
    refine GO.astore_nN (ls1 := [some (.ref x), some (ti p0), some (.null)]) dX11_standingStation_6 rfl rfl rfl ?_
    refine GO.aload_nN dX11_standingStation_7 rfl rfl ?_
    refine GO.ifnullN (tgt := 22) dX11_standingStation_8 (by decide) ?_
    refine GO.null dX11_standingStation_22 ?_
    exact GO.reta rfl rfl (Or.inl ⟨_, rfl⟩) dX11_standingStation_23 (Or.inl rfl) ⟨rfl, rfl, Or.inl ⟨rfl, trivial⟩⟩
  ·
    refine GO.astore_n (ls1 := [some (.ref x), some (ti p0), some (.ref o1)]) dX11_standingStation_6 rfl rfl rfl ?_
    refine GO.aload_n dX11_standingStation_7 rfl rfl ?_
    refine GO.ifnull dX11_standingStation_8 ?_
    refine GO.aload_n dX11_standingStation_11 rfl rfl ?_
    refine GO.getI h2 fl_RX11_511 rfl rfl dX11_standingStation_12 (fun l4 u5 => ?_)
    refine GO.if_ne (tgt := 22) dX11_standingStation_15 (by decide) vi_ir (fun c6 => ?_) (fun c6 => ?_)
    ·
      refine GO.null dX11_standingStation_22 ?_
      exact GO.reta rfl rfl (Or.inl ⟨_, rfl⟩) dX11_standingStation_23 (Or.inl rfl) ⟨rfl, rfl, Or.inl ⟨rfl, trivial⟩⟩
    ·
      refine GO.aload_n dX11_standingStation_18 rfl rfl ?_
      refine GO.goto (tgt := 23) dX11_standingStation_19 (by decide) ?_
      exact GO.reta rfl rfl (Or.inl ⟨_, rfl⟩) dX11_standingStation_23 (Or.inr ⟨_, rfl⟩) ⟨rfl, rfl, Or.inr ⟨_, rfl, h2, trivial⟩⟩

set_option maxHeartbeats 1000000 in
theorem t_X11_field {K : Kmap} {V : Vmap} {x : Nat} {p0 : Int} {p1 : Int} (h_x : K x = some (0, 10)) (r_p0 : ir p0) (r_p1 : ir p1) : MC mX11_field K V [.ref x, ti p0, ti p1] (IX (fun X _ _ => True)) := by
  refine MC.start 1 (by decide +kernel) rfl rfl rfl (ls0 := [some (.ref x), some (ti p0), some (ti p1), none]) rfl ?_
  refine GO.aload_n dX11_field_0 rfl rfl ?_
  refine GO.iload_n dX11_field_1 rfl rfl ?_
  refine GO.callV (ci := 10) (N := mX11_standingStation) dX11_field_2 (RX11, TX11, 20) rfl gV_RX11_195 h_x (t_X11_standingStation h_x r_p0) rfl [] rfl rfl (Nat.le_of_ble_eq_true rfl) rfl (k_rp (fun h3 => ?_) (fun o1 h2 h3 => ?_))
  ·
    refine GO.astore_nN (ls1 := [some (.ref x), some (ti p0), some (ti p1), some (.null)]) dX11_field_5 rfl rfl rfl ?_
    refine GO.aload_nN dX11_field_6 rfl rfl ?_
    refine GO.ifnullN (tgt := 21) dX11_field_7 (by decide) ?_
    refine GO.iconst dX11_field_21 ?_
    exact GO.reti rfl rfl dX11_field_22 ⟨_, rfl, (ir_c rfl), trivial⟩
  ·
    refine GO.astore_n (ls1 := [some (.ref x), some (ti p0), some (ti p1), some (.ref o1)]) dX11_field_5 rfl rfl rfl ?_
    refine GO.aload_n dX11_field_6 rfl rfl ?_
    refine GO.ifnull dX11_field_7 ?_
    refine GO.aload_n dX11_field_10 rfl rfl ?_
    refine GO.getR h_x fl_RX11_12 rfl rfl dX11_field_11 (fun hv5 h4 => ?_)
    refine GO.iload_n dX11_field_14 rfl rfl ?_
    refine GO.callV (ci := 0) (N := mX0_isFirm) dX11_field_15 (RX0, TX0, 13) rfl gV_RX11_179 h4 (t_X0_isFirm h4 r_p1) rfl [] rfl rfl (Nat.le_of_ble_eq_true rfl) rfl (k_ip fun X6 r7 h8 => ?_)
    refine GO.if_ne (tgt := 23) dX11_field_18 (by decide) r7 (fun c9 => ?_) (fun c9 => ?_)
    ·
      refine GO.aload_n dX11_field_23 rfl rfl ?_
      refine GO.new (ci := 15) (RX3, TX3, 16) tyX3 rfl rfl lays_3 tyX3_ok gw_221 gw_425 gw_10 rfl rfl dX11_field_24 (fun o10 K11 V17 hq12 hK13 hE14 h15 _ hV16 => ?_)
      have h18 := hE14.obj (by decide) h_x
      have h19 := hE14.obj (by decide) h2
      refine GO.dup dX11_field_27 rfl ?_
      refine GO.iconst dX11_field_28 ?_
      refine GO.aload_n dX11_field_29 rfl rfl ?_
      refine GO.getI h19 fl_RX11_173 rfl rfl dX11_field_30 (fun _ _ => ?_)
      refine GO.iload_n dX11_field_33 rfl rfl ?_
      refine GO.iconst dX11_field_34 ?_
      refine GO.iload_n dX11_field_35 rfl rfl ?_
      refine GO.callI (N := mX3_init) dX11_field_36 gI_RX11_162 rfl (t_X3_init h15 (ir_c rfl) vi_ir r_p1 (ir_c rfl) r_p0) rfl [.ref o10, .ref x] rfl rfl (Nat.le_of_ble_eq_true rfl) rfl (k_vx fun K22 V24 h23 hE21 hF20 => ?_)
      have h25 := hE21.obj (by decide) h18
      have h26 := hE21.obj (by decide) h19
      have h27 := h23.1
      refine GO.callV (ci := 10) (N := mX11_settle) dX11_field_39 (RX11, TX11, 20) rfl gV_RX11_165 h25 (t_X11_settle h25 h27) rfl [] rfl rfl (Nat.le_of_ble_eq_true rfl) rfl (k_is fun X28 V32 r29 h30 hF31 => ?_)
      have q33 : -2147483648 ≤ X28 ∧ X28 ≤ 2147483647 := r29
      exact GO.reti rfl rfl dX11_field_42 ⟨_, rfl, r29, trivial⟩
    ·
      refine GO.iconst dX11_field_21 ?_
      exact GO.reti rfl rfl dX11_field_22 ⟨_, rfl, (ir_c rfl), trivial⟩

set_option maxHeartbeats 1000000 in
theorem t_X11_reserve {K : Kmap} {V : Vmap} {x : Nat} {p0 : Int} {p1 : Int} {p2 : Int} (h_x : K x = some (0, 10)) (r_p0 : ir p0) (r_p1 : ir p1) (r_p2 : ir p2) : MC mX11_reserve K V [.ref x, ti p0, ti p1, ti p2] (IX (fun X _ _ => True)) := by
  refine MC.start 0 (by decide +kernel) rfl rfl rfl (ls0 := [some (.ref x), some (ti p0), some (ti p1), some (ti p2)]) rfl ?_
  refine GO.aload_n dX11_reserve_0 rfl rfl ?_
  refine GO.getR h_x fl_RX11_12 rfl rfl dX11_reserve_1 (fun hv2 h1 => ?_)
  refine GO.iload_n dX11_reserve_4 rfl rfl ?_
  refine GO.iload_n dX11_reserve_5 rfl rfl ?_
  refine GO.callV (ci := 0) (N := mX0_isRectangle) dX11_reserve_6 (RX0, TX0, 13) rfl gV_RX11_155 h1 (t_X0_isRectangle h1 r_p0 r_p1) rfl [] rfl rfl (Nat.le_of_ble_eq_true rfl) rfl (k_ip fun X3 r4 h5 => ?_)
  refine GO.if_eq (tgt := 22) dX11_reserve_9 (by decide) r4 (fun c6 => ?_) (fun c6 => ?_)
  ·
    refine GO.iconst dX11_reserve_22 ?_
    exact GO.reti rfl rfl dX11_reserve_23 ⟨_, rfl, (ir_c rfl), trivial⟩
  ·
    refine GO.iload_n dX11_reserve_12 rfl rfl ?_
    refine GO.iconst dX11_reserve_13 ?_
    refine GO.bipush dX11_reserve_14 rfl ?_
    refine GO.callS (N := mX11_between) dX11_reserve_16 gS_RX11_112 (t_X11_between r_p2 (ir_c rfl) (ir_c rfl)) rfl [] rfl rfl (Nat.le_of_ble_eq_true rfl) rfl (k_ip fun X7 r8 h9 => ?_)
    refine GO.if_ne (tgt := 24) dX11_reserve_19 (by decide) r8 (fun c10 => ?_) (fun c10 => ?_)
    ·
      have q11 := h9.2.1 (by omega)
      refine GO.aload_n dX11_reserve_24 rfl rfl ?_
      refine GO.new (ci := 15) (RX3, TX3, 16) tyX3 rfl rfl lays_3 tyX3_ok gw_221 gw_425 gw_10 rfl rfl dX11_reserve_25 (fun o12 K13 V19 hq14 hK15 hE16 h17 _ hV18 => ?_)
      have h20 := hE16.obj (by decide) h_x
      refine GO.dup dX11_reserve_28 rfl ?_
      refine GO.iconst dX11_reserve_29 ?_
      refine GO.iconst dX11_reserve_30 ?_
      refine GO.iload_n dX11_reserve_31 rfl rfl ?_
      refine GO.iload_n dX11_reserve_32 rfl rfl ?_
      refine GO.iload_n dX11_reserve_33 rfl rfl ?_
      refine GO.callI (N := mX3_init) dX11_reserve_34 gI_RX11_162 rfl (t_X3_init h17 (ir_c rfl) (ir_c rfl) r_p0 r_p1 r_p2) rfl [.ref o12, .ref x] rfl rfl (Nat.le_of_ble_eq_true rfl) rfl (k_vx fun K23 V25 h24 hE22 hF21 => ?_)
      have h26 := hE22.obj (by decide) h20
      have h27 := h24.1
      refine GO.callV (ci := 10) (N := mX11_settle) dX11_reserve_37 (RX11, TX11, 20) rfl gV_RX11_165 h26 (t_X11_settle h26 h27) rfl [] rfl rfl (Nat.le_of_ble_eq_true rfl) rfl (k_is fun X28 V32 r29 h30 hF31 => ?_)
      have q33 : -2147483648 ≤ X28 ∧ X28 ≤ 2147483647 := r29
      exact GO.reti rfl rfl dX11_reserve_40 ⟨_, rfl, r29, trivial⟩
    ·
      have q34 := h9.2.2 (by omega)
      refine GO.iconst dX11_reserve_22 ?_
      exact GO.reti rfl rfl dX11_reserve_23 ⟨_, rfl, (ir_c rfl), trivial⟩

set_option maxHeartbeats 1000000 in
theorem t_X11_site {K : Kmap} {V : Vmap} {x : Nat} {p0 : Int} {p1 : Int} (h_x : K x = some (0, 10)) (r_p0 : ir p0) (r_p1 : ir p1) (z_p1 : p1 = 0 ∨ p1 = 1) : MC mX11_site K V [.ref x, ti p0, ti p1] (IX (fun X _ _ => True)) := by
  refine MC.start 0 (by decide +kernel) rfl rfl rfl (ls0 := [some (.ref x), some (ti p0), some (ti p1)]) rfl ?_
  refine GO.aload_n dX11_site_0 rfl rfl ?_
  refine GO.getR h_x fl_RX11_12 rfl rfl dX11_site_1 (fun hv2 h1 => ?_)
  refine GO.iload_n dX11_site_4 rfl rfl ?_
  refine GO.callV (ci := 0) (N := mX0_isCell) dX11_site_5 (RX0, TX0, 13) rfl gV_RX11_119 h1 (t_X0_isCell h1 r_p0) rfl [] rfl rfl (Nat.le_of_ble_eq_true rfl) rfl (k_ip fun X3 r4 h5 => ?_)
  refine GO.if_ne (tgt := 13) dX11_site_8 (by decide) r4 (fun c6 => ?_) (fun c6 => ?_)
  ·
    refine GO.aload_n dX11_site_13 rfl rfl ?_
    refine GO.new (ci := 15) (RX3, TX3, 16) tyX3 rfl rfl lays_3 tyX3_ok gw_221 gw_425 gw_10 rfl rfl dX11_site_14 (fun o7 K8 V14 hq9 hK10 hE11 h12 _ hV13 => ?_)
    have h15 := hE11.obj (by decide) h_x
    refine GO.dup dX11_site_17 rfl ?_
    refine GO.iload_n dX11_site_18 rfl rfl ?_
    refine GO.if_eq (tgt := 26) dX11_site_19 (by decide) r_p1 (fun c16 => ?_) (fun c16 => ?_)
    ·
      refine GO.iconst dX11_site_26 ?_
      refine GO.iconst dX11_site_27 ?_
      refine GO.iload_n dX11_site_28 rfl rfl ?_
      refine GO.iconst dX11_site_29 ?_
      refine GO.iconst dX11_site_30 ?_
      refine GO.callI (N := mX3_init) dX11_site_31 gI_RX11_162 rfl (t_X3_init h12 (ir_c rfl) (ir_c rfl) r_p0 (ir_c rfl) (ir_c rfl)) rfl [.ref o7, .ref x] rfl rfl (Nat.le_of_ble_eq_true rfl) rfl (k_vx fun K19 V21 h20 hE18 hF17 => ?_)
      have h22 := hE18.obj (by decide) h15
      have h23 := h20.1
      refine GO.callV (ci := 10) (N := mX11_settle) dX11_site_34 (RX11, TX11, 20) rfl gV_RX11_165 h22 (t_X11_settle h22 h23) rfl [] rfl rfl (Nat.le_of_ble_eq_true rfl) rfl (k_is fun X24 V28 r25 h26 hF27 => ?_)
      have q29 : -2147483648 ≤ X24 ∧ X24 ≤ 2147483647 := r25
      exact GO.reti rfl rfl dX11_site_37 ⟨_, rfl, r25, trivial⟩
    ·
      refine GO.iconst dX11_site_22 ?_
      refine GO.goto (tgt := 27) dX11_site_23 (by decide) ?_
      refine GO.iconst dX11_site_27 ?_
      refine GO.iload_n dX11_site_28 rfl rfl ?_
      refine GO.iconst dX11_site_29 ?_
      refine GO.iconst dX11_site_30 ?_
      refine GO.callI (N := mX3_init) dX11_site_31 gI_RX11_162 rfl (t_X3_init h12 (ir_c rfl) (ir_c rfl) r_p0 (ir_c rfl) (ir_c rfl)) rfl [.ref o7, .ref x] rfl rfl (Nat.le_of_ble_eq_true rfl) rfl (k_vx fun K32 V34 h33 hE31 hF30 => ?_)
      have h35 := hE31.obj (by decide) h15
      have h36 := h33.1
      refine GO.callV (ci := 10) (N := mX11_settle) dX11_site_34 (RX11, TX11, 20) rfl gV_RX11_165 h35 (t_X11_settle h35 h36) rfl [] rfl rfl (Nat.le_of_ble_eq_true rfl) rfl (k_is fun X37 V41 r38 h39 hF40 => ?_)
      have q42 : -2147483648 ≤ X37 ∧ X37 ≤ 2147483647 := r38
      exact GO.reti rfl rfl dX11_site_37 ⟨_, rfl, r38, trivial⟩
  ·
    refine GO.iconst dX11_site_11 ?_
    exact GO.reti rfl rfl dX11_site_12 ⟨_, rfl, (ir_c rfl), trivial⟩

set_option maxHeartbeats 1000000 in
theorem t_X8_isFull_k31 {K : Kmap} {V : Vmap} {x : Nat} (h_x : K x = some (0, 31)) : MC mX8_isFull_k31 K V [.ref x] (IP K V (fun X => (X = 0 ∨ X = 1) ∧ (X ≠ 0 → vi V x 3 ≥ vi V x 1 ∧ vi V x 3 ≥ 400) ∧ (X = 0 → vi V x 3 < vi V x 1 ∧ vi V x 3 ≤ 399))) := by
  refine MC.start 0 (by decide +kernel) rfl rfl rfl (ls0 := [some (.ref x)]) rfl ?_
  refine GO.aload_n dX8_isFull_0 rfl rfl ?_
  refine GO.getI h_x fl_RX8_9_k31 rfl rfl dX8_isFull_1 (fun l1 u2 => ?_)
  refine GO.aload_n dX8_isFull_4 rfl rfl ?_
  refine GO.getI h_x fl_RX8_18_k31 rfl rfl dX8_isFull_5 (fun l3 u4 => ?_)
  refine GO.icmp_lt (tgt := 15) dX8_isFull_8 (by decide) vi_ir vi_ir (fun c5 => ?_) (fun c5 => ?_)
  ·
    refine GO.iconst dX8_isFull_15 ?_
    exact GO.retz rfl rfl dX8_isFull_16 (Or.inl rfl) ⟨rfl, rfl, _, rfl, (ir_c rfl), ⟨Or.inl rfl, fun h => absurd rfl h, fun h => by omega⟩⟩
  ·
    refine GO.iconst dX8_isFull_11 ?_
    refine GO.goto (tgt := 16) dX8_isFull_12 (by decide) ?_
    exact GO.retz rfl rfl dX8_isFull_16 (Or.inr rfl) ⟨rfl, rfl, _, rfl, (ir_c rfl), ⟨Or.inr rfl, fun h => by omega, fun h => absurd h (by decide)⟩⟩

set_option maxHeartbeats 1000000 in
theorem t_X8_put_k31 {K : Kmap} {V : Vmap} {x : Nat} {p0 : Int} {p1 : Int} {p2 : Int} (h_x : K x = some (0, 31)) (r_p0 : ir p0) (r_p1 : ir p1) (r_p2 : ir p2) (q_0 : p2 ≥ 0) (q_1 : p2 ≤ 255) : MC mX8_put_k31 K V [.ref x, ti p0, ti p1, ti p2] (VS K (fun V1 => (True) ∧ (TPU K V V1 x p0 p1 p2))) := by
  refine MC.start 2 (by decide +kernel) rfl rfl rfl (ls0 := [some (.ref x), some (ti p0), some (ti p1), some (ti p2), none, none]) rfl ?_
  refine GO.iload_n dX8_put_0 rfl rfl ?_
  refine GO.aload_n dX8_put_1 rfl rfl ?_
  refine GO.getI h_x fl_RX8_15_k31 rfl rfl dX8_put_2 (fun l1 u2 => ?_)
  refine GO.imul dX8_put_5 ?_
  refine GO.norm (fun z3 r4 hn5 => ?_)
  refine GO.iload_n dX8_put_6 rfl rfl ?_
  refine GO.iadd dX8_put_7 ?_
  refine GO.norm (fun z6 r7 hn8 => ?_)
  refine GO.istore (ls1 := [some (.ref x), some (ti p0), some (ti p1), some (ti p2), some (ti z6), none]) dX8_put_8 rfl rfl ?_
  refine GO.iload_n dX8_put_10 rfl rfl ?_
  refine GO.if_lt (tgt := 38) dX8_put_11 (by decide) r_p0 (fun c9 => ?_) (fun c9 => ?_)
  ·
    refine GO.iconst dX8_put_38 ?_
    refine GO.istore (ls1 := [some (.ref x), some (ti p0), some (ti p1), some (ti p2), some (ti z6), some (ti 0)]) dX8_put_39 rfl rfl ?_
    refine GO.iload dX8_put_41 rfl ?_
    refine GO.if_eq (tgt := 69) dX8_put_43 (by decide) (ir_c rfl) (fun c10 => ?_) (fun h => by exfalso; omega)
    exact GO.retv rfl rfl dX8_put_69 ⟨rfl, rfl, ⟨trivial, (by first | exact TPU.in (by assumption) (by assumption) ⟨by omega, by omega, by omega, by omega⟩ (by assumption) | exact TPU.out (by omega) | exact TPU.neg (by assumption) (by assumption) ⟨by omega, by omega, by omega, by omega⟩ (by omega) | exact TPU.bad (by assumption) (by assumption) ⟨by omega, by omega, by omega, by omega⟩ (by assumption) (by omega))⟩⟩
  ·
    refine GO.iload_n dX8_put_14 rfl rfl ?_
    refine GO.aload_n dX8_put_15 rfl rfl ?_
    refine GO.getI h_x fl_RX8_9_k31 rfl rfl dX8_put_16 (fun l11 u12 => ?_)
    refine GO.icmp_ge (tgt := 38) dX8_put_19 (by decide) r_p0 vi_ir (fun c13 => ?_) (fun c13 => ?_)
    ·
      refine GO.iconst dX8_put_38 ?_
      refine GO.istore (ls1 := [some (.ref x), some (ti p0), some (ti p1), some (ti p2), some (ti z6), some (ti 0)]) dX8_put_39 rfl rfl ?_
      refine GO.iload dX8_put_41 rfl ?_
      refine GO.if_eq (tgt := 69) dX8_put_43 (by decide) (ir_c rfl) (fun c14 => ?_) (fun h => by exfalso; omega)
      exact GO.retv rfl rfl dX8_put_69 ⟨rfl, rfl, ⟨trivial, (by first | exact TPU.in (by assumption) (by assumption) ⟨by omega, by omega, by omega, by omega⟩ (by assumption) | exact TPU.out (by omega) | exact TPU.neg (by assumption) (by assumption) ⟨by omega, by omega, by omega, by omega⟩ (by omega) | exact TPU.bad (by assumption) (by assumption) ⟨by omega, by omega, by omega, by omega⟩ (by assumption) (by omega))⟩⟩
    ·
      refine GO.iload_n dX8_put_22 rfl rfl ?_
      refine GO.if_lt (tgt := 38) dX8_put_23 (by decide) r_p1 (fun c15 => ?_) (fun c15 => ?_)
      ·
        refine GO.iconst dX8_put_38 ?_
        refine GO.istore (ls1 := [some (.ref x), some (ti p0), some (ti p1), some (ti p2), some (ti z6), some (ti 0)]) dX8_put_39 rfl rfl ?_
        refine GO.iload dX8_put_41 rfl ?_
        refine GO.if_eq (tgt := 69) dX8_put_43 (by decide) (ir_c rfl) (fun c16 => ?_) (fun h => by exfalso; omega)
        exact GO.retv rfl rfl dX8_put_69 ⟨rfl, rfl, ⟨trivial, (by first | exact TPU.in (by assumption) (by assumption) ⟨by omega, by omega, by omega, by omega⟩ (by assumption) | exact TPU.out (by omega) | exact TPU.neg (by assumption) (by assumption) ⟨by omega, by omega, by omega, by omega⟩ (by omega) | exact TPU.bad (by assumption) (by assumption) ⟨by omega, by omega, by omega, by omega⟩ (by assumption) (by omega))⟩⟩
      ·
        refine GO.iload_n dX8_put_26 rfl rfl ?_
        refine GO.aload_n dX8_put_27 rfl rfl ?_
        refine GO.getI h_x fl_RX8_15_k31 rfl rfl dX8_put_28 (fun l17 u18 => ?_)
        refine GO.icmp_ge (tgt := 38) dX8_put_31 (by decide) r_p1 vi_ir (fun c19 => ?_) (fun c19 => ?_)
        ·
          refine GO.iconst dX8_put_38 ?_
          refine GO.istore (ls1 := [some (.ref x), some (ti p0), some (ti p1), some (ti p2), some (ti z6), some (ti 0)]) dX8_put_39 rfl rfl ?_
          refine GO.iload dX8_put_41 rfl ?_
          refine GO.if_eq (tgt := 69) dX8_put_43 (by decide) (ir_c rfl) (fun c20 => ?_) (fun h => by exfalso; omega)
          exact GO.retv rfl rfl dX8_put_69 ⟨rfl, rfl, ⟨trivial, (by first | exact TPU.in (by assumption) (by assumption) ⟨by omega, by omega, by omega, by omega⟩ (by assumption) | exact TPU.out (by omega) | exact TPU.neg (by assumption) (by assumption) ⟨by omega, by omega, by omega, by omega⟩ (by omega) | exact TPU.bad (by assumption) (by assumption) ⟨by omega, by omega, by omega, by omega⟩ (by assumption) (by omega))⟩⟩
        ·
          refine GO.iconst dX8_put_34 ?_
          refine GO.goto (tgt := 39) dX8_put_35 (by decide) ?_
          refine GO.istore (ls1 := [some (.ref x), some (ti p0), some (ti p1), some (ti p2), some (ti z6), some (ti 1)]) dX8_put_39 rfl rfl ?_
          refine GO.iload dX8_put_41 rfl ?_
          refine GO.if_eq (tgt := 69) dX8_put_43 (by decide) (ir_c rfl) (fun h => by exfalso; omega) (fun c21 => ?_)
          refine GO.iload dX8_put_46 rfl ?_
          refine GO.if_lt (tgt := 69) dX8_put_48 (by decide) r7 (fun c22 => ?_) (fun c22 => ?_)
          ·
            exact GO.retv rfl rfl dX8_put_69 ⟨rfl, rfl, ⟨trivial, (by first | exact TPU.in (by assumption) (by assumption) ⟨by omega, by omega, by omega, by omega⟩ (by assumption) | exact TPU.out (by omega) | exact TPU.neg (by assumption) (by assumption) ⟨by omega, by omega, by omega, by omega⟩ (by omega) | exact TPU.bad (by assumption) (by assumption) ⟨by omega, by omega, by omega, by omega⟩ (by assumption) (by omega))⟩⟩
          ·
            refine GO.iload dX8_put_51 rfl ?_
            refine GO.aload_n dX8_put_53 rfl rfl ?_
            refine GO.getA (n := 400) h_x fl_RX8_27_k31 rfl rfl rfl rfl dX8_put_54 (fun hv24 h23 => ?_)
            refine GO.alen h23 dX8_put_57 (fun h25 => ?_)
            refine GO.icmp_ge (tgt := 69) dX8_put_58 (by decide) r7 ⟨by omega, by omega⟩ (fun c26 => ?_) (fun c26 => ?_)
            ·
              exact GO.retv rfl rfl dX8_put_69 ⟨rfl, rfl, ⟨trivial, (by first | exact TPU.in (by assumption) (by assumption) ⟨by omega, by omega, by omega, by omega⟩ (by assumption) | exact TPU.out (by omega) | exact TPU.neg (by assumption) (by assumption) ⟨by omega, by omega, by omega, by omega⟩ (by omega) | exact TPU.bad (by assumption) (by assumption) ⟨by omega, by omega, by omega, by omega⟩ (by assumption) (by omega))⟩⟩
            ·
              refine GO.aload_n dX8_put_61 rfl rfl ?_
              refine GO.getRaw h_x fl_RX8_27_k31 hv24 dX8_put_62 ?_
              refine GO.iload dX8_put_65 rfl ?_
              refine GO.iload_n dX8_put_67 rfl rfl ?_
              have q29 : -2147483648 ≤ z6 ∧ z6 ≤ 2147483647 := r7
              have q31 : -2147483648 ≤ p2 ∧ p2 ≤ 2147483647 := r_p2
              refine GO.iast (t := 153) rfl rfl (by decide +kernel) h23 r7 (by omega) (by omega) r_p2 (by omega) (by omega) dX8_put_68 (fun V32 e30 => ?_)
              exact GO.retv rfl rfl dX8_put_69 ⟨rfl, rfl, ⟨trivial, (by first | exact TPU.in (by assumption) (by assumption) ⟨by omega, by omega, by omega, by omega⟩ (by assumption) | exact TPU.out (by omega) | exact TPU.neg (by assumption) (by assumption) ⟨by omega, by omega, by omega, by omega⟩ (by omega) | exact TPU.bad (by assumption) (by assumption) ⟨by omega, by omega, by omega, by omega⟩ (by assumption) (by omega))⟩⟩

set_option maxHeartbeats 1000000 in
theorem t_X8_append_k31 {K : Kmap} {V : Vmap} {x : Nat} {p0 : Int} {p1 : Int} {p2 : Int} {p3 : Int} {p4 : Int} (h_x : K x = some (0, 31)) (r_p0 : ir p0) (r_p1 : ir p1) (r_p2 : ir p2) (r_p3 : ir p3) (r_p4 : ir p4) (q_0 : p0 ≥ 0) (q_1 : p0 ≤ 255) (q_2 : p1 ≥ 0) (q_3 : p1 ≤ 255) (q_4 : p2 ≥ 0) (q_5 : p2 ≤ 255) (q_6 : p3 ≥ 0) (q_7 : p3 ≤ 255) (q_8 : p4 ≥ 0) (q_9 : p4 ≤ 255) : MC mX8_append_k31 K V [.ref x, ti p0, ti p1, ti p2, ti p3, ti p4] (IS K (fun X V1 => (X ≥ (-2147483648) ∧ X ≤ 2147483647) ∧ (APP K V V1 x p0 p1 p2 p3 p4 X))) := by
  refine MC.start 1 (by decide +kernel) rfl rfl rfl (ls0 := [some (.ref x), some (ti p0), some (ti p1), some (ti p2), some (ti p3), some (ti p4), none]) rfl ?_
  refine GO.aload_n dX8_append_0 rfl rfl ?_
  refine GO.callV (ci := 31) (N := mX8_isFull_k31) dX8_append_1 (RX8, TX8, 4) rfl gV_RX8_31 h_x (t_X8_isFull_k31 h_x) rfl [] rfl rfl (Nat.le_of_ble_eq_true rfl) rfl (k_ip fun X1 r2 h3 => ?_)
  refine GO.if_eq (tgt := 9) dX8_append_4 (by decide) r2 (fun c4 => ?_) (fun c4 => ?_)
  ·
    have q5 := h3.2.2 (by omega)
    refine GO.aload_n dX8_append_9 rfl rfl ?_
    refine GO.getI h_x fl_RX8_9_k31 rfl rfl dX8_append_10 (fun l6 u7 => ?_)
    refine GO.name (fun z8 hz9 => ?_)
    have r10 : ir z8 := hz9 ▸ vi_ir
    refine GO.istore (ls1 := [some (.ref x), some (ti p0), some (ti p1), some (ti p2), some (ti p3), some (ti p4), some (ti z8)]) dX8_append_13 rfl rfl ?_
    refine GO.aload_n dX8_append_15 rfl rfl ?_
    refine GO.dup dX8_append_16 rfl ?_
    refine GO.getI h_x fl_RX8_9_k31 rfl rfl dX8_append_17 (fun l11 u12 => ?_)
    refine GO.iconst dX8_append_20 ?_
    refine GO.iadd dX8_append_21 ?_
    have q14 : -2147483648 ≤ vi V x 3 ∧ vi V x 3 ≤ 2147483647 := vi_ir
    have q15 : -2147483648 ≤ z8 ∧ z8 ≤ 2147483647 := r10
    have q16 : -2147483648 ≤ vi V x 1 ∧ vi V x 1 ≤ 2147483647 := vi_ir
    refine GO.putI h_x fp_RX8_9_k31 rfl (by decide +kernel) ⟨by omega, by omega⟩ (by omega) (by omega) dX8_append_22 (fun V17 e13 => ?_)
    refine GO.aload_n dX8_append_25 rfl rfl ?_
    refine GO.iload dX8_append_26 rfl ?_
    refine GO.iconst dX8_append_28 ?_
    refine GO.iload_n dX8_append_29 rfl rfl ?_
    have q18 : -2147483648 ≤ p0 ∧ p0 ≤ 2147483647 := r_p0
    refine GO.callV (ci := 31) (N := mX8_put_k31) dX8_append_30 (RX8, TX8, 4) rfl gV_RX8_35 h_x (t_X8_put_k31 h_x r10 (ir_c rfl) r_p0 (by omega) (by omega)) rfl [] rfl rfl (Nat.le_of_ble_eq_true rfl) rfl (k_vs fun V21 h20 hF19 => ?_)
    have raw_put := h20.2
    have rw30 := h20.2
    refine GO.aload_n dX8_append_33 rfl rfl ?_
    refine GO.iload dX8_append_34 rfl ?_
    refine GO.iconst dX8_append_36 ?_
    refine GO.iload_n dX8_append_37 rfl rfl ?_
    have q22 : -2147483648 ≤ p1 ∧ p1 ≤ 2147483647 := r_p1
    refine GO.callV (ci := 31) (N := mX8_put_k31) dX8_append_38 (RX8, TX8, 4) rfl gV_RX8_35 h_x (t_X8_put_k31 h_x r10 (ir_c rfl) r_p1 (by omega) (by omega)) rfl [] rfl rfl (Nat.le_of_ble_eq_true rfl) rfl (k_vs fun V25 h24 hF23 => ?_)
    have raw_put := h24.2
    have rw38 := h24.2
    refine GO.aload_n dX8_append_41 rfl rfl ?_
    refine GO.iload dX8_append_42 rfl ?_
    refine GO.iconst dX8_append_44 ?_
    refine GO.iload_n dX8_append_45 rfl rfl ?_
    have q26 : -2147483648 ≤ p2 ∧ p2 ≤ 2147483647 := r_p2
    refine GO.callV (ci := 31) (N := mX8_put_k31) dX8_append_46 (RX8, TX8, 4) rfl gV_RX8_35 h_x (t_X8_put_k31 h_x r10 (ir_c rfl) r_p2 (by omega) (by omega)) rfl [] rfl rfl (Nat.le_of_ble_eq_true rfl) rfl (k_vs fun V29 h28 hF27 => ?_)
    have raw_put := h28.2
    have rw46 := h28.2
    refine GO.aload_n dX8_append_49 rfl rfl ?_
    refine GO.iload dX8_append_50 rfl ?_
    refine GO.iconst dX8_append_52 ?_
    refine GO.iload dX8_append_53 rfl ?_
    have q30 : -2147483648 ≤ p3 ∧ p3 ≤ 2147483647 := r_p3
    refine GO.callV (ci := 31) (N := mX8_put_k31) dX8_append_55 (RX8, TX8, 4) rfl gV_RX8_35 h_x (t_X8_put_k31 h_x r10 (ir_c rfl) r_p3 (by omega) (by omega)) rfl [] rfl rfl (Nat.le_of_ble_eq_true rfl) rfl (k_vs fun V33 h32 hF31 => ?_)
    have raw_put := h32.2
    have rw55 := h32.2
    refine GO.aload_n dX8_append_58 rfl rfl ?_
    refine GO.iload dX8_append_59 rfl ?_
    refine GO.iconst dX8_append_61 ?_
    refine GO.iload dX8_append_62 rfl ?_
    have q34 : -2147483648 ≤ p4 ∧ p4 ≤ 2147483647 := r_p4
    refine GO.callV (ci := 31) (N := mX8_put_k31) dX8_append_64 (RX8, TX8, 4) rfl gV_RX8_35 h_x (t_X8_put_k31 h_x r10 (ir_c rfl) r_p4 (by omega) (by omega)) rfl [] rfl rfl (Nat.le_of_ble_eq_true rfl) rfl (k_vs fun V37 h36 hF35 => ?_)
    have raw_put := h36.2
    have rw64 := h36.2
    refine GO.iload dX8_append_67 rfl ?_
    exact GO.reti rfl rfl dX8_append_69 ⟨rfl, _, rfl, r10, ⟨(by first | exact trivial | omega), (by first | exact APP.no (by omega) rfl | exact APP.yes h_x (by omega) (by omega) (by assumption) rfl ⟨by omega, by omega⟩ rw30 rw38 rw46 rw55 rw64)⟩⟩
  ·
    have q38 := h3.2.1 (by omega)
    refine GO.iconst dX8_append_7 ?_
    exact GO.reti rfl rfl dX8_append_8 ⟨rfl, _, rfl, (ir_c rfl), ⟨(by first | exact trivial | omega), (by first | exact APP.no (by omega) rfl)⟩⟩
