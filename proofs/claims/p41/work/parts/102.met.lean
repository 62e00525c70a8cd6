def mX11_reserve : MRec := (RX11, cX11_reserve, 4, (some .int), yX11_reserve, 3, 68, 3, 36, 564334117367815042357687469461997916537692687584971418399409396837928782352155507910360158656806116148405993523373351352911683759490618471558993275721969706942749750056268447090737152)
def mX11_site : MRec := (RX11, cX11_site, 3, (some .int), yX11_site, 3, 68, 3, 36, 564334117367815042357687469461997916537692687584971418399409396837928782352155507910360158656806116148405993523373351352911683759490618471558993275721969706942749750056268447090737152)
def mX8_isFull_k31 : MRec := (RX8, cX8_isFull, 1, (some .boolean), yX8_isFull, 0, 0, 0, 0, 0)
def mX8_put_k31 : MRec := (RX8, cX8_put, 6, (none : Option Jvm.ClassFile.FieldType), yX8_put, 0, 0, 0, 0, 43322963970637732180912721627235682866194329302747133987038743447103457934462900359999600095377180907771737671271930809827721216)
def mX8_append_k31 : MRec := (RX8, cX8_append, 7, (some .int), yX8_append, 1, 25, 0, 0, 9797766621314684873895700802803279209044463565243731922466831101232640732676423455199461349798677140994740862316442171586702782994492892617188900691048455231624352361948934749022246243962720802322776064)
def mX11_feedNumber : MRec := (RX11, cX11_feedNumber, 3, (none : Option Jvm.ClassFile.FieldType), yX11_feedNumber, 2, 51, 0, 0, 9797766621314684873895700802803279209044463565243731922466831101232640732676423455199461349798677140994740862316442171586702782994492892617188900691048455231624352361948934749022246243962720802322776064)
def mX11_feed : MRec := (RX11, cX11_feed, 6, (some .int), yX11_feed, 3, 73, 0, 0, 9797766621314684873895700802803279209044463565243731922466831101232640732676423455199461349798677140994740862316442171586702782994492892617188900691048455231624352361948934749022246243962720802322776064)
def mX8_get_k31 : MRec := (RX8, cX8_get, 5, (some .int), yX8_get, 0, 0, 0, 0, 0)
def mX11_fedNumber : MRec := (RX11, cX11_fedNumber, 4, (some .int), yX11_fedNumber, 1, 24, 0, 0, 0)
def mX11_areDays : MRec := (RX11, cX11_areDays, 2, (some .boolean), yX11_areDays, 0, 0, 0, 0, 0)
def mX5_init_t153 : MRec := (RX5, cX5_init, 4, (none : Option Jvm.ClassFile.FieldType), yX5_init, 1, 12, 0, 0, 66392249102095887336198525819058578416199139715878990399930517275050444982606530342395312783153660708611166185780812626918322417206588404926189997345823418992978908854424152378966016)
def mX11_text : MRec := (RX11, cX11_text, 6, (some .int), yX11_text, 36, 856, 5, 288, 2518026021677874012592854912547995153907832099413115568534380571509685643046878465648730486932874935767677084864450412338673623359617324596678856757963541614744183526569101090489668494539146506244482678784)
def mX4_put_t123 : MRec := (RX4, cX4_put, 3, (none : Option Jvm.ClassFile.FieldType), yX4_put, 0, 0, 0, 0, 40347654345107946713373737062547060536401653012956617387979052445947619094013143666088208645002153616185987062074179584)
def mX11_yes : MRec := (RX11, cX11_yes, 4, (some .boolean), yX11_yes, 1, 22, 0, 0, 40347654345107946713373737062547060536401653012956617387979052445947619094013143666088208645002153616185987062075228160)
set_option maxHeartbeats 1000000 in
theorem t_X11_reserve {K : Kmap} {V : Vmap} {x : Nat} {p0 : Int} {p1 : Int} {p2 : Int} (h_x : K x = some (0, 10)) (r_p0 : ir p0) (r_p1 : ir p1) (r_p2 : ir p2) : MC mX11_reserve K V [.ref x, ti p0, ti p1, ti p2] (IX (fun X _ V1 => (X ≥ (-2147483648) ∧ X ≤ 2147483647) ∧ (RVC K V V1 x p0 p1 p2 X))) := by
  refine MC.start 0 (by decide +kernel) rfl rfl rfl (ls0 := [some (.ref x), some (ti p0), some (ti p1), some (ti p2)]) rfl ?_
  refine GO.useWT (fun hW_0 => ?_)
  refine GO.aload_n dX11_reserve_0 rfl rfl ?_
  refine GO.getR h_x fl_RX11_12 rfl rfl dX11_reserve_1 (fun hv2 h1 => ?_)
  refine GO.iload_n dX11_reserve_4 rfl rfl ?_
  refine GO.iload_n dX11_reserve_5 rfl rfl ?_
  refine GO.callV (ci := 0) (N := mX0_isRectangle) dX11_reserve_6 (RX0, TX0, 13) rfl gV_RX11_155 h1 (t_X0_isRectangle h1 r_p0 r_p1) rfl [] rfl rfl (Nat.le_of_ble_eq_true rfl) rfl (k_ip fun X3 r4 h5 => ?_)
  have raw_isRectangle := h5.2.2.2
  have rw6 := h5.2.2.2
  refine GO.if_eq (tgt := 22) dX11_reserve_9 (by decide) r4 (fun c6 => ?_) (fun c6 => ?_)
  ·
    refine GO.iconst dX11_reserve_22 ?_
    exact GO.reti rfl rfl dX11_reserve_23 ⟨_, rfl, (ir_c rfl), ⟨(by first | exact trivial | omega), (by first | exact RVC.no (fun g => absurd (rw6.mpr g.1) (by omega)) rfl | exact RVC.no (fun g => by have h9 := g.2; omega) rfl)⟩⟩
  ·
    refine GO.iload_n dX11_reserve_12 rfl rfl ?_
    refine GO.iconst dX11_reserve_13 ?_
    refine GO.bipush dX11_reserve_14 rfl ?_
    refine GO.callS (N := mX11_between) dX11_reserve_16 gS_RX11_112 (t_X11_between r_p2 (ir_c rfl) (ir_c rfl)) rfl [] rfl rfl (Nat.le_of_ble_eq_true rfl) rfl (k_ip fun X7 r8 h9 => ?_)
    refine GO.if_ne (tgt := 24) dX11_reserve_19 (by decide) r8 (fun c10 => ?_) (fun c10 => ?_)
    ·
      have q11 := h9.2.1 (by omega)
      refine GO.aload_n dX11_reserve_24 rfl rfl ?_
      have hWa := hW_0
      have sm0 : SMC V V x := SMC.rf
      refine GO.new (ci := 15) (RX3, TX3, 16) tyX3 rfl rfl lays_3 tyX3_ok gw_221 gw_425 gw_10 rfl rfl dX11_reserve_25 (fun o12 K13 V19 hq14 hK15 hE16 h17 _ hV18 => ?_)
      have h20 := hE16.obj (by decide) h_x
      refine GO.useWT (fun hWn => ?_)
      have sm1 := SMC.tr sm0 (SMC.fr (ws := 0) (FR.rf.new ext.rf hq14 hK15 hV18) hE16 hWa h_x rfl rfl rfl)
      have hx1n := hE16.obj (Or.inl (by decide)) h_x
      refine GO.dup dX11_reserve_28 rfl ?_
      refine GO.iconst dX11_reserve_29 ?_
      refine GO.iconst dX11_reserve_30 ?_
      refine GO.iload_n dX11_reserve_31 rfl rfl ?_
      refine GO.iload_n dX11_reserve_32 rfl rfl ?_
      refine GO.iload_n dX11_reserve_33 rfl rfl ?_
      refine GO.callI (N := mX3_init) dX11_reserve_34 gI_RX11_162 rfl (t_X3_init h17 (ir_c rfl) (ir_c rfl) r_p0 r_p1 r_p2) rfl [.ref o12, .ref x] rfl rfl (Nat.le_of_ble_eq_true rfl) rfl (k_vx fun K23 V25 h24 hE22 hF21 => ?_)
      have h26 := hE22.obj (by decide) h20
      have h27 := h24.1.1
      have ir0_34 := h24.1.2
      refine GO.useWT (fun hWi => ?_)
      have sm2 := SMC.tr sm1 (SMC.fr hF21 hE22 hWn hx1n (by decide +kernel) (by decide +kernel) (by decide +kernel))
      have hx2n := hE22.obj (Or.inl (by decide)) hx1n
      have hEE := hE16.tr hE22
      refine GO.callV (ci := 10) (N := mX11_settle) dX11_reserve_37 (RX11, TX11, 20) rfl gV_RX11_165 h26 (t_X11_settle h26 h27) rfl [] rfl rfl (Nat.le_of_ble_eq_true rfl) rfl (k_is fun X28 V32 r29 h30 hF31 => ?_)
      have raw_settle := h30.2
      have rw37 := h30.2
      exact GO.reti rfl rfl dX11_reserve_40 ⟨_, rfl, r29, ⟨(by first | exact trivial | omega), (by first | exact RVC.no (fun g => absurd (rw6.mpr g.1) (by omega)) rfl | exact RVC.no (fun g => by have h9 := g.2; omega) rfl | exact RVC.ok ⟨rw6.mp (by omega), by omega, by omega⟩ (NEWL.mk sm2 hq14 hW_0 h_x hEE h24.1.1 hWi hx2n h24.1.2 rw37))⟩⟩
    ·
      have q33 := h9.2.2 (by omega)
      refine GO.iconst dX11_reserve_22 ?_
      exact GO.reti rfl rfl dX11_reserve_23 ⟨_, rfl, (ir_c rfl), ⟨(by first | exact trivial | omega), (by first | exact RVC.no (fun g => absurd (rw6.mpr g.1) (by omega)) rfl | exact RVC.no (fun g => by have h9 := g.2; omega) rfl)⟩⟩

set_option maxHeartbeats 1000000 in
theorem t_X11_site {K : Kmap} {V : Vmap} {x : Nat} {p0 : Int} {p1 : Int} (h_x : K x = some (0, 10)) (r_p0 : ir p0) (r_p1 : ir p1) (z_p1 : p1 = 0 ∨ p1 = 1) : MC mX11_site K V [.ref x, ti p0, ti p1] (IX (fun X _ V1 => (X ≥ (-2147483648) ∧ X ≤ 2147483647) ∧ (SIC K V V1 x p0 p1 X))) := by
  refine MC.start 0 (by decide +kernel) rfl rfl rfl (ls0 := [some (.ref x), some (ti p0), some (ti p1)]) rfl ?_
  refine GO.useWT (fun hW_0 => ?_)
  refine GO.aload_n dX11_site_0 rfl rfl ?_
  refine GO.getR h_x fl_RX11_12 rfl rfl dX11_site_1 (fun hv2 h1 => ?_)
  refine GO.iload_n dX11_site_4 rfl rfl ?_
  refine GO.callV (ci := 0) (N := mX0_isCell) dX11_site_5 (RX0, TX0, 13) rfl gV_RX11_119 h1 (t_X0_isCell h1 r_p0) rfl [] rfl rfl (Nat.le_of_ble_eq_true rfl) rfl (k_ip fun X3 r4 h5 => ?_)
  have raw_isCell := h5.2.2.2
  have rw5 := h5.2.2.2
  refine GO.if_ne (tgt := 13) dX11_site_8 (by decide) r4 (fun c6 => ?_) (fun c6 => ?_)
  ·
    refine GO.aload_n dX11_site_13 rfl rfl ?_
    have hWa := hW_0
    have sm0 : SMC V V x := SMC.rf
    refine GO.new (ci := 15) (RX3, TX3, 16) tyX3 rfl rfl lays_3 tyX3_ok gw_221 gw_425 gw_10 rfl rfl dX11_site_14 (fun o7 K8 V14 hq9 hK10 hE11 h12 _ hV13 => ?_)
    have h15 := hE11.obj (by decide) h_x
    refine GO.useWT (fun hWn => ?_)
    have sm1 := SMC.tr sm0 (SMC.fr (ws := 0) (FR.rf.new ext.rf hq9 hK10 hV13) hE11 hWa h_x rfl rfl rfl)
    have hx1n := hE11.obj (Or.inl (by decide)) h_x
    refine GO.dup dX11_site_17 rfl ?_
    refine GO.iload_n dX11_site_18 rfl rfl ?_
    refine GO.if_eq (tgt := 26) dX11_site_19 (by decide) r_p1 (fun c16 => ?_) (fun c16 => ?_)
    ·
      refine GO.iconst dX11_site_26 ?_
      refine GO.iconst dX11_site_27 ?_
      refine GO.iload_n dX11_site_28 rfl rfl ?_
      refine GO.iconst dX11_site_29 ?_
      refine GO.iconst dX11_site_30 ?_
      refine GO.callI (N := mX3_init) dX11_site_31 gI_RX11_162 rfl (t_X3_init h12 (ir_c rfl) (ir_c rfl) r_p0 (ir_c rfl) (ir_c rfl)) rfl [.ref o7, .ref x] rfl rfl (Nat.le_of_ble_eq_true rfl) rfl (k_vx fun K19 V21 h20 hE18 hF17 => ?_)
      have h22 := hE18.obj (by decide) h15
      have h23 := h20.1.1
      have ir0_31 := h20.1.2
      refine GO.useWT (fun hWi => ?_)
      have sm2 := SMC.tr sm1 (SMC.fr hF17 hE18 hWn hx1n (by decide +kernel) (by decide +kernel) (by decide +kernel))
      have hx2n := hE18.obj (Or.inl (by decide)) hx1n
      have hEE := hE11.tr hE18
      refine GO.callV (ci := 10) (N := mX11_settle) dX11_site_34 (RX11, TX11, 20) rfl gV_RX11_165 h22 (t_X11_settle h22 h23) rfl [] rfl rfl (Nat.le_of_ble_eq_true rfl) rfl (k_is fun X24 V28 r25 h26 hF27 => ?_)
      have raw_settle := h26.2
      have rw34 := h26.2
      exact GO.reti rfl rfl dX11_site_37 ⟨_, rfl, r25, ⟨(by first | exact trivial | omega), (by first | exact SIC.no rw5 (by omega) rfl | exact SIC.ok rw5 (by omega) (by omega) (NEWL.mk sm2 hq9 hW_0 h_x hEE h20.1.1 hWi hx2n h20.1.2 rw34))⟩⟩
    ·
      refine GO.iconst dX11_site_22 ?_
      refine GO.goto (tgt := 27) dX11_site_23 (by decide) ?_
      refine GO.iconst dX11_site_27 ?_
      refine GO.iload_n dX11_site_28 rfl rfl ?_
      refine GO.iconst dX11_site_29 ?_
      refine GO.iconst dX11_site_30 ?_
      refine GO.callI (N := mX3_init) dX11_site_31 gI_RX11_162 rfl (t_X3_init h12 (ir_c rfl) (ir_c rfl) r_p0 (ir_c rfl) (ir_c rfl)) rfl [.ref o7, .ref x] rfl rfl (Nat.le_of_ble_eq_true rfl) rfl (k_vx fun K31 V33 h32 hE30 hF29 => ?_)
      have h34 := hE30.obj (by decide) h15
      have h35 := h32.1.1
      have ir0_31 := h32.1.2
      refine GO.useWT (fun hWi => ?_)
      have sm2 := SMC.tr sm1 (SMC.fr hF29 hE30 hWn hx1n (by decide +kernel) (by decide +kernel) (by decide +kernel))
      have hx2n := hE30.obj (Or.inl (by decide)) hx1n
      have hEE := hE11.tr hE30
      refine GO.callV (ci := 10) (N := mX11_settle) dX11_site_34 (RX11, TX11, 20) rfl gV_RX11_165 h34 (t_X11_settle h34 h35) rfl [] rfl rfl (Nat.le_of_ble_eq_true rfl) rfl (k_is fun X36 V40 r37 h38 hF39 => ?_)
      have raw_settle := h38.2
      have rw34 := h38.2
      exact GO.reti rfl rfl dX11_site_37 ⟨_, rfl, r37, ⟨(by first | exact trivial | omega), (by first | exact SIC.no rw5 (by omega) rfl | exact SIC.ok rw5 (by omega) (by omega) (NEWL.mk sm2 hq9 hW_0 h_x hEE h32.1.1 hWi hx2n h32.1.2 rw34))⟩⟩
  ·
    refine GO.iconst dX11_site_11 ?_
    exact GO.reti rfl rfl dX11_site_12 ⟨_, rfl, (ir_c rfl), ⟨(by first | exact trivial | omega), (by first | exact SIC.no rw5 (by omega) rfl)⟩⟩

set_option maxHeartbeats 1000000 in
theorem t_X8_isFull_k31 {K : Kmap} {V : Vmap} {x : Nat} (h_x : K x = some (0, 31)) : MC mX8_isFull_k31 K V [.ref x] (IP K V (fun X => (X = 0 ∨ X = 1) ∧ (X ≠ 0 → vi V x 3 ≥ vi V x 1 ∧ vi V x 3 ≥ 400) ∧ (X = 0 → vi V x 3 < vi V x 1 ∧ vi V x 3 ≤ 399))) := by
  refine MC.start 0 (by decide +kernel) rfl rfl rfl (ls0 := [some (.ref x)]) rfl ?_
  refine GO.aload_n dX8_isFull_0 rfl rfl ?_
  refine GO.getI h_x fl_RX8_9_k31 rfl rfl dX8_isFull_1 (fun l1 u2 => ?_)
  refine GO.aload_n dX8_isFull_4 rfl rfl ?_
  refine GO.getI h_x fl_RX8_18_k31 rfl rfl dX8_isFull_5 (fun l3 u4 => ?_)
  refine GO.icmp_lt (tgt := 15) dX8_isFull_8 (by decide) vi_ir vi_ir (fun c5 => ?_) (fun c5 => ?_)
  ·
    refine GO.iconst dX8_isFull_15 ?_
    exact GO.retz rfl rfl dX8_isFull_16 (Or.inl rfl) ⟨rfl, rfl, _, rfl, (ir_c rfl), ⟨Or.inl rfl, fun h => absurd rfl h, fun h => by omega⟩⟩
  ·
    refine GO.iconst dX8_isFull_11 ?_
    refine GO.goto (tgt := 16) dX8_isFull_12 (by decide) ?_
    exact GO.retz rfl rfl dX8_isFull_16 (Or.inr rfl) ⟨rfl, rfl, _, rfl, (ir_c rfl), ⟨Or.inr rfl, fun h => by omega, fun h => absurd h (by decide)⟩⟩

set_option maxHeartbeats 1000000 in
theorem t_X8_put_k31 {K : Kmap} {V : Vmap} {x : Nat} {p0 : Int} {p1 : Int} {p2 : Int} (h_x : K x = some (0, 31)) (r_p0 : ir p0) (r_p1 : ir p1) (r_p2 : ir p2) (q_0 : p2 ≥ 0) (q_1 : p2 ≤ 255) : MC mX8_put_k31 K V [.ref x, ti p0, ti p1, ti p2] (VS K (fun V1 => (True) ∧ (TPU K V V1 x p0 p1 p2))) := by
  refine MC.start 2 (by decide +kernel) rfl rfl rfl (ls0 := [some (.ref x), some (ti p0), some (ti p1), some (ti p2), none, none]) rfl ?_
  refine GO.iload_n dX8_put_0 rfl rfl ?_
  refine GO.aload_n dX8_put_1 rfl rfl ?_
  refine GO.getI h_x fl_RX8_15_k31 rfl rfl dX8_put_2 (fun l1 u2 => ?_)
  refine GO.imul dX8_put_5 ?_
  refine GO.norm (fun z3 r4 hn5 => ?_)
  refine GO.iload_n dX8_put_6 rfl rfl ?_
  refine GO.iadd dX8_put_7 ?_
  refine GO.norm (fun z6 r7 hn8 => ?_)
  refine GO.istore (ls1 := [some (.ref x), some (ti p0), some (ti p1), some (ti p2), some (ti z6), none]) dX8_put_8 rfl rfl ?_
  refine GO.iload_n dX8_put_10 rfl rfl ?_
  refine GO.if_lt (tgt := 38) dX8_put_11 (by decide) r_p0 (fun c9 => ?_) (fun c9 => ?_)
  ·
    refine GO.iconst dX8_put_38 ?_
    refine GO.istore (ls1 := [some (.ref x), some (ti p0), some (ti p1), some (ti p2), some (ti z6), some (ti 0)]) dX8_put_39 rfl rfl ?_
    refine GO.iload dX8_put_41 rfl ?_
    refine GO.if_eq (tgt := 69) dX8_put_43 (by decide) (ir_c rfl) (fun c10 => ?_) (fun h => by exfalso; omega)
    exact GO.retv rfl rfl dX8_put_69 ⟨rfl, rfl, ⟨trivial, (by first | exact TPU.in (by assumption) (by assumption) ⟨by omega, by omega, by omega, by omega⟩ (by assumption) | exact TPU.out (by omega) | exact TPU.neg (by assumption) (by assumption) ⟨by omega, by omega, by omega, by omega⟩ (by omega) | exact TPU.bad (by assumption) (by assumption) ⟨by omega, by omega, by omega, by omega⟩ (by assumption) (by omega))⟩⟩
  ·
    refine GO.iload_n dX8_put_14 rfl rfl ?_
    refine GO.aload_n dX8_put_15 rfl rfl ?_
    refine GO.getI h_x fl_RX8_9_k31 rfl rfl dX8_put_16 (fun l11 u12 => ?_)
    refine GO.icmp_ge (tgt := 38) dX8_put_19 (by decide) r_p0 vi_ir (fun c13 => ?_) (fun c13 => ?_)
    ·
      refine GO.iconst dX8_put_38 ?_
      refine GO.istore (ls1 := [some (.ref x), some (ti p0), some (ti p1), some (ti p2), some (ti z6), some (ti 0)]) dX8_put_39 rfl rfl ?_
      refine GO.iload dX8_put_41 rfl ?_
      refine GO.if_eq (tgt := 69) dX8_put_43 (by decide) (ir_c rfl) (fun c14 => ?_) (fun h => by exfalso; omega)
      exact GO.retv rfl rfl dX8_put_69 ⟨rfl, rfl, ⟨trivial, (by first | exact TPU.in (by assumption) (by assumption) ⟨by omega, by omega, by omega, by omega⟩ (by assumption) | exact TPU.out (by omega) | exact TPU.neg (by assumption) (by assumption) ⟨by omega, by omega, by omega, by omega⟩ (by omega) | exact TPU.bad (by assumption) (by assumption) ⟨by omega, by omega, by omega, by omega⟩ (by assumption) (by omega))⟩⟩
    ·
      refine GO.iload_n dX8_put_22 rfl rfl ?_
      refine GO.if_lt (tgt := 38) dX8_put_23 (by decide) r_p1 (fun c15 => ?_) (fun c15 => ?_)
      ·
        refine GO.iconst dX8_put_38 ?_
        refine GO.istore (ls1 := [some (.ref x), some (ti p0), some (ti p1), some (ti p2), some (ti z6), some (ti 0)]) dX8_put_39 rfl rfl ?_
        refine GO.iload dX8_put_41 rfl ?_
        refine GO.if_eq (tgt := 69) dX8_put_43 (by decide) (ir_c rfl) (fun c16 => ?_) (fun h => by exfalso; omega)
        exact GO.retv rfl rfl dX8_put_69 ⟨rfl, rfl, ⟨trivial, (by first | exact TPU.in (by assumption) (by assumption) ⟨by omega, by omega, by omega, by omega⟩ (by assumption) | exact TPU.out (by omega) | exact TPU.neg (by assumption) (by assumption) ⟨by omega, by omega, by omega, by omega⟩ (by omega) | exact TPU.bad (by assumption) (by assumption) ⟨by omega, by omega, by omega, by omega⟩ (by assumption) (by omega))⟩⟩
      ·
        refine GO.iload_n dX8_put_26 rfl rfl ?_
        refine GO.aload_n dX8_put_27 rfl rfl ?_
        refine GO.getI h_x fl_RX8_15_k31 rfl rfl dX8_put_28 (fun l17 u18 => ?_)
        refine GO.icmp_ge (tgt := 38) dX8_put_31 (by decide) r_p1 vi_ir (fun c19 => ?_) (fun c19 => ?_)
        ·
          refine GO.iconst dX8_put_38 ?_
          refine GO.istore (ls1 := [some (.ref x), some (ti p0), some (ti p1), some (ti p2), some (ti z6), some (ti 0)]) dX8_put_39 rfl rfl ?_
          refine GO.iload dX8_put_41 rfl ?_
          refine GO.if_eq (tgt := 69) dX8_put_43 (by decide) (ir_c rfl) (fun c20 => ?_) (fun h => by exfalso; omega)
          exact GO.retv rfl rfl dX8_put_69 ⟨rfl, rfl, ⟨trivial, (by first | exact TPU.in (by assumption) (by assumption) ⟨by omega, by omega, by omega, by omega⟩ (by assumption) | exact TPU.out (by omega) | exact TPU.neg (by assumption) (by assumption) ⟨by omega, by omega, by omega, by omega⟩ (by omega) | exact TPU.bad (by assumption) (by assumption) ⟨by omega, by omega, by omega, by omega⟩ (by assumption) (by omega))⟩⟩
        ·
          refine GO.iconst dX8_put_34 ?_
          refine GO.goto (tgt := 39) dX8_put_35 (by decide) ?_
          refine GO.istore (ls1 := [some (.ref x), some (ti p0), some (ti p1), some (ti p2), some (ti z6), some (ti 1)]) dX8_put_39 rfl rfl ?_
          refine GO.iload dX8_put_41 rfl ?_
          refine GO.if_eq (tgt := 69) dX8_put_43 (by decide) (ir_c rfl) (fun h => by exfalso; omega) (fun c21 => ?_)
          refine GO.iload dX8_put_46 rfl ?_
          refine GO.if_lt (tgt := 69) dX8_put_48 (by decide) r7 (fun c22 => ?_) (fun c22 => ?_)
          ·
            exact GO.retv rfl rfl dX8_put_69 ⟨rfl, rfl, ⟨trivial, (by first | exact TPU.in (by assumption) (by assumption) ⟨by omega, by omega, by omega, by omega⟩ (by assumption) | exact TPU.out (by omega) | exact TPU.neg (by assumption) (by assumption) ⟨by omega, by omega, by omega, by omega⟩ (by omega) | exact TPU.bad (by assumption) (by assumption) ⟨by omega, by omega, by omega, by omega⟩ (by assumption) (by omega))⟩⟩
          ·
            refine GO.iload dX8_put_51 rfl ?_
            refine GO.aload_n dX8_put_53 rfl rfl ?_
            refine GO.getA (n := 400) h_x fl_RX8_27_k31 rfl rfl rfl rfl dX8_put_54 (fun hv24 h23 => ?_)
            refine GO.alen h23 dX8_put_57 (fun h25 => ?_)
            refine GO.icmp_ge (tgt := 69) dX8_put_58 (by decide) r7 ⟨by omega, by omega⟩ (fun c26 => ?_) (fun c26 => ?_)
            ·
              exact GO.retv rfl rfl dX8_put_69 ⟨rfl, rfl, ⟨trivial, (by first | exact TPU.in (by assumption) (by assumption) ⟨by omega, by omega, by omega, by omega⟩ (by assumption) | exact TPU.out (by omega) | exact TPU.neg (by assumption) (by assumption) ⟨by omega, by omega, by omega, by omega⟩ (by omega) | exact TPU.bad (by assumption) (by assumption) ⟨by omega, by omega, by omega, by omega⟩ (by assumption) (by omega))⟩⟩
            ·
              refine GO.aload_n dX8_put_61 rfl rfl ?_
              refine GO.getRaw h_x fl_RX8_27_k31 hv24 dX8_put_62 ?_
              refine GO.iload dX8_put_65 rfl ?_
              refine GO.iload_n dX8_put_67 rfl rfl ?_
              have q29 : -2147483648 ≤ z6 ∧ z6 ≤ 2147483647 := r7
              have q31 : -2147483648 ≤ p2 ∧ p2 ≤ 2147483647 := r_p2
              refine GO.iast (t := 153) rfl rfl (by decide +kernel) h23 r7 (by omega) (by omega) r_p2 (by omega) (by omega) dX8_put_68 (fun V32 e30 => ?_)
              exact GO.retv rfl rfl dX8_put_69 ⟨rfl, rfl, ⟨trivial, (by first | exact TPU.in (by assumption) (by assumption) ⟨by omega, by omega, by omega, by omega⟩ (by assumption) | exact TPU.out (by omega) | exact TPU.neg (by assumption) (by assumption) ⟨by omega, by omega, by omega, by omega⟩ (by omega) | exact TPU.bad (by assumption) (by assumption) ⟨by omega, by omega, by omega, by omega⟩ (by assumption) (by omega))⟩⟩

set_option maxHeartbeats 1000000 in
theorem t_X8_append_k31 {K : Kmap} {V : Vmap} {x : Nat} {p0 : Int} {p1 : Int} {p2 : Int} {p3 : Int} {p4 : Int} (h_x : K x = some (0, 31)) (r_p0 : ir p0) (r_p1 : ir p1) (r_p2 : ir p2) (r_p3 : ir p3) (r_p4 : ir p4) (q_0 : p0 ≥ 0) (q_1 : p0 ≤ 255) (q_2 : p1 ≥ 0) (q_3 : p1 ≤ 255) (q_4 : p2 ≥ 0) (q_5 : p2 ≤ 255) (q_6 : p3 ≥ 0) (q_7 : p3 ≤ 255) (q_8 : p4 ≥ 0) (q_9 : p4 ≤ 255) : MC mX8_append_k31 K V [.ref x, ti p0, ti p1, ti p2, ti p3, ti p4] (IS K (fun X V1 => (X ≥ (-2147483648) ∧ X ≤ 2147483647) ∧ (APP K V V1 x p0 p1 p2 p3 p4 X))) := by
  refine MC.start 1 (by decide +kernel) rfl rfl rfl (ls0 := [some (.ref x), some (ti p0), some (ti p1), some (ti p2), some (ti p3), some (ti p4), none]) rfl ?_
  refine GO.aload_n dX8_append_0 rfl rfl ?_
  refine GO.callV (ci := 31) (N := mX8_isFull_k31) dX8_append_1 (RX8, TX8, 4) rfl gV_RX8_31 h_x (t_X8_isFull_k31 h_x) rfl [] rfl rfl (Nat.le_of_ble_eq_true rfl) rfl (k_ip fun X1 r2 h3 => ?_)
  refine GO.if_eq (tgt := 9) dX8_append_4 (by decide) r2 (fun c4 => ?_) (fun c4 => ?_)
  ·
    have q5 := h3.2.2 (by omega)
    refine GO.aload_n dX8_append_9 rfl rfl ?_
    refine GO.getI h_x fl_RX8_9_k31 rfl rfl dX8_append_10 (fun l6 u7 => ?_)
    refine GO.name (fun z8 hz9 => ?_)
    have r10 : ir z8 := hz9 ▸ vi_ir
    refine GO.istore (ls1 := [some (.ref x), some (ti p0), some (ti p1), some (ti p2), some (ti p3), some (ti p4), some (ti z8)]) dX8_append_13 rfl rfl ?_
    refine GO.aload_n dX8_append_15 rfl rfl ?_
    refine GO.dup dX8_append_16 rfl ?_
    refine GO.getI h_x fl_RX8_9_k31 rfl rfl dX8_append_17 (fun l11 u12 => ?_)
    refine GO.iconst dX8_append_20 ?_
    refine GO.iadd dX8_append_21 ?_
    have q14 : -2147483648 ≤ vi V x 3 ∧ vi V x 3 ≤ 2147483647 := vi_ir
    have q15 : -2147483648 ≤ z8 ∧ z8 ≤ 2147483647 := r10
    have q16 : -2147483648 ≤ vi V x 1 ∧ vi V x 1 ≤ 2147483647 := vi_ir
    refine GO.putI h_x fp_RX8_9_k31 rfl (by decide +kernel) ⟨by omega, by omega⟩ (by omega) (by omega) dX8_append_22 (fun V17 e13 => ?_)
    refine GO.aload_n dX8_append_25 rfl rfl ?_
    refine GO.iload dX8_append_26 rfl ?_
    refine GO.iconst dX8_append_28 ?_
    refine GO.iload_n dX8_append_29 rfl rfl ?_
    have q18 : -2147483648 ≤ p0 ∧ p0 ≤ 2147483647 := r_p0
    refine GO.callV (ci := 31) (N := mX8_put_k31) dX8_append_30 (RX8, TX8, 4) rfl gV_RX8_35 h_x (t_X8_put_k31 h_x r10 (ir_c rfl) r_p0 (by omega) (by omega)) rfl [] rfl rfl (Nat.le_of_ble_eq_true rfl) rfl (k_vs fun V21 h20 hF19 => ?_)
    have raw_put := h20.2
    have rw30 := h20.2
    refine GO.aload_n dX8_append_33 rfl rfl ?_
    refine GO.iload dX8_append_34 rfl ?_
    refine GO.iconst dX8_append_36 ?_
    refine GO.iload_n dX8_append_37 rfl rfl ?_
    have q22 : -2147483648 ≤ p1 ∧ p1 ≤ 2147483647 := r_p1
    refine GO.callV (ci := 31) (N := mX8_put_k31) dX8_append_38 (RX8, TX8, 4) rfl gV_RX8_35 h_x (t_X8_put_k31 h_x r10 (ir_c rfl) r_p1 (by omega) (by omega)) rfl [] rfl rfl (Nat.le_of_ble_eq_true rfl) rfl (k_vs fun V25 h24 hF23 => ?_)
    have raw_put := h24.2
    have rw38 := h24.2
    refine GO.aload_n dX8_append_41 rfl rfl ?_
    refine GO.iload dX8_append_42 rfl ?_
    refine GO.iconst dX8_append_44 ?_
    refine GO.iload_n dX8_append_45 rfl rfl ?_
    have q26 : -2147483648 ≤ p2 ∧ p2 ≤ 2147483647 := r_p2
    refine GO.callV (ci := 31) (N := mX8_put_k31) dX8_append_46 (RX8, TX8, 4) rfl gV_RX8_35 h_x (t_X8_put_k31 h_x r10 (ir_c rfl) r_p2 (by omega) (by omega)) rfl [] rfl rfl (Nat.le_of_ble_eq_true rfl) rfl (k_vs fun V29 h28 hF27 => ?_)
    have raw_put := h28.2
    have rw46 := h28.2
    refine GO.aload_n dX8_append_49 rfl rfl ?_
    refine GO.iload dX8_append_50 rfl ?_
    refine GO.iconst dX8_append_52 ?_
    refine GO.iload dX8_append_53 rfl ?_
    have q30 : -2147483648 ≤ p3 ∧ p3 ≤ 2147483647 := r_p3
    refine GO.callV (ci := 31) (N := mX8_put_k31) dX8_append_55 (RX8, TX8, 4) rfl gV_RX8_35 h_x (t_X8_put_k31 h_x r10 (ir_c rfl) r_p3 (by omega) (by omega)) rfl [] rfl rfl (Nat.le_of_ble_eq_true rfl) rfl (k_vs fun V33 h32 hF31 => ?_)
    have raw_put := h32.2
    have rw55 := h32.2
    refine GO.aload_n dX8_append_58 rfl rfl ?_
    refine GO.iload dX8_append_59 rfl ?_
    refine GO.iconst dX8_append_61 ?_
    refine GO.iload dX8_append_62 rfl ?_
    have q34 : -2147483648 ≤ p4 ∧ p4 ≤ 2147483647 := r_p4
    refine GO.callV (ci := 31) (N := mX8_put_k31) dX8_append_64 (RX8, TX8, 4) rfl gV_RX8_35 h_x (t_X8_put_k31 h_x r10 (ir_c rfl) r_p4 (by omega) (by omega)) rfl [] rfl rfl (Nat.le_of_ble_eq_true rfl) rfl (k_vs fun V37 h36 hF35 => ?_)
    have raw_put := h36.2
    have rw64 := h36.2
    refine GO.iload dX8_append_67 rfl ?_
    exact GO.reti rfl rfl dX8_append_69 ⟨rfl, _, rfl, r10, ⟨(by first | exact trivial | omega), (by first | exact APP.no (by omega) rfl | exact APP.yes h_x (by omega) (by omega) (by assumption) rfl ⟨by omega, by omega⟩ rw30 rw38 rw46 rw55 rw64)⟩⟩
  ·
    have q38 := h3.2.1 (by omega)
    refine GO.iconst dX8_append_7 ?_
    exact GO.reti rfl rfl dX8_append_8 ⟨rfl, _, rfl, (ir_c rfl), ⟨(by first | exact trivial | omega), (by first | exact APP.no (by omega) rfl)⟩⟩

set_option maxHeartbeats 1000000 in
theorem t_X11_feedNumber {K : Kmap} {V : Vmap} {x : Nat} {p0 : Int} (h_x : K x = some (0, 10)) (r_p0 : ir p0) : MC mX11_feedNumber K V [.ref x, ti p0] (VS K (fun V1 => (True) ∧ (FED V V1 x (byt p0)))) := by
  refine MC.start 1 (by decide +kernel) rfl rfl rfl (ls0 := [some (.ref x), some (ti p0), none]) rfl ?_
  refine GO.useWT (fun hW_0 => ?_)
  refine GO.bipush dX11_feedNumber_0 rfl ?_
  refine GO.istore_n (ls1 := [some (.ref x), some (ti p0), some (ti 24)]) dX11_feedNumber_2 rfl rfl rfl ?_
  refine GO.loop1 (fun i1 W => (-8) ≤ i1 ∧ i1 ≤ 24 ∧ (FDI V W x p0 i1) ∧ True) (fun i1 => [some (.ref x), some (ti p0), some (ti i1)]) (fun i1 W => (i1 + 2147483648).toNat) 24 ⟨by omega, by omega, (by first | exact FDI.beg), trivial⟩ rfl (fun i1 Wi1 hp48 ih47 => ?_)
  obtain ⟨l_i1, u_i1, hfd, -⟩ := hp48
  have r_i1 : ir i1 := ⟨by omega, by omega⟩
  show GO mX11_feedNumber K V (VS K (fun V1 => (True) ∧ (FED V V1 x (byt p0)))) K Wi1 0 0 3 [some (.ref x), some (ti p0), some (ti i1)] []
  refine GO.useWT (fun hWh => ?_)
  refine GO.iload_n dX11_feedNumber_3 rfl rfl ?_
  refine GO.if_lt (tgt := 32) dX11_feedNumber_4 (by decide) r_i1 (fun c49 => ?_) (fun c49 => ?_)
  ·
    exact GO.retv rfl rfl dX11_feedNumber_32 ⟨rfl, rfl, ⟨trivial, FDI.end hfd (by omega)⟩⟩
  ·
    refine GO.aload_n dX11_feedNumber_7 rfl rfl ?_
    refine GO.getR h_x fl_RX11_91 rfl rfl dX11_feedNumber_8 (fun hv51 h50 => ?_)
    refine GO.iload_n dX11_feedNumber_11 rfl rfl ?_
    refine GO.iload_n dX11_feedNumber_12 rfl rfl ?_
    refine GO.ishr dX11_feedNumber_13 ?_
    refine GO.sipush dX11_feedNumber_14 rfl ?_
    refine GO.iand dX11_feedNumber_17 ?_
    have h52 := wand_rng (X := wshr p0 i1)
    refine GO.iconst dX11_feedNumber_18 ?_
    refine GO.iconst dX11_feedNumber_19 ?_
    refine GO.iconst dX11_feedNumber_20 ?_
    refine GO.iconst dX11_feedNumber_21 ?_
    refine GO.callV (ci := 31) (N := mX8_append_k31) dX11_feedNumber_22 (RX8, TX8, 4) rfl gV_RX11_205 h50 (t_X8_append_k31 h50 wand_ir (ir_c rfl) (ir_c rfl) (ir_c rfl) (ir_c rfl) (by omega) (by omega) (by omega) (by omega) (by omega) (by omega) (by omega) (by omega) (by omega) (by omega)) rfl [] rfl rfl (Nat.le_of_ble_eq_true rfl) rfl (k_is fun X53 V57 r54 h55 hF56 => ?_)
    have raw_append := h55.2
    have rw22 := h55.2
    refine GO.pop dX11_feedNumber_25 rfl ?_
    refine GO.iinc (X := i1) (n := (-8)) (Y := i1 + (-8)) (ls1 := [some (.ref x), some (ti p0), some (ti (i1 + (-8)))]) dX11_feedNumber_26 rfl rfl rfl rfl ?_
    refine GO.goto (tgt := 3) dX11_feedNumber_29 (by decide) ?_
    exact ih47 (i1 + (-8)) V57 ⟨by omega, by omega, (by first | exact FDI.beg | exact FDI.step hfd (by omega) rw22 h_x hWh (tp_rng h_x hW_0).1 (by omega)), trivial⟩ (by show ((i1 + (-8)) + 2147483648).toNat < (i1 + 2147483648).toNat; omega)

set_option maxHeartbeats 1000000 in
theorem t_X11_feed {K : Kmap} {V : Vmap} {x : Nat} {p0 : Int} {p1 : Int} {p2 : Int} {p3 : Int} {p4 : Int} (h_x : K x = some (0, 10)) (r_p0 : ir p0) (r_p1 : ir p1) (r_p2 : ir p2) (r_p3 : ir p3) (r_p4 : ir p4) : MC mX11_feed K V [.ref x, ti p0, ti p1, ti p2, ti p3, ti p4] (IS K (fun X V1 => (X ≥ (-2147483648) ∧ X ≤ 2147483647) ∧ (FDR V V1 x p0 p1 p2 p3 p4 X))) := by
  refine MC.start 0 (by decide +kernel) rfl rfl rfl (ls0 := [some (.ref x), some (ti p0), some (ti p1), some (ti p2), some (ti p3), some (ti p4)]) rfl ?_
  refine GO.useWT (fun hW_0 => ?_)
  have htp := tp_rng h_x hW_0
  unfold tpN tpO at htp
  refine GO.aload_n dX11_feed_0 rfl rfl ?_
  refine GO.getR h_x fl_RX11_91 rfl rfl dX11_feed_1 (fun hv2 h1 => ?_)
  refine GO.getI h1 fl_RX11_199_k31 rfl rfl dX11_feed_4 (fun l3 u4 => ?_)
  refine GO.bipush dX11_feed_7 rfl ?_
  refine GO.iadd dX11_feed_9 ?_
  refine GO.sipush dX11_feed_10 rfl ?_
  refine GO.icmp_le (tgt := 18) dX11_feed_13 (by decide) ⟨by omega, by omega⟩ (ir_c rfl) (fun c5 => ?_) (fun c5 => ?_)
  ·
    refine GO.aload_n dX11_feed_18 rfl rfl ?_
    refine GO.iload_n dX11_feed_19 rfl rfl ?_
    refine GO.callV (ci := 10) (N := mX11_feedNumber) dX11_feed_20 (RX11, TX11, 20) rfl gV_RX11_202 h_x (t_X11_feedNumber h_x r_p0) rfl [] rfl rfl (Nat.le_of_ble_eq_true rfl) rfl (k_vs fun V8 h7 hF6 => ?_)
    have raw_feedNumber := h7.2
    have rw20 := h7.2
    refine GO.aload_n dX11_feed_23 rfl rfl ?_
    refine GO.iload_n dX11_feed_24 rfl rfl ?_
    refine GO.callV (ci := 10) (N := mX11_feedNumber) dX11_feed_25 (RX11, TX11, 20) rfl gV_RX11_202 h_x (t_X11_feedNumber h_x r_p1) rfl [] rfl rfl (Nat.le_of_ble_eq_true rfl) rfl (k_vs fun V11 h10 hF9 => ?_)
    have raw_feedNumber := h10.2
    have rw25 := h10.2
    refine GO.aload_n dX11_feed_28 rfl rfl ?_
    refine GO.iload_n dX11_feed_29 rfl rfl ?_
    refine GO.callV (ci := 10) (N := mX11_feedNumber) dX11_feed_30 (RX11, TX11, 20) rfl gV_RX11_202 h_x (t_X11_feedNumber h_x r_p2) rfl [] rfl rfl (Nat.le_of_ble_eq_true rfl) rfl (k_vs fun V14 h13 hF12 => ?_)
    have raw_feedNumber := h13.2
    have rw30 := h13.2
    refine GO.aload_n dX11_feed_33 rfl rfl ?_
    refine GO.iload dX11_feed_34 rfl ?_
    refine GO.callV (ci := 10) (N := mX11_feedNumber) dX11_feed_36 (RX11, TX11, 20) rfl gV_RX11_202 h_x (t_X11_feedNumber h_x r_p3) rfl [] rfl rfl (Nat.le_of_ble_eq_true rfl) rfl (k_vs fun V17 h16 hF15 => ?_)
    have raw_feedNumber := h16.2
    have rw36 := h16.2
    refine GO.aload_n dX11_feed_39 rfl rfl ?_
    refine GO.iload dX11_feed_40 rfl ?_
    refine GO.callV (ci := 10) (N := mX11_feedNumber) dX11_feed_42 (RX11, TX11, 20) rfl gV_RX11_202 h_x (t_X11_feedNumber h_x r_p4) rfl [] rfl rfl (Nat.le_of_ble_eq_true rfl) rfl (k_vs fun V20 h19 hF18 => ?_)
    have raw_feedNumber := h19.2
    have rw42 := h19.2
    refine GO.aload_n dX11_feed_45 rfl rfl ?_
    refine GO.getRaw h_x fl_RX11_91 (Eq.trans (hF18 _ _ _ h_x h_x (by decide +kernel)) (Eq.trans (hF15 _ _ _ h_x h_x (by decide +kernel)) (Eq.trans (hF12 _ _ _ h_x h_x (by decide +kernel)) (Eq.trans (hF9 _ _ _ h_x h_x (by decide +kernel)) (Eq.trans (hF6 _ _ _ h_x h_x (by decide +kernel)) hv2))))) dX11_feed_46 ?_
    refine GO.useFR (fun hFs => ?_)
    have h17 : vq V20 x 17 = vq V x 17 := by unfold vq; rw [hFs _ _ 17 h_x h_x (by decide +kernel)]
    refine GO.getI h1 fl_RX11_199_k31 rfl rfl dX11_feed_49 (fun l23 u24 => ?_)
    exact GO.reti rfl rfl dX11_feed_52 ⟨rfl, _, rfl, vi_ir, ⟨(by first | exact trivial | omega), (by first | exact Or.inl ⟨by unfold tpN tpO; omega, rfl, rfl⟩ | exact FDR.mk (by unfold tpN tpO; omega) h_x hW_0 rw20 rw25 rw30 rw36 rw42 (by unfold tpN tpO; rw [h17]))⟩⟩
  ·
    refine GO.iconst dX11_feed_16 ?_
    exact GO.reti rfl rfl dX11_feed_17 ⟨rfl, _, rfl, (ir_c rfl), ⟨(by first | exact trivial | omega), (by first | exact Or.inl ⟨by unfold tpN tpO; omega, rfl, rfl⟩)⟩⟩

set_option maxHeartbeats 1000000 in
theorem t_X8_get_k31 {K : Kmap} {V : Vmap} {x : Nat} {p0 : Int} {p1 : Int} (h_x : K x = some (0, 31)) (r_p0 : ir p0) (r_p1 : ir p1) : MC mX8_get_k31 K V [.ref x, ti p0, ti p1] (IP K V (fun X => (X ≥ 0 ∧ X ≤ 255) ∧ (TG K V x p0 p1 X))) := by
  refine MC.start 2 (by decide +kernel) rfl rfl rfl (ls0 := [some (.ref x), some (ti p0), some (ti p1), none, none]) rfl ?_
  refine GO.iload_n dX8_get_0 rfl rfl ?_
  refine GO.aload_n dX8_get_1 rfl rfl ?_
  refine GO.getI h_x fl_RX8_15_k31 rfl rfl dX8_get_2 (fun l1 u2 => ?_)
  refine GO.imul dX8_get_5 ?_
  refine GO.norm (fun z3 r4 hn5 => ?_)
  refine GO.iload_n dX8_get_6 rfl rfl ?_
  refine GO.iadd dX8_get_7 ?_
  refine GO.norm (fun z6 r7 hn8 => ?_)
  refine GO.istore_n (ls1 := [some (.ref x), some (ti p0), some (ti p1), some (ti z6), none]) dX8_get_8 rfl rfl rfl ?_
  refine GO.iload_n dX8_get_9 rfl rfl ?_
  refine GO.if_lt (tgt := 37) dX8_get_10 (by decide) r_p0 (fun c9 => ?_) (fun c9 => ?_)
  ·
    refine GO.iconst dX8_get_37 ?_
    refine GO.istore (ls1 := [some (.ref x), some (ti p0), some (ti p1), some (ti z6), some (ti 0)]) dX8_get_38 rfl rfl ?_
    refine GO.iload dX8_get_40 rfl ?_
    refine GO.if_eq (tgt := 67) dX8_get_42 (by decide) (ir_c rfl) (fun c10 => ?_) (fun h => by exfalso; omega)
    refine GO.iconst dX8_get_67 ?_
    exact GO.reti rfl rfl dX8_get_68 ⟨rfl, rfl, _, rfl, (ir_c rfl), ⟨(by first | exact trivial | omega), (by first | exact TG.in (by assumption) (by assumption) ⟨by omega, by omega, by omega, by omega⟩ | exact TG.out (by omega) rfl | exact TG.neg (by assumption) (by assumption) ⟨by omega, by omega, by omega, by omega⟩ (by omega) | exact TG.bad (by assumption) (by assumption) ⟨by omega, by omega, by omega, by omega⟩ (by assumption) (by omega))⟩⟩
  ·
    refine GO.iload_n dX8_get_13 rfl rfl ?_
    refine GO.aload_n dX8_get_14 rfl rfl ?_
    refine GO.getI h_x fl_RX8_9_k31 rfl rfl dX8_get_15 (fun l11 u12 => ?_)
    refine GO.icmp_ge (tgt := 37) dX8_get_18 (by decide) r_p0 vi_ir (fun c13 => ?_) (fun c13 => ?_)
    ·
      refine GO.iconst dX8_get_37 ?_
      refine GO.istore (ls1 := [some (.ref x), some (ti p0), some (ti p1), some (ti z6), some (ti 0)]) dX8_get_38 rfl rfl ?_
      refine GO.iload dX8_get_40 rfl ?_
      refine GO.if_eq (tgt := 67) dX8_get_42 (by decide) (ir_c rfl) (fun c14 => ?_) (fun h => by exfalso; omega)
      refine GO.iconst dX8_get_67 ?_
      exact GO.reti rfl rfl dX8_get_68 ⟨rfl, rfl, _, rfl, (ir_c rfl), ⟨(by first | exact trivial | omega), (by first | exact TG.in (by assumption) (by assumption) ⟨by omega, by omega, by omega, by omega⟩ | exact TG.out (by omega) rfl | exact TG.neg (by assumption) (by assumption) ⟨by omega, by omega, by omega, by omega⟩ (by omega) | exact TG.bad (by assumption) (by assumption) ⟨by omega, by omega, by omega, by omega⟩ (by assumption) (by omega))⟩⟩
    ·
      refine GO.iload_n dX8_get_21 rfl rfl ?_
      refine GO.if_lt (tgt := 37) dX8_get_22 (by decide) r_p1 (fun c15 => ?_) (fun c15 => ?_)
      ·
        refine GO.iconst dX8_get_37 ?_
        refine GO.istore (ls1 := [some (.ref x), some (ti p0), some (ti p1), some (ti z6), some (ti 0)]) dX8_get_38 rfl rfl ?_
        refine GO.iload dX8_get_40 rfl ?_
        refine GO.if_eq (tgt := 67) dX8_get_42 (by decide) (ir_c rfl) (fun c16 => ?_) (fun h => by exfalso; omega)
        refine GO.iconst dX8_get_67 ?_
        exact GO.reti rfl rfl dX8_get_68 ⟨rfl, rfl, _, rfl, (ir_c rfl), ⟨(by first | exact trivial | omega), (by first | exact TG.in (by assumption) (by assumption) ⟨by omega, by omega, by omega, by omega⟩ | exact TG.out (by omega) rfl | exact TG.neg (by assumption) (by assumption) ⟨by omega, by omega, by omega, by omega⟩ (by omega) | exact TG.bad (by assumption) (by assumption) ⟨by omega, by omega, by omega, by omega⟩ (by assumption) (by omega))⟩⟩
      ·
        refine GO.iload_n dX8_get_25 rfl rfl ?_
        refine GO.aload_n dX8_get_26 rfl rfl ?_
        refine GO.getI h_x fl_RX8_15_k31 rfl rfl dX8_get_27 (fun l17 u18 => ?_)
        refine GO.icmp_ge (tgt := 37) dX8_get_30 (by decide) r_p1 vi_ir (fun c19 => ?_) (fun c19 => ?_)
        ·
          refine GO.iconst dX8_get_37 ?_
          refine GO.istore (ls1 := [some (.ref x), some (ti p0), some (ti p1), some (ti z6), some (ti 0)]) dX8_get_38 rfl rfl ?_
          refine GO.iload dX8_get_40 rfl ?_
          refine GO.if_eq (tgt := 67) dX8_get_42 (by decide) (ir_c rfl) (fun c20 => ?_) (fun h => by exfalso; omega)
          refine GO.iconst dX8_get_67 ?_
          exact GO.reti rfl rfl dX8_get_68 ⟨rfl, rfl, _, rfl, (ir_c rfl), ⟨(by first | exact trivial | omega), (by first | exact TG.in (by assumption) (by assumption) ⟨by omega, by omega, by omega, by omega⟩ | exact TG.out (by omega) rfl | exact TG.neg (by assumption) (by assumption) ⟨by omega, by omega, by omega, by omega⟩ (by omega) | exact TG.bad (by assumption) (by assumption) ⟨by omega, by omega, by omega, by omega⟩ (by assumption) (by omega))⟩⟩
        ·
          refine GO.iconst dX8_get_33 ?_
          refine GO.goto (tgt := 38) dX8_get_34 (by decide) ?_
          refine GO.istore (ls1 := [some (.ref x), some (ti p0), some (ti p1), some (ti z6), some (ti 1)]) dX8_get_38 rfl rfl ?_
          refine GO.iload dX8_get_40 rfl ?_
          refine GO.if_eq (tgt := 67) dX8_get_42 (by decide) (ir_c rfl) (fun h => by exfalso; omega) (fun c21 => ?_)
          refine GO.iload_n dX8_get_45 rfl rfl ?_
          refine GO.if_lt (tgt := 67) dX8_get_46 (by decide) r7 (fun c22 => ?_) (fun c22 => ?_)
          ·
            refine GO.iconst dX8_get_67 ?_
            exact GO.reti rfl rfl dX8_get_68 ⟨rfl, rfl, _, rfl, (ir_c rfl), ⟨(by first | exact trivial | omega), (by first | exact TG.in (by assumption) (by assumption) ⟨by omega, by omega, by omega, by omega⟩ | exact TG.out (by omega) rfl | exact TG.neg (by assumption) (by assumption) ⟨by omega, by omega, by omega, by omega⟩ (by omega) | exact TG.bad (by assumption) (by assumption) ⟨by omega, by omega, by omega, by omega⟩ (by assumption) (by omega))⟩⟩
          ·
            refine GO.iload_n dX8_get_49 rfl rfl ?_
            refine GO.aload_n dX8_get_50 rfl rfl ?_
            refine GO.getA (n := 400) h_x fl_RX8_27_k31 rfl rfl rfl rfl dX8_get_51 (fun hv24 h23 => ?_)
            refine GO.alen h23 dX8_get_54 (fun h25 => ?_)
            refine GO.icmp_ge (tgt := 67) dX8_get_55 (by decide) r7 ⟨by omega, by omega⟩ (fun c26 => ?_) (fun c26 => ?_)
            ·
              refine GO.iconst dX8_get_67 ?_
              exact GO.reti rfl rfl dX8_get_68 ⟨rfl, rfl, _, rfl, (ir_c rfl), ⟨(by first | exact trivial | omega), (by first | exact TG.in (by assumption) (by assumption) ⟨by omega, by omega, by omega, by omega⟩ | exact TG.out (by omega) rfl | exact TG.neg (by assumption) (by assumption) ⟨by omega, by omega, by omega, by omega⟩ (by omega) | exact TG.bad (by assumption) (by assumption) ⟨by omega, by omega, by omega, by omega⟩ (by assumption) (by omega))⟩⟩
            ·
              refine GO.aload_n dX8_get_58 rfl rfl ?_
              refine GO.getRaw h_x fl_RX8_27_k31 hv24 dX8_get_59 ?_
              refine GO.iload_n dX8_get_62 rfl rfl ?_
              have q29 : -2147483648 ≤ z6 ∧ z6 ≤ 2147483647 := r7
              refine GO.iald (t := 153) rfl rfl h23 r7 (by omega) (by omega) dX8_get_63 (fun l30 u31 => ?_)
              refine GO.goto (tgt := 68) dX8_get_64 (by decide) ?_
              exact GO.reti rfl rfl dX8_get_68 ⟨rfl, rfl, _, rfl, vi_ir, ⟨(by first | exact trivial | omega), (by first | exact TG.in (by assumption) (by assumption) ⟨by omega, by omega, by omega, by omega⟩ | exact TG.out (by omega) rfl | exact TG.neg (by assumption) (by assumption) ⟨by omega, by omega, by omega, by omega⟩ (by omega) | exact TG.bad (by assumption) (by assumption) ⟨by omega, by omega, by omega, by omega⟩ (by assumption) (by omega))⟩⟩

set_option maxHeartbeats 1000000 in
theorem t_X11_fedNumber {K : Kmap} {V : Vmap} {x : Nat} {p0 : Int} (h_x : K x = some (0, 10)) (r_p0 : ir p0) : MC mX11_fedNumber K V [.ref x, ti p0] (IP K V (fun X => True)) := by
  refine MC.start 2 (by decide +kernel) rfl rfl rfl (ls0 := [some (.ref x), some (ti p0), none, none]) rfl ?_
  refine GO.iconst dX11_fedNumber_0 ?_
  refine GO.istore_n (ls1 := [some (.ref x), some (ti p0), some (ti 0), none]) dX11_fedNumber_1 rfl rfl rfl ?_
  refine GO.iconst dX11_fedNumber_2 ?_
  refine GO.istore_n (ls1 := [some (.ref x), some (ti p0), some (ti 0), some (ti 0)]) dX11_fedNumber_3 rfl rfl rfl ?_
  refine GO.loop2 (fun i1 i2 W => (-2147483648) ≤ i1 ∧ i1 ≤ 2147483647 ∧ 0 ≤ i2 ∧ i2 ≤ 4 ∧ V = W) (fun i1 i2 => [some (.ref x), some (ti p0), some (ti i1), some (ti i2)]) (fun i1 i2 W => (2147483647 - i2).toNat) 0 0 ⟨by omega, by omega, by omega, by omega, rfl⟩ rfl (fun i1 i2 V406 hp408 ih407 => ?_)
  obtain ⟨l_i1, u_i1, l_i2, u_i2, rfl⟩ := hp408
  have r_i1 : ir i1 := ⟨by omega, by omega⟩
  have r_i2 : ir i2 := ⟨by omega, by omega⟩
  show GO mX11_fedNumber K V (IP K V (fun X => True)) K V 0 0 4 [some (.ref x), some (ti p0), some (ti i1), some (ti i2)] []
  refine GO.iload_n dX11_fedNumber_4 rfl rfl ?_
  refine GO.iconst dX11_fedNumber_5 ?_
  refine GO.icmp_ge (tgt := 34) dX11_fedNumber_6 (by decide) r_i2 (ir_c rfl) (fun c409 => ?_) (fun c409 => ?_)
  ·
    refine GO.iload_n dX11_fedNumber_34 rfl rfl ?_
    exact GO.reti rfl rfl dX11_fedNumber_35 ⟨rfl, rfl, _, rfl, r_i1, trivial⟩
  ·
    refine GO.iload_n dX11_fedNumber_9 rfl rfl ?_
    refine GO.bipush dX11_fedNumber_10 rfl ?_
    refine GO.ishl dX11_fedNumber_12 ?_
    refine GO.aload_n dX11_fedNumber_13 rfl rfl ?_
    refine GO.getR h_x fl_RX11_91 rfl rfl dX11_fedNumber_14 (fun hv411 h410 => ?_)
    refine GO.iconst dX11_fedNumber_17 ?_
    refine GO.iload_n dX11_fedNumber_18 rfl rfl ?_
    refine GO.imul dX11_fedNumber_19 ?_
    refine GO.norm (fun z412 r413 hn414 => ?_)
    refine GO.iload_n dX11_fedNumber_20 rfl rfl ?_
    refine GO.iadd dX11_fedNumber_21 ?_
    refine GO.norm (fun z415 r416 hn417 => ?_)
    refine GO.iconst dX11_fedNumber_22 ?_
    refine GO.callV (ci := 31) (N := mX8_get_k31) dX11_fedNumber_23 (RX8, TX8, 4) rfl gV_RX11_209 h410 (t_X8_get_k31 h410 r416 (ir_c rfl)) rfl [ti (wshl i1 8)] rfl rfl (Nat.le_of_ble_eq_true rfl) rfl (k_ip fun X418 r419 h420 => ?_)
    have raw_get := h420.2
    have rw23 := h420.2
    refine GO.ior dX11_fedNumber_26 ?_
    refine GO.name (fun z421 hz422 => ?_)
    have r423 : ir z421 := hz422 ▸ wor_ir
    refine GO.istore_n (ls1 := [some (.ref x), some (ti p0), some (ti z421), some (ti i2)]) dX11_fedNumber_27 rfl rfl rfl ?_
    refine GO.iinc (X := i2) (n := 1) (Y := i2 + 1) (ls1 := [some (.ref x), some (ti p0), some (ti z421), some (ti (i2 + 1))]) dX11_fedNumber_28 rfl rfl rfl rfl ?_
    refine GO.goto (tgt := 4) dX11_fedNumber_31 (by decide) ?_
    have q424 : -2147483648 ≤ z421 ∧ z421 ≤ 2147483647 := r423
    have q425 : -2147483648 ≤ wor (wshl i1 8) X418 ∧ wor (wshl i1 8) X418 ≤ 2147483647 := wor_ir
    exact ih407 z421 (i2 + 1) V ⟨by omega, by omega, by omega, by omega, rfl⟩ (by show (2147483647 - (i2 + 1)).toNat < (2147483647 - i2).toNat; omega)

set_option maxHeartbeats 1000000 in
theorem t_X11_areDays {K : Kmap} {V : Vmap} {p0 : Int} {p1 : Int} (r_p0 : ir p0) (r_p1 : ir p1) : MC mX11_areDays K V [ti p0, ti p1] (IP K V (fun X => (X = 0 ∨ X = 1) ∧ (X ≠ 0 → p0 ≥ 0 ∧ p0 ≤ p1 ∧ p1 ≤ 3599) ∧ (X = 0 → (p0 < 0 ∨ p0 > p1 ∨ p1 > 3599)))) := by
  refine MC.start 0 (by decide +kernel) rfl rfl rfl (ls0 := [some (ti p0), some (ti p1)]) rfl ?_
  refine GO.iload_n dX11_areDays_0 rfl rfl ?_
  refine GO.if_lt (tgt := 20) dX11_areDays_1 (by decide) r_p0 (fun c1 => ?_) (fun c1 => ?_)
  ·
    refine GO.iconst dX11_areDays_20 ?_
    exact GO.retz rfl rfl dX11_areDays_21 (Or.inl rfl) ⟨rfl, rfl, _, rfl, (ir_c rfl), ⟨Or.inl rfl, fun h => absurd rfl h, fun h => by omega⟩⟩
  ·
    refine GO.iload_n dX11_areDays_4 rfl rfl ?_
    refine GO.iload_n dX11_areDays_5 rfl rfl ?_
    refine GO.icmp_gt (tgt := 20) dX11_areDays_6 (by decide) r_p0 r_p1 (fun c2 => ?_) (fun c2 => ?_)
    ·
      refine GO.iconst dX11_areDays_20 ?_
      exact GO.retz rfl rfl dX11_areDays_21 (Or.inl rfl) ⟨rfl, rfl, _, rfl, (ir_c rfl), ⟨Or.inl rfl, fun h => absurd rfl h, fun h => by omega⟩⟩
    ·
      refine GO.iload_n dX11_areDays_9 rfl rfl ?_
      refine GO.sipush dX11_areDays_10 rfl ?_
      refine GO.icmp_ge (tgt := 20) dX11_areDays_13 (by decide) r_p1 (ir_c rfl) (fun c3 => ?_) (fun c3 => ?_)
      ·
        refine GO.iconst dX11_areDays_20 ?_
        exact GO.retz rfl rfl dX11_areDays_21 (Or.inl rfl) ⟨rfl, rfl, _, rfl, (ir_c rfl), ⟨Or.inl rfl, fun h => absurd rfl h, fun h => by omega⟩⟩
      ·
        refine GO.iconst dX11_areDays_16 ?_
        refine GO.goto (tgt := 21) dX11_areDays_17 (by decide) ?_
        exact GO.retz rfl rfl dX11_areDays_21 (Or.inr rfl) ⟨rfl, rfl, _, rfl, (ir_c rfl), ⟨Or.inr rfl, fun h => by omega, fun h => absurd h (by decide)⟩⟩

set_option maxHeartbeats 1000000 in
theorem t_X5_init_t153 {K : Kmap} {V : Vmap} {x : Nat} {p0 n_p0 : Nat} {p1 : Int} {p2 : Nat} (h_x : K x = some (0, 16)) (h_p0 : K p0 = some (154, n_p0)) (r_p1 : ir p1) (h_p2 : K p2 = some (0, 8)) : MC mX5_init_t153 K V [.ref x, .ref p0, ti p1, .ref p2] (VX (fun K1 V1 => (K1 x = some (0, 4) ∧ vi V1 x 4 = 0 ∧ (SCW V1 x p0 p1 p2)) ∧ KE K K1 x)) := by
  refine MC.start 0 (by decide +kernel) rfl rfl rfl (ls0 := [some (.ref x), some (.ref p0), some (ti p1), some (.ref p2)]) rfl ?_
  refine GO.aload_n dX5_init_0 rfl rfl ?_
  refine GO.objInit dX5_init_1 gw_604 gw_27 gw_28 rfl rfl ?_
  refine GO.aload_n dX5_init_4 rfl rfl ?_
  refine GO.iconst dX5_init_5 ?_
  refine GO.putRW rfl (by decide +kernel) h_x fp_raw_fp_RX5_9 rfl rfl dX5_init_6 (fun V2 e1 => ?_)
  refine GO.aload_n dX5_init_9 rfl rfl ?_
  refine GO.iconst dX5_init_10 ?_
  refine GO.putRW rfl (by decide +kernel) h_x fp_raw_fp_RX5_15 rfl rfl dX5_init_11 (fun V4 e3 => ?_)
  refine GO.aload_n dX5_init_14 rfl rfl ?_
  refine GO.iconst dX5_init_15 ?_
  refine GO.putRW rfl (by decide +kernel) h_x fp_raw_fp_RX5_18 rfl rfl dX5_init_16 (fun V6 e5 => ?_)
  refine GO.aload_n dX5_init_19 rfl rfl ?_
  refine GO.iconst dX5_init_20 ?_
  refine GO.putRW rfl (by decide +kernel) h_x fp_raw_fp_RX5_21 rfl rfl dX5_init_21 (fun V8 e7 => ?_)
  refine GO.aload_n dX5_init_24 rfl rfl ?_
  refine GO.aload_n dX5_init_25 rfl rfl ?_
  refine GO.putRF rfl rfl (by decide +kernel) h_x fp_raw_fp_RX5_24 rfl rfl dX5_init_26 (fun V10 e9 => ?_)
  refine GO.aload_n dX5_init_29 rfl rfl ?_
  refine GO.iload_n dX5_init_30 rfl rfl ?_
  refine GO.putRF rfl rfl (by decide +kernel) h_x fp_raw_fp_RX5_28 rfl rfl dX5_init_31 (fun V12 e11 => ?_)
  refine GO.aload_n dX5_init_34 rfl rfl ?_
  refine GO.aload_n dX5_init_35 rfl rfl ?_
  refine GO.putRF rfl rfl (by decide +kernel) h_x fp_raw_fp_RX5_31 rfl rfl dX5_init_36 (fun V14 e13 => ?_)
  refine GO.promote (ci := 4) rfl h_x (fun j hj => ?_) (fun K15 e16 hE17 h18 => ?_)
  ·
    have hj : j < 7 := hj
    match j, hj with
    | 0, _ => exact ⟨_, (Eq.trans (uq_ne e13 (Or.inr (by decide))) (Eq.trans (uq_ne e11 (Or.inr (by decide))) (uq_at e9))), ⟨_, h_p0⟩⟩
    | 1, _ => exact okv_any (Eq.trans (uq_ne e13 (Or.inr (by decide))) (uq_at e11))
    | 2, _ => exact ⟨_, (uq_at e13), h_p2⟩
    | 3, _ => exact okv_any (Eq.trans (uq_ne e13 (Or.inr (by decide))) (Eq.trans (uq_ne e11 (Or.inr (by decide))) (Eq.trans (uq_ne e9 (Or.inr (by decide))) (Eq.trans (uq_ne e7 (Or.inr (by decide))) (Eq.trans (uq_ne e5 (Or.inr (by decide))) (Eq.trans (uq_ne e3 (Or.inr (by decide))) (uq_at e1)))))))
    | 4, _ => exact okv_any (Eq.trans (uq_ne e13 (Or.inr (by decide))) (Eq.trans (uq_ne e11 (Or.inr (by decide))) (Eq.trans (uq_ne e9 (Or.inr (by decide))) (Eq.trans (uq_ne e7 (Or.inr (by decide))) (Eq.trans (uq_ne e5 (Or.inr (by decide))) (uq_at e3))))))
    | 5, _ => exact okv_any (Eq.trans (uq_ne e13 (Or.inr (by decide))) (Eq.trans (uq_ne e11 (Or.inr (by decide))) (Eq.trans (uq_ne e9 (Or.inr (by decide))) (Eq.trans (uq_ne e7 (Or.inr (by decide))) (uq_at e5)))))
    | 6, _ => exact okv_any (Eq.trans (uq_ne e13 (Or.inr (by decide))) (Eq.trans (uq_ne e11 (Or.inr (by decide))) (Eq.trans (uq_ne e9 (Or.inr (by decide))) (uq_at e7))))
    | j + 7, hj => exact absurd hj (by omega)
  exact GO.retv rfl rfl dX5_init_39 ⟨rfl, ⟨h18, vi_at (Eq.trans (uq_ne e13 (Or.inr (by decide))) (Eq.trans (uq_ne e11 (Or.inr (by decide))) (Eq.trans (uq_ne e9 (Or.inr (by decide))) (Eq.trans (uq_ne e7 (Or.inr (by decide))) (Eq.trans (uq_ne e5 (Or.inr (by decide))) (uq_at e3)))))) (ir_c rfl), (⟨(Eq.trans (uq_ne e13 (Or.inr (by decide))) (Eq.trans (uq_ne e11 (Or.inr (by decide))) (uq_at e9))), vi_at (Eq.trans (uq_ne e13 (Or.inr (by decide))) (uq_at e11)) r_p1, (uq_at e13), vi_at (Eq.trans (uq_ne e13 (Or.inr (by decide))) (Eq.trans (uq_ne e11 (Or.inr (by decide))) (Eq.trans (uq_ne e9 (Or.inr (by decide))) (Eq.trans (uq_ne e7 (Or.inr (by decide))) (Eq.trans (uq_ne e5 (Or.inr (by decide))) (Eq.trans (uq_ne e3 (Or.inr (by decide))) (uq_at e1))))))) (ir_c rfl), vi_at (Eq.trans (uq_ne e13 (Or.inr (by decide))) (Eq.trans (uq_ne e11 (Or.inr (by decide))) (Eq.trans (uq_ne e9 (Or.inr (by decide))) (Eq.trans (uq_ne e7 (Or.inr (by decide))) (Eq.trans (uq_ne e5 (Or.inr (by decide))) (uq_at e3)))))) (ir_c rfl), vi_at (Eq.trans (uq_ne e13 (Or.inr (by decide))) (Eq.trans (uq_ne e11 (Or.inr (by decide))) (Eq.trans (uq_ne e9 (Or.inr (by decide))) (Eq.trans (uq_ne e7 (Or.inr (by decide))) (uq_at e5))))) (ir_c rfl)⟩)⟩, KE.promote KE.rf e16⟩

set_option maxHeartbeats 1000000 in
theorem t_X11_text {K : Kmap} {V : Vmap} {x : Nat} {p0 : Int} {p1 : Int} {p2 : Int} (h_x : K x = some (0, 10)) (r_p0 : ir p0) (r_p1 : ir p1) (r_p2 : ir p2) : MC mX11_text K V [.ref x, ti p0, ti p1, ti p2] (IX (fun X K1 V1 => (X ≥ (-2147483648) ∧ X ≤ 2147483647) ∧ (CTX K K1 V V1 x p0 p1 p2 X) ∧ (FGT V V1 x))) := by
  refine MC.start 2 (by decide +kernel) rfl rfl rfl (ls0 := [some (.ref x), some (ti p0), some (ti p1), some (ti p2), none, none]) rfl ?_
  refine GO.useWT (fun hW_0 => ?_)
  refine GO.iload_n dX11_text_0 rfl rfl ?_
  refine GO.iload_n dX11_text_1 rfl rfl ?_
  refine GO.callS (N := mX11_areDays) dX11_text_2 gS_RX11_213 (t_X11_areDays r_p0 r_p1) rfl [] rfl rfl (Nat.le_of_ble_eq_true rfl) rfl (k_ip fun X1 r2 h3 => ?_)
  refine GO.if_eq (tgt := 42) dX11_text_5 (by decide) r2 (fun c4 => ?_) (fun c4 => ?_)
  ·
    have q5 := h3.2.2 (by omega)
    refine GO.iconst dX11_text_42 ?_
    exact GO.reti rfl rfl dX11_text_43 ⟨_, rfl, (ir_c rfl), ⟨(by first | exact trivial | omega), (by first | exact CTX.no (by unfold TXC txN lwO tpN tpO; omega) rfl), (by first | exact FGT.no)⟩⟩
  ·
    have q6 := h3.2.1 (by omega)
    refine GO.iload_n dX11_text_8 rfl rfl ?_
    refine GO.iconst dX11_text_9 ?_
    refine GO.sipush dX11_text_10 rfl ?_
    refine GO.callS (N := mX11_between) dX11_text_13 gS_RX11_112 (t_X11_between r_p2 (ir_c rfl) (ir_c rfl)) rfl [] rfl rfl (Nat.le_of_ble_eq_true rfl) rfl (k_ip fun X7 r8 h9 => ?_)
    refine GO.if_eq (tgt := 42) dX11_text_16 (by decide) r8 (fun c10 => ?_) (fun c10 => ?_)
    ·
      have q11 := h9.2.2 (by omega)
      refine GO.iconst dX11_text_42 ?_
      exact GO.reti rfl rfl dX11_text_43 ⟨_, rfl, (ir_c rfl), ⟨(by first | exact trivial | omega), (by first | exact CTX.no (by unfold TXC txN lwO tpN tpO; omega) rfl), (by first | exact FGT.no)⟩⟩
    ·
      have q12 := h9.2.1 (by omega)
      refine GO.aload_n dX11_text_19 rfl rfl ?_
      refine GO.getR h_x fl_RX11_19 rfl rfl dX11_text_20 (fun hv14 h13 => ?_)
      refine GO.getI h13 fl_RX11_216 rfl rfl dX11_text_23 (fun l15 u16 => ?_)
      refine GO.bipush dX11_text_26 rfl ?_
      refine GO.icmp_ge (tgt := 42) dX11_text_28 (by decide) vi_ir (ir_c rfl) (fun c17 => ?_) (fun c17 => ?_)
      ·
        refine GO.iconst dX11_text_42 ?_
        exact GO.reti rfl rfl dX11_text_43 ⟨_, rfl, (ir_c rfl), ⟨(by first | exact trivial | omega), (by first | exact CTX.no (by unfold TXC txN lwO tpN tpO; omega) rfl), (by first | exact FGT.no)⟩⟩
      ·
        refine GO.iload_n dX11_text_31 rfl rfl ?_
        refine GO.aload_n dX11_text_32 rfl rfl ?_
        refine GO.getR h_x fl_RX11_91 rfl rfl dX11_text_33 (fun hv19 h18 => ?_)
        refine GO.getI h18 fl_RX11_199_k31 rfl rfl dX11_text_36 (fun l20 u21 => ?_)
        refine GO.icmp_le (tgt := 44) dX11_text_39 (by decide) r_p2 vi_ir (fun c22 => ?_) (fun c22 => ?_)
        ·
          have htc : TXC V x p0 p1 p2 := by unfold TXC txN lwO tpN tpO; omega
          refine GO.new (ci := 20) (RX9, TX9, 5) tyX9 rfl rfl lays_8 tyX9_ok gw_570 gw_571 gw_11 rfl rfl dX11_text_44 (fun o23 K24 V30 hq25 hK26 hE27 h28 _ hV29 => ?_)
          have h31 := hE27.obj (by decide) h_x
          refine GO.dup dX11_text_47 rfl ?_
          refine GO.iload_n dX11_text_48 rfl rfl ?_
          refine GO.iload_n dX11_text_49 rfl rfl ?_
          refine GO.iload_n dX11_text_50 rfl rfl ?_
          refine GO.bipush dX11_text_51 rfl ?_
          have q32 : -2147483648 ≤ p2 ∧ p2 ≤ 2147483647 := r_p2
          refine GO.callI (N := mX9_init) dX11_text_53 gI_RX11_221 rfl (t_X9_init h28 r_p0 r_p1 r_p2 (ir_c rfl) (by omega) (by omega) (by omega) (by omega)) rfl [.ref o23] rfl rfl (Nat.le_of_ble_eq_true rfl) rfl (k_vx fun K35 V37 h36 hE34 hF33 => ?_)
          have h38 := hE34.obj (by decide) h31
          have h39 := h36.1.1
          have ir0_53 := h36.1.2
          refine GO.astore (ls1 := [some (.ref x), some (ti p0), some (ti p1), some (ti p2), some (.ref o23), none]) dX11_text_56 rfl rfl ?_
          refine GO.new (ci := 16) (RX5, TX5, 7) tyX5 rfl rfl lays_4 tyX5_ok gw_599 gw_600 gw_12 rfl rfl dX11_text_58 (fun o40 K41 V47 hq42 hK43 hE44 h45 _ hV46 => ?_)
          have h48 := hE44.obj (by decide) h38
          have h49 := hE44.obj (by decide) h39
          refine GO.dup dX11_text_61 rfl ?_
          refine GO.aload_n dX11_text_62 rfl rfl ?_
          refine GO.getR h48 fl_RX11_91 rfl rfl dX11_text_63 (fun hv51 h50 => ?_)
          refine GO.getA (n := 400) h50 fl_RX11_226_k31 rfl rfl rfl rfl dX11_text_66 (fun hv53 h52 => ?_)
          refine GO.iload_n dX11_text_69 rfl rfl ?_
          refine GO.aload dX11_text_70 rfl ?_
          refine GO.callI (N := mX5_init_t153) dX11_text_72 gI_RX11_229 rfl (t_X5_init_t153 h45 h52 r_p2 h49) rfl [.ref o40] rfl rfl (Nat.le_of_ble_eq_true rfl) rfl (k_vx fun K56 V58 h57 hE55 hF54 => ?_)
          have h59 := hE55.obj (by decide) h48
          have h60 := hE55.obj (by decide) h49
          have h61 := h57.1.1
          have ir0_72 := h57.1.2.2
          have q62 : vi V58 o40 4 = 0 := h57.1.2.1
          refine GO.astore (ls1 := [some (.ref x), some (ti p0), some (ti p1), some (ti p2), some (.ref o23), some (.ref o40)]) dX11_text_75 rfl rfl ?_
          have hrdy := RDY.mk hq25 hE27 hV29 ir0_53 h36.1.1 hE34 hF33 hq42 hE44 hV46 h57.1.1 hE55 hF54 (by decide +kernel) (by decide +kernel) (by decide +kernel) (by decide +kernel) (by decide +kernel)
          have hsrc := SRC.mk h_x hW_0 hq25 hE27 hV29 hE34 hF33 hq42 hV46 (by decide +kernel)
          refine GO.useWT (fun hW1 => ?_)
          refine GO.aload dX11_text_77 rfl ?_
          refine GO.callV (ci := 4) (N := mX5_writeText) dX11_text_79 (RX5, TX5, 7) rfl gV_RX11_232 h61 (t_X5_writeText h61 (by omega)) rfl [] rfl rfl (Nat.le_of_ble_eq_true rfl) rfl (k_vs fun V65 h64 hF63 => ?_)
          have raw_writeText := h64.2
          have rw79 := h64.2
          refine GO.useWT (fun hW2 => ?_)
          have hlk := ((((SAM.nw (P := LWK) ext.rf hq25 hV29).tr (SAM.frl hE27 hF33 hE34 (by decide +kernel))).tr (SAM.nw (hE27.tr hE34) hq42 hV46)).tr (SAM.frl ((hE27.tr hE34).tr hE44) hF54 hE55 (by decide +kernel))).tr (SAM.frl (((hE27.tr hE34).tr hE44).tr hE55) hF63 ext.rf (by decide +kernel))
          refine GO.aload_n dX11_text_82 rfl rfl ?_
          refine GO.getR h59 fl_RX11_91 rfl rfl dX11_text_83 (fun hv67 h66 => ?_)
          refine GO.iconst dX11_text_86 ?_
          refine GO.putI h66 fp_RX11_199_k31 rfl (by decide +kernel) (ir_c rfl) (by decide) (by decide) dX11_text_87 (fun V69 e68 => ?_)
          refine GO.aload dX11_text_90 rfl ?_
          refine GO.getI h61 fl_RX11_235 rfl rfl dX11_text_92 (fun _ _ => ?_)
          refine GO.if_eq (tgt := 106) dX11_text_95 (by decide) vi_ir (fun c70 => ?_) (fun c70 => ?_)
          ·
            refine GO.aload_n dX11_text_106 rfl rfl ?_
            refine GO.getR h59 fl_RX11_19 rfl rfl dX11_text_107 (fun hv72 h71 => ?_)
            refine GO.aload dX11_text_110 rfl ?_
            refine GO.callV (ci := 1) (N := mX1_addText) dX11_text_112 (RX1, TX1, 13) rfl gV_RX11_242 h71 (t_X1_addText h71 h60) rfl [] rfl rfl (Nat.le_of_ble_eq_true rfl) rfl (k_is fun X73 V77 r74 h75 hF76 => ?_)
            have raw_addText := h75.2.1
            have rq0_112 := h75.2.2
            have rw112 := h75.2.1
            exact GO.reti rfl rfl dX11_text_115 ⟨_, rfl, r74, ⟨(by first | exact trivial | omega), (by first | exact CTX.no (by unfold TXC txN lwO tpN tpO; omega) rfl | exact CTX.ok h_x hW_0 htc hrdy ir0_72 hsrc hW1 hW2 rw79 hF63 (by decide +kernel) e68 (by omega) rw112 hF76 (by decide +kernel) (by decide +kernel)), (by first | exact FGT.no | exact FGT.er hlk h_x hW_0 e68 | exact FGT.ok hlk h_x hW_0 e68 rq0_112 (by omega))⟩⟩
          ·
            refine GO.aload dX11_text_98 rfl ?_
            refine GO.callV (ci := 4) (N := mX5_faultAnswer) dX11_text_100 (RX5, TX5, 7) rfl gV_RX11_238 h61 (t_X5_faultAnswer h61) rfl [] rfl rfl (Nat.le_of_ble_eq_true rfl) rfl (k_ip fun X78 r79 h80 => ?_)
            have raw_faultAnswer := h80.2
            have rw100 := h80.2
            refine GO.goto (tgt := 115) dX11_text_103 (by decide) ?_
            exact GO.reti rfl rfl dX11_text_115 ⟨_, rfl, r79, ⟨(by first | exact trivial | omega), (by first | exact CTX.no (by unfold TXC txN lwO tpN tpO; omega) rfl | exact CTX.er h_x hW_0 htc hrdy ir0_72 hsrc hW1 hW2 rw79 hF63 (by decide +kernel) e68 (by omega) rw100), (by first | exact FGT.no | exact FGT.er hlk h_x hW_0 e68)⟩⟩
        ·
          refine GO.iconst dX11_text_42 ?_
          exact GO.reti rfl rfl dX11_text_43 ⟨_, rfl, (ir_c rfl), ⟨(by first | exact trivial | omega), (by first | exact CTX.no (by unfold TXC txN lwO tpN tpO; omega) rfl), (by first | exact FGT.no)⟩⟩

set_option maxHeartbeats 1000000 in
theorem t_X4_put_t123 {K : Kmap} {V : Vmap} {p0 n_p0 : Nat} {p1 : Int} {p2 : Int} (h_p0 : K p0 = some (124, n_p0)) (r_p1 : ir p1) (r_p2 : ir p2) (q_0 : p2 ≥ (-1)) (q_1 : p2 ≤ 3599) : MC mX4_put_t123 K V [.ref p0, ti p1, ti p2] (VS K (fun V1 => (True) ∧ (V1 = rpv V p0 n_p0 p1 p2))) := by
  refine MC.start 0 (by decide +kernel) rfl rfl rfl (ls0 := [some (.ref p0), some (ti p1), some (ti p2)]) rfl ?_
  refine GO.aload_n dX4_put_0 rfl rfl ?_
  refine GO.ifnull dX4_put_1 ?_
  refine GO.iload_n dX4_put_4 rfl rfl ?_
  refine GO.if_lt (tgt := 18) dX4_put_5 (by decide) r_p1 (fun c1 => ?_) (fun c1 => ?_)
  ·
    exact GO.retv rfl rfl dX4_put_18 ⟨rfl, rfl, ⟨trivial, (by first | exact rpv_in (by assumption) (by omega) (by omega) | exact rpv_out (by omega))⟩⟩
  ·
    refine GO.iload_n dX4_put_8 rfl rfl ?_
    refine GO.aload_n dX4_put_9 rfl rfl ?_
    refine GO.alen h_p0 dX4_put_10 (fun h2 => ?_)
    refine GO.icmp_ge (tgt := 18) dX4_put_11 (by decide) r_p1 ⟨by omega, by omega⟩ (fun c3 => ?_) (fun c3 => ?_)
    ·
      exact GO.retv rfl rfl dX4_put_18 ⟨rfl, rfl, ⟨trivial, (by first | exact rpv_in (by assumption) (by omega) (by omega) | exact rpv_out (by omega))⟩⟩
    ·
      refine GO.aload_n dX4_put_14 rfl rfl ?_
      refine GO.iload_n dX4_put_15 rfl rfl ?_
      refine GO.iload_n dX4_put_16 rfl rfl ?_
      have q4 : -2147483648 ≤ p1 ∧ p1 ≤ 2147483647 := r_p1
      have q6 : -2147483648 ≤ p2 ∧ p2 ≤ 2147483647 := r_p2
      refine GO.iast (t := 123) rfl rfl (by decide +kernel) h_p0 r_p1 (by omega) (by omega) r_p2 (by omega) (by omega) dX4_put_17 (fun V7 e5 => ?_)
      exact GO.retv rfl rfl dX4_put_18 ⟨rfl, rfl, ⟨trivial, (by first | exact rpv_in (by assumption) (by omega) (by omega) | exact rpv_out (by omega))⟩⟩

set_option maxHeartbeats 1000000 in
theorem t_X11_yes {K : Kmap} {V : Vmap} {x : Nat} {p0 : Int} {p1 : Int} (h_x : K x = some (0, 10)) (r_p0 : ir p0) (r_p1 : ir p1) : MC mX11_yes K V [.ref x, ti p0, ti p1] (IS K (fun X V1 => (X = 0 ∨ X = 1) ∧ (X ≠ 0 → True) ∧ (X = 0 → True) ∧ (YSC V V1 x p0 p1 X))) := by
  refine MC.start 1 (by decide +kernel) rfl rfl rfl (ls0 := [some (.ref x), some (ti p0), some (ti p1), none]) rfl ?_
  refine GO.useWT (fun hW_0 => ?_)
  have hl20 := (hW_0.int (show K (vq V x 1) = some (0, 1) from (hW_0.ref h_x (j := 1) (Nat.le_of_ble_eq_true rfl) rfl).2) (j := 1) (Nat.le_of_ble_eq_true rfl) rfl).2
  refine GO.aload_n dX11_yes_0 rfl rfl ?_
  refine GO.iload_n dX11_yes_1 rfl rfl ?_
  refine GO.callV (ci := 10) (N := mX11_partyOf) dX11_yes_2 (RX11, TX11, 20) rfl gV_RX11_151 h_x (t_X11_partyOf h_x r_p0) rfl [] rfl rfl (Nat.le_of_ble_eq_true rfl) rfl (k_rp (fun h3 => ?_) (fun o1 h2 h3 => ?_))
  ·
    have rwn2 := h3.2
    have hn4 : PN V x → p0 < 0 ∨ vi V x 4 ≤ p0 := h3.2
    refine GO.astore_nN (ls1 := [some (.ref x), some (ti p0), some (ti p1), some (.null)]) dX11_yes_5 rfl rfl rfl ?_
    refine GO.aload_nN dX11_yes_6 rfl rfl ?_
    refine GO.ifnullN (tgt := 37) dX11_yes_7 (by decide) ?_
    refine GO.iconst dX11_yes_37 ?_
    exact GO.retz rfl rfl dX11_yes_38 (Or.inl rfl) ⟨rfl, _, rfl, (ir_c rfl), ⟨Or.inl rfl, fun _ => trivial, fun _ => trivial, (by first | exact YSC.np rwn2 | exact YSC.i0 (by omega))⟩⟩
  ·
    have hp5 : p0 ≥ 0 ∧ p0 < vi V x 4 := h3.1
    have rwp2 := h3.2
    have hq6 : o1 = vq V (vq V x 3) (p0).toNat := h3.2
    refine GO.astore_n (ls1 := [some (.ref x), some (ti p0), some (ti p1), some (.ref o1)]) dX11_yes_5 rfl rfl rfl ?_
    refine GO.aload_n dX11_yes_6 rfl rfl ?_
    refine GO.ifnull dX11_yes_7 ?_
    refine GO.iload_n dX11_yes_10 rfl rfl ?_
    refine GO.if_eq (tgt := 37) dX11_yes_11 (by decide) r_p1 (fun c7 => ?_) (fun c7 => ?_)
    ·
      refine GO.iconst dX11_yes_37 ?_
      exact GO.retz rfl rfl dX11_yes_38 (Or.inl rfl) ⟨rfl, _, rfl, (ir_c rfl), ⟨Or.inl rfl, fun _ => trivial, fun _ => trivial, (by first | exact YSC.i0 (by omega))⟩⟩
    ·
      refine GO.aload_n dX11_yes_14 rfl rfl ?_
      refine GO.getR h_x fl_RX11_19 rfl rfl dX11_yes_15 (fun hv9 h8 => ?_)
      refine GO.iload_n dX11_yes_18 rfl rfl ?_
      refine GO.callV (ci := 1) (N := mX1_textOf) dX11_yes_19 (RX1, TX1, 13) rfl gV_RX11_246 h8 (t_X1_textOf h8 r_p1) rfl [] rfl rfl (Nat.le_of_ble_eq_true rfl) rfl (k_rp (fun h12 => ?_) (fun o10 h11 h12 => ?_))
      ·
        have rwn19 := h12.2
        have hn13 : TNL V (vq V x 1) → p1 < 0 ∨ vi V (vq V x 1) 1 ≤ p1 := h12.2
        refine GO.ifnullN (tgt := 37) dX11_yes_22 (by decide) ?_
        refine GO.iconst dX11_yes_37 ?_
        exact GO.retz rfl rfl dX11_yes_38 (Or.inl rfl) ⟨rfl, _, rfl, (ir_c rfl), ⟨Or.inl rfl, fun _ => trivial, fun _ => trivial, (by first | exact YSC.i0 (by omega) | exact YSC.nt rwn19)⟩⟩
      ·
        have hp14 : p1 ≥ 0 ∧ p1 < vi V (vq V x 1) 1 := h12.1
        have rwp19 := h12.2
        have hq15 : o10 = vq V (vq V (vq V x 1) 0) (p1).toNat := h12.2
        refine GO.ifnull dX11_yes_22 ?_
        refine GO.aload_n dX11_yes_25 rfl rfl ?_
        refine GO.getA (n := 20) h2 fl_RX11_250 rfl rfl rfl rfl dX11_yes_26 (fun hv17 h16 => ?_)
        refine GO.iload_n dX11_yes_29 rfl rfl ?_
        refine GO.callS (N := mX4_get) dX11_yes_30 gS_RX11_253 (t_X4_get rfl h16 r_p1) rfl [] rfl rfl (Nat.le_of_ble_eq_true rfl) rfl (k_ip fun X18 r19 h20 => ?_)
        have raw_get := h20.2
        have rw30 := h20.2
        refine GO.iconst dX11_yes_33 ?_
        refine GO.icmp_eq (tgt := 39) dX11_yes_34 (by decide) r19 (ir_c rfl) (fun c21 => ?_) (fun c21 => ?_)
        ·
          refine GO.aload_n dX11_yes_39 rfl rfl ?_
          refine GO.getRaw h2 fl_RX11_250 hv17 dX11_yes_40 ?_
          refine GO.iload_n dX11_yes_43 rfl rfl ?_
          refine GO.aload_n dX11_yes_44 rfl rfl ?_
          refine GO.getR h_x fl_RX11_12 rfl rfl dX11_yes_45 (fun hv25 h24 => ?_)
          refine GO.getI h24 fl_RX11_145 rfl rfl dX11_yes_48 (fun l26 u27 => ?_)
          refine GO.callS (N := mX4_put_t123) dX11_yes_51 gS_RX11_108 (t_X4_put_t123 h16 r_p1 vi_ir (by omega) (by omega)) rfl [] rfl rfl (Nat.le_of_ble_eq_true rfl) rfl (k_vs fun V30 h29 hF28 => ?_)
          have raw_put := h29.2
          have rw51 := h29.2
          refine GO.aload_n dX11_yes_54 rfl rfl ?_
          refine GO.getRaw h_x fl_RX11_19 (Eq.trans (hF28 _ _ _ h_x h_x (by decide +kernel)) hv9) dX11_yes_55 ?_
          refine GO.callV (ci := 1) (N := mX1_forget) dX11_yes_58 (RX1, TX1, 13) rfl gV_RX11_256 h8 (t_X1_forget h8) rfl [] rfl rfl (Nat.le_of_ble_eq_true rfl) rfl (k_vs fun V35 h34 hF33 => ?_)
          have raw_forget := h34.2
          have rw58 := h34.2
          refine GO.iconst dX11_yes_61 ?_
          exact GO.retz rfl rfl dX11_yes_62 (Or.inr rfl) ⟨rfl, _, rfl, (ir_c rfl), ⟨Or.inr rfl, fun _ => trivial, fun _ => trivial, (by first | exact YSC.i0 (by omega) | exact YSC.had rwp2 rw30 (by omega) (by omega) (by omega) (by omega) | exact YSC.ok rwp2 rw30 (by omega) (by omega) (by omega) (by omega) (by omega) rw51 rw58)⟩⟩
        ·
          refine GO.iconst dX11_yes_37 ?_
          exact GO.retz rfl rfl dX11_yes_38 (Or.inl rfl) ⟨rfl, _, rfl, (ir_c rfl), ⟨Or.inl rfl, fun _ => trivial, fun _ => trivial, (by first | exact YSC.i0 (by omega) | exact YSC.had rwp2 rw30 (by omega) (by omega) (by omega) (by omega))⟩⟩
