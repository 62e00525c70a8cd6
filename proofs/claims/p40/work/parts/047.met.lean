def mX11_reserve : MRec := (RX11, cX11_reserve, 4, (some .int), yX11_reserve, 3, 68, 3, 2420, 351185983419819568193205007392409614908965198905718634188993778432741311211320088847930050516744247504307625051445528625152)
def mX11_site : MRec := (RX11, cX11_site, 3, (some .int), yX11_site, 3, 68, 3, 2420, 351185983419819568193205007392409614908965198905718634188993778432741311211320088847930050516744247504307625051445528625152)
def mX11_feedNumber : MRec := (RX11, cX11_feedNumber, 3, (none : Option Jvm.ClassFile.FieldType), yX11_feedNumber, 2, 51, 0, 0, 3794275180128377091639574036764685364535950857523710002445248344226201089335099392)
def mX11_feed : MRec := (RX11, cX11_feed, 6, (some .int), yX11_feed, 3, 73, 0, 0, 3794275180128377091639574036764685364535950857523710002445248344226201089335099392)
def mX11_fedNumber : MRec := (RX11, cX11_fedNumber, 4, (some .int), yX11_fedNumber, 1, 24, 0, 0, 0)
def mX11_areDays : MRec := (RX11, cX11_areDays, 2, (some .boolean), yX11_areDays, 0, 0, 0, 0, 0)
def mX11_text : MRec := (RX11, cX11_text, 6, (some .int), yX11_text, 36, 856, 5, 2616, 1032899951234763435862367668801204749732857445852982398044815113143707572945422217222241734782683493698981520938322938052608)
def mX11_yes : MRec := (RX11, cX11_yes, 4, (some .boolean), yX11_yes, 1, 22, 0, 0, 3794275180128377091639574036764685364535950857523710002444946112771297432042471424)
def mX11_reading : MRec := (RX11, cX11_reading, 8, (some .int), yX11_reading, 35, 834, 5, 2616, 1032899951234763435862367668801204749732857445852982398044815113143707572945422217222241734782683493698981520938322936987648)
def mX11_isDay : MRec := (RX11, cX11_isDay, 1, (some .boolean), yX11_isDay, 1, 22, 0, 0, 0)
def mJ6_bitCount_0f7a4 : MRec := (RJ6, cJ6_bitCount_0f7a4, 1, (some .int), yJ6_bitCount_0f7a4, 0, 0, 0, 0, 0)
def mX11_counts : MRec := (RX11, cX11_counts, 5, (some .int), yX11_counts, 5, 127, 0, 0, 3794275180128377091639574036764685364535950857523710002444946112771297432042995712)
def mX11_number : MRec := (RX11, cX11_number, 6, (some .int), yX11_number, 5, 127, 0, 0, 3794275180128377091639574036764685364535950857523710002444946112771297432042995712)
set_option maxHeartbeats 1000000 in
theorem t_X11_reserve {K : Kmap} {V : Vmap} {x : Nat} {p0 : Int} {p1 : Int} {p2 : Int} (h_x : K x = some (0, 10)) (r_p0 : ir p0) (r_p1 : ir p1) (r_p2 : ir p2) : MC mX11_reserve K V [.ref x, ti p0, ti p1, ti p2] (IX (fun X _ _ => True)) := by
  refine MC.start 0 (by decide +kernel) rfl rfl rfl (ls0 := [some (.ref x), some (ti p0), some (ti p1), some (ti p2)]) rfl ?_
  refine GO.aload_n dX11_reserve_0 rfl rfl ?_
  refine GO.getR h_x fl_RX11_12 rfl rfl dX11_reserve_1 (fun hv2 h1 => ?_)
  refine GO.iload_n dX11_reserve_4 rfl rfl ?_
  refine GO.iload_n dX11_reserve_5 rfl rfl ?_
  refine GO.callV (ci := 0) (N := mX0_isRectangle) dX11_reserve_6 (RX0, TX0, 13) rfl gV_RX11_155 h1 (t_X0_isRectangle h1 r_p0 r_p1) rfl [] rfl rfl (Nat.le_of_ble_eq_true rfl) rfl (k_ip fun X3 r4 h5 => ?_)
  refine GO.if_eq (tgt := 22) dX11_reserve_9 (by decide) r4 (fun c6 => ?_) (fun c6 => ?_)
  ·
    refine GO.iconst dX11_reserve_22 ?_
    exact GO.reti rfl rfl dX11_reserve_23 ⟨_, rfl, (ir_c rfl), trivial⟩
  ·
    refine GO.iload_n dX11_reserve_12 rfl rfl ?_
    refine GO.iconst dX11_reserve_13 ?_
    refine GO.bipush dX11_reserve_14 rfl ?_
    refine GO.callS (N := mX11_between) dX11_reserve_16 gS_RX11_112 (t_X11_between r_p2 (ir_c rfl) (ir_c rfl)) rfl [] rfl rfl (Nat.le_of_ble_eq_true rfl) rfl (k_ip fun X7 r8 h9 => ?_)
    refine GO.if_ne (tgt := 24) dX11_reserve_19 (by decide) r8 (fun c10 => ?_) (fun c10 => ?_)
    ·
      have q11 := h9.2.1 (by omega)
      refine GO.aload_n dX11_reserve_24 rfl rfl ?_
      refine GO.new (ci := 15) (RX3, TX3, 16) tyX3 rfl rfl lays_3 tyX3_ok gw_221 gw_425 gw_10 rfl rfl dX11_reserve_25 (fun o12 K13 V19 hq14 hK15 hE16 h17 _ hV18 => ?_)
      have h20 := hE16.obj (by decide) h_x
      refine GO.dup dX11_reserve_28 rfl ?_
      refine GO.iconst dX11_reserve_29 ?_
      refine GO.iconst dX11_reserve_30 ?_
      refine GO.iload_n dX11_reserve_31 rfl rfl ?_
      refine GO.iload_n dX11_reserve_32 rfl rfl ?_
      refine GO.iload_n dX11_reserve_33 rfl rfl ?_
      refine GO.callI (N := mX3_init) dX11_reserve_34 gI_RX11_162 rfl (t_X3_init h17 (ir_c rfl) (ir_c rfl) r_p0 r_p1 r_p2) rfl [.ref o12, .ref x] rfl rfl (Nat.le_of_ble_eq_true rfl) rfl (k_vx fun K23 V25 h24 hE22 hF21 => ?_)
      have h26 := hE22.obj (by decide) h20
      have h27 := h24.1
      refine GO.callV (ci := 10) (N := mX11_settle) dX11_reserve_37 (RX11, TX11, 20) rfl gV_RX11_165 h26 (t_X11_settle h26 h27) rfl [] rfl rfl (Nat.le_of_ble_eq_true rfl) rfl (k_is fun X28 V32 r29 h30 hF31 => ?_)
      have q33 : -2147483648 ≤ X28 ∧ X28 ≤ 2147483647 := r29
      exact GO.reti rfl rfl dX11_reserve_40 ⟨_, rfl, r29, trivial⟩
    ·
      have q34 := h9.2.2 (by omega)
      refine GO.iconst dX11_reserve_22 ?_
      exact GO.reti rfl rfl dX11_reserve_23 ⟨_, rfl, (ir_c rfl), trivial⟩

set_option maxHeartbeats 1000000 in
theorem t_X11_site {K : Kmap} {V : Vmap} {x : Nat} {p0 : Int} {p1 : Int} (h_x : K x = some (0, 10)) (r_p0 : ir p0) (r_p1 : ir p1) (z_p1 : p1 = 0 ∨ p1 = 1) : MC mX11_site K V [.ref x, ti p0, ti p1] (IX (fun X _ _ => True)) := by
  refine MC.start 0 (by decide +kernel) rfl rfl rfl (ls0 := [some (.ref x), some (ti p0), some (ti p1)]) rfl ?_
  refine GO.aload_n dX11_site_0 rfl rfl ?_
  refine GO.getR h_x fl_RX11_12 rfl rfl dX11_site_1 (fun hv2 h1 => ?_)
  refine GO.iload_n dX11_site_4 rfl rfl ?_
  refine GO.callV (ci := 0) (N := mX0_isCell) dX11_site_5 (RX0, TX0, 13) rfl gV_RX11_119 h1 (t_X0_isCell h1 r_p0) rfl [] rfl rfl (Nat.le_of_ble_eq_true rfl) rfl (k_ip fun X3 r4 h5 => ?_)
  refine GO.if_ne (tgt := 13) dX11_site_8 (by decide) r4 (fun c6 => ?_) (fun c6 => ?_)
  ·
    refine GO.aload_n dX11_site_13 rfl rfl ?_
    refine GO.new (ci := 15) (RX3, TX3, 16) tyX3 rfl rfl lays_3 tyX3_ok gw_221 gw_425 gw_10 rfl rfl dX11_site_14 (fun o7 K8 V14 hq9 hK10 hE11 h12 _ hV13 => ?_)
    have h15 := hE11.obj (by decide) h_x
    refine GO.dup dX11_site_17 rfl ?_
    refine GO.iload_n dX11_site_18 rfl rfl ?_
    refine GO.if_eq (tgt := 26) dX11_site_19 (by decide) r_p1 (fun c16 => ?_) (fun c16 => ?_)
    ·
      refine GO.iconst dX11_site_26 ?_
      refine GO.iconst dX11_site_27 ?_
      refine GO.iload_n dX11_site_28 rfl rfl ?_
      refine GO.iconst dX11_site_29 ?_
      refine GO.iconst dX11_site_30 ?_
      refine GO.callI (N := mX3_init) dX11_site_31 gI_RX11_162 rfl (t_X3_init h12 (ir_c rfl) (ir_c rfl) r_p0 (ir_c rfl) (ir_c rfl)) rfl [.ref o7, .ref x] rfl rfl (Nat.le_of_ble_eq_true rfl) rfl (k_vx fun K19 V21 h20 hE18 hF17 => ?_)
      have h22 := hE18.obj (by decide) h15
      have h23 := h20.1
      refine GO.callV (ci := 10) (N := mX11_settle) dX11_site_34 (RX11, TX11, 20) rfl gV_RX11_165 h22 (t_X11_settle h22 h23) rfl [] rfl rfl (Nat.le_of_ble_eq_true rfl) rfl (k_is fun X24 V28 r25 h26 hF27 => ?_)
      have q29 : -2147483648 ≤ X24 ∧ X24 ≤ 2147483647 := r25
      exact GO.reti rfl rfl dX11_site_37 ⟨_, rfl, r25, trivial⟩
    ·
      refine GO.iconst dX11_site_22 ?_
      refine GO.goto (tgt := 27) dX11_site_23 (by decide) ?_
      refine GO.iconst dX11_site_27 ?_
      refine GO.iload_n dX11_site_28 rfl rfl ?_
      refine GO.iconst dX11_site_29 ?_
      refine GO.iconst dX11_site_30 ?_
      refine GO.callI (N := mX3_init) dX11_site_31 gI_RX11_162 rfl (t_X3_init h12 (ir_c rfl) (ir_c rfl) r_p0 (ir_c rfl) (ir_c rfl)) rfl [.ref o7, .ref x] rfl rfl (Nat.le_of_ble_eq_true rfl) rfl (k_vx fun K32 V34 h33 hE31 hF30 => ?_)
      have h35 := hE31.obj (by decide) h15
      have h36 := h33.1
      refine GO.callV (ci := 10) (N := mX11_settle) dX11_site_34 (RX11, TX11, 20) rfl gV_RX11_165 h35 (t_X11_settle h35 h36) rfl [] rfl rfl (Nat.le_of_ble_eq_true rfl) rfl (k_is fun X37 V41 r38 h39 hF40 => ?_)
      have q42 : -2147483648 ≤ X37 ∧ X37 ≤ 2147483647 := r38
      exact GO.reti rfl rfl dX11_site_37 ⟨_, rfl, r38, trivial⟩
  ·
    refine GO.iconst dX11_site_11 ?_
    exact GO.reti rfl rfl dX11_site_12 ⟨_, rfl, (ir_c rfl), trivial⟩

set_option maxHeartbeats 1000000 in
theorem t_X11_feedNumber {K : Kmap} {V : Vmap} {x : Nat} {p0 : Int} (h_x : K x = some (0, 10)) (r_p0 : ir p0) : MC mX11_feedNumber K V [.ref x, ti p0] (VS K (fun V1 => (True))) := by
  refine MC.start 1 (by decide +kernel) rfl rfl rfl (ls0 := [some (.ref x), some (ti p0), none]) rfl ?_
  refine GO.bipush dX11_feedNumber_0 rfl ?_
  refine GO.istore_n (ls1 := [some (.ref x), some (ti p0), some (ti 24)]) dX11_feedNumber_2 rfl rfl rfl ?_
  refine GO.loop1 (fun i1 W => (-8) ≤ i1 ∧ i1 ≤ 24 ∧ True) (fun i1 => [some (.ref x), some (ti p0), some (ti i1)]) (fun i1 W => (i1 + 2147483648).toNat) 24 ⟨by omega, by omega, trivial⟩ rfl (fun i1 Wi1 hp48 ih47 => ?_)
  obtain ⟨l_i1, u_i1, -⟩ := hp48
  have r_i1 : ir i1 := ⟨by omega, by omega⟩
  show GO mX11_feedNumber K V (VS K (fun V1 => (True))) K Wi1 0 0 3 [some (.ref x), some (ti p0), some (ti i1)] []
  refine GO.iload_n dX11_feedNumber_3 rfl rfl ?_
  refine GO.if_lt (tgt := 32) dX11_feedNumber_4 (by decide) r_i1 (fun c49 => ?_) (fun c49 => ?_)
  ·
    exact GO.retv rfl rfl dX11_feedNumber_32 ⟨rfl, rfl, trivial⟩
  ·
    refine GO.aload_n dX11_feedNumber_7 rfl rfl ?_
    refine GO.getR h_x fl_RX11_91 rfl rfl dX11_feedNumber_8 (fun hv51 h50 => ?_)
    refine GO.iload_n dX11_feedNumber_11 rfl rfl ?_
    refine GO.iload_n dX11_feedNumber_12 rfl rfl ?_
    refine GO.ishr dX11_feedNumber_13 ?_
    refine GO.sipush dX11_feedNumber_14 rfl ?_
    refine GO.iand dX11_feedNumber_17 ?_
    have h52 := wand_rng (X := wshr p0 i1)
    refine GO.iconst dX11_feedNumber_18 ?_
    refine GO.iconst dX11_feedNumber_19 ?_
    refine GO.iconst dX11_feedNumber_20 ?_
    refine GO.iconst dX11_feedNumber_21 ?_
    refine GO.callV (ci := 7) (N := mX8_append) dX11_feedNumber_22 (RX8, TX8, 4) rfl gV_RX11_205 h50 (t_X8_append h50 wand_ir (ir_c rfl) (ir_c rfl) (ir_c rfl) (ir_c rfl)) rfl [] rfl rfl (Nat.le_of_ble_eq_true rfl) rfl (k_is fun X53 V57 r54 h55 hF56 => ?_)
    refine GO.pop dX11_feedNumber_25 rfl ?_
    refine GO.iinc (X := i1) (n := (-8)) (Y := i1 + (-8)) (ls1 := [some (.ref x), some (ti p0), some (ti (i1 + (-8)))]) dX11_feedNumber_26 rfl rfl rfl rfl ?_
    refine GO.goto (tgt := 3) dX11_feedNumber_29 (by decide) ?_
    exact ih47 (i1 + (-8)) V57 ⟨by omega, by omega, trivial⟩ (by show ((i1 + (-8)) + 2147483648).toNat < (i1 + 2147483648).toNat; omega)

set_option maxHeartbeats 1000000 in
theorem t_X11_feed {K : Kmap} {V : Vmap} {x : Nat} {p0 : Int} {p1 : Int} {p2 : Int} {p3 : Int} {p4 : Int} (h_x : K x = some (0, 10)) (r_p0 : ir p0) (r_p1 : ir p1) (r_p2 : ir p2) (r_p3 : ir p3) (r_p4 : ir p4) : MC mX11_feed K V [.ref x, ti p0, ti p1, ti p2, ti p3, ti p4] (IS K (fun X V1 => True)) := by
  refine MC.start 0 (by decide +kernel) rfl rfl rfl (ls0 := [some (.ref x), some (ti p0), some (ti p1), some (ti p2), some (ti p3), some (ti p4)]) rfl ?_
  refine GO.aload_n dX11_feed_0 rfl rfl ?_
  refine GO.getR h_x fl_RX11_91 rfl rfl dX11_feed_1 (fun hv2 h1 => ?_)
  refine GO.getI h1 fl_RX11_199 rfl rfl dX11_feed_4 (fun _ _ => ?_)
  refine GO.bipush dX11_feed_7 rfl ?_
  refine GO.iadd dX11_feed_9 ?_
  refine GO.norm (fun z3 r4 _ => ?_)
  refine GO.sipush dX11_feed_10 rfl ?_
  refine GO.icmp_le (tgt := 18) dX11_feed_13 (by decide) r4 (ir_c rfl) (fun c5 => ?_) (fun c5 => ?_)
  ·
    refine GO.aload_n dX11_feed_18 rfl rfl ?_
    refine GO.iload_n dX11_feed_19 rfl rfl ?_
    refine GO.callV (ci := 10) (N := mX11_feedNumber) dX11_feed_20 (RX11, TX11, 20) rfl gV_RX11_202 h_x (t_X11_feedNumber h_x r_p0) rfl [] rfl rfl (Nat.le_of_ble_eq_true rfl) rfl (k_vs fun V8 h7 hF6 => ?_)
    refine GO.aload_n dX11_feed_23 rfl rfl ?_
    refine GO.iload_n dX11_feed_24 rfl rfl ?_
    refine GO.callV (ci := 10) (N := mX11_feedNumber) dX11_feed_25 (RX11, TX11, 20) rfl gV_RX11_202 h_x (t_X11_feedNumber h_x r_p1) rfl [] rfl rfl (Nat.le_of_ble_eq_true rfl) rfl (k_vs fun V11 h10 hF9 => ?_)
    refine GO.aload_n dX11_feed_28 rfl rfl ?_
    refine GO.iload_n dX11_feed_29 rfl rfl ?_
    refine GO.callV (ci := 10) (N := mX11_feedNumber) dX11_feed_30 (RX11, TX11, 20) rfl gV_RX11_202 h_x (t_X11_feedNumber h_x r_p2) rfl [] rfl rfl (Nat.le_of_ble_eq_true rfl) rfl (k_vs fun V14 h13 hF12 => ?_)
    refine GO.aload_n dX11_feed_33 rfl rfl ?_
    refine GO.iload dX11_feed_34 rfl ?_
    refine GO.callV (ci := 10) (N := mX11_feedNumber) dX11_feed_36 (RX11, TX11, 20) rfl gV_RX11_202 h_x (t_X11_feedNumber h_x r_p3) rfl [] rfl rfl (Nat.le_of_ble_eq_true rfl) rfl (k_vs fun V17 h16 hF15 => ?_)
    refine GO.aload_n dX11_feed_39 rfl rfl ?_
    refine GO.iload dX11_feed_40 rfl ?_
    refine GO.callV (ci := 10) (N := mX11_feedNumber) dX11_feed_42 (RX11, TX11, 20) rfl gV_RX11_202 h_x (t_X11_feedNumber h_x r_p4) rfl [] rfl rfl (Nat.le_of_ble_eq_true rfl) rfl (k_vs fun V20 h19 hF18 => ?_)
    refine GO.aload_n dX11_feed_45 rfl rfl ?_
    refine GO.getRaw h_x fl_RX11_91 (Eq.trans (hF18 _ _ _ h_x h_x (by decide +kernel)) (Eq.trans (hF15 _ _ _ h_x h_x (by decide +kernel)) (Eq.trans (hF12 _ _ _ h_x h_x (by decide +kernel)) (Eq.trans (hF9 _ _ _ h_x h_x (by decide +kernel)) (Eq.trans (hF6 _ _ _ h_x h_x (by decide +kernel)) hv2))))) dX11_feed_46 ?_
    refine GO.getI h1 fl_RX11_199 rfl rfl dX11_feed_49 (fun _ _ => ?_)
    have q23 : -2147483648 ≤ vi V20 (vq V x 17) 3 ∧ vi V20 (vq V x 17) 3 ≤ 2147483647 := vi_ir
    exact GO.reti rfl rfl dX11_feed_52 ⟨rfl, _, rfl, vi_ir, trivial⟩
  ·
    refine GO.iconst dX11_feed_16 ?_
    exact GO.reti rfl rfl dX11_feed_17 ⟨rfl, _, rfl, (ir_c rfl), trivial⟩

set_option maxHeartbeats 1000000 in
theorem t_X11_fedNumber {K : Kmap} {V : Vmap} {x : Nat} {p0 : Int} (h_x : K x = some (0, 10)) (r_p0 : ir p0) : MC mX11_fedNumber K V [.ref x, ti p0] (IP K V (fun X => True)) := by
  refine MC.start 2 (by decide +kernel) rfl rfl rfl (ls0 := [some (.ref x), some (ti p0), none, none]) rfl ?_
  refine GO.iconst dX11_fedNumber_0 ?_
  refine GO.istore_n (ls1 := [some (.ref x), some (ti p0), some (ti 0), none]) dX11_fedNumber_1 rfl rfl rfl ?_
  refine GO.iconst dX11_fedNumber_2 ?_
  refine GO.istore_n (ls1 := [some (.ref x), some (ti p0), some (ti 0), some (ti 0)]) dX11_fedNumber_3 rfl rfl rfl ?_
  refine GO.loop2 (fun i1 i2 W => (-2147483648) ≤ i1 ∧ i1 ≤ 2147483647 ∧ 0 ≤ i2 ∧ i2 ≤ 4 ∧ V = W) (fun i1 i2 => [some (.ref x), some (ti p0), some (ti i1), some (ti i2)]) (fun i1 i2 W => (2147483647 - i2).toNat) 0 0 ⟨by omega, by omega, by omega, by omega, rfl⟩ rfl (fun i1 i2 V353 hp355 ih354 => ?_)
  obtain ⟨l_i1, u_i1, l_i2, u_i2, rfl⟩ := hp355
  have r_i1 : ir i1 := ⟨by omega, by omega⟩
  have r_i2 : ir i2 := ⟨by omega, by omega⟩
  show GO mX11_fedNumber K V (IP K V (fun X => True)) K V 0 0 4 [some (.ref x), some (ti p0), some (ti i1), some (ti i2)] []
  refine GO.iload_n dX11_fedNumber_4 rfl rfl ?_
  refine GO.iconst dX11_fedNumber_5 ?_
  refine GO.icmp_ge (tgt := 34) dX11_fedNumber_6 (by decide) r_i2 (ir_c rfl) (fun c356 => ?_) (fun c356 => ?_)
  ·
    refine GO.iload_n dX11_fedNumber_34 rfl rfl ?_
    exact GO.reti rfl rfl dX11_fedNumber_35 ⟨rfl, rfl, _, rfl, r_i1, trivial⟩
  ·
    refine GO.iload_n dX11_fedNumber_9 rfl rfl ?_
    refine GO.bipush dX11_fedNumber_10 rfl ?_
    refine GO.ishl dX11_fedNumber_12 ?_
    refine GO.aload_n dX11_fedNumber_13 rfl rfl ?_
    refine GO.getR h_x fl_RX11_91 rfl rfl dX11_fedNumber_14 (fun hv358 h357 => ?_)
    refine GO.iconst dX11_fedNumber_17 ?_
    refine GO.iload_n dX11_fedNumber_18 rfl rfl ?_
    refine GO.imul dX11_fedNumber_19 ?_
    refine GO.norm (fun z359 r360 _ => ?_)
    refine GO.iload_n dX11_fedNumber_20 rfl rfl ?_
    refine GO.iadd dX11_fedNumber_21 ?_
    refine GO.norm (fun z361 r362 _ => ?_)
    refine GO.iconst dX11_fedNumber_22 ?_
    refine GO.callV (ci := 7) (N := mX8_get) dX11_fedNumber_23 (RX8, TX8, 4) rfl gV_RX11_209 h357 (t_X8_get h357 r362 (ir_c rfl)) rfl [ti (wshl i1 8)] rfl rfl (Nat.le_of_ble_eq_true rfl) rfl (k_ip fun X363 r364 h365 => ?_)
    refine GO.ior dX11_fedNumber_26 ?_
    refine GO.name (fun z366 hz367 => ?_)
    have r368 : ir z366 := hz367 ▸ wor_ir
    refine GO.istore_n (ls1 := [some (.ref x), some (ti p0), some (ti z366), some (ti i2)]) dX11_fedNumber_27 rfl rfl rfl ?_
    refine GO.iinc (X := i2) (n := 1) (Y := i2 + 1) (ls1 := [some (.ref x), some (ti p0), some (ti z366), some (ti (i2 + 1))]) dX11_fedNumber_28 rfl rfl rfl rfl ?_
    refine GO.goto (tgt := 4) dX11_fedNumber_31 (by decide) ?_
    have q369 : -2147483648 ≤ z366 ∧ z366 ≤ 2147483647 := r368
    have q370 : -2147483648 ≤ wor (wshl i1 8) X363 ∧ wor (wshl i1 8) X363 ≤ 2147483647 := wor_ir
    exact ih354 z366 (i2 + 1) V ⟨by omega, by omega, by omega, by omega, rfl⟩ (by show (2147483647 - (i2 + 1)).toNat < (2147483647 - i2).toNat; omega)

set_option maxHeartbeats 1000000 in
theorem t_X11_areDays {K : Kmap} {V : Vmap} {p0 : Int} {p1 : Int} (r_p0 : ir p0) (r_p1 : ir p1) : MC mX11_areDays K V [ti p0, ti p1] (IP K V (fun X => (X = 0 ∨ X = 1) ∧ (X ≠ 0 → True) ∧ (X = 0 → True))) := by
  refine MC.start 0 (by decide +kernel) rfl rfl rfl (ls0 := [some (ti p0), some (ti p1)]) rfl ?_
  refine GO.iload_n dX11_areDays_0 rfl rfl ?_
  refine GO.if_lt (tgt := 20) dX11_areDays_1 (by decide) r_p0 (fun c1 => ?_) (fun c1 => ?_)
  ·
    refine GO.iconst dX11_areDays_20 ?_
    exact GO.retz rfl rfl dX11_areDays_21 (Or.inl rfl) ⟨rfl, rfl, _, rfl, (ir_c rfl), ⟨Or.inl rfl, fun _ => trivial, fun _ => trivial⟩⟩
  ·
    refine GO.iload_n dX11_areDays_4 rfl rfl ?_
    refine GO.iload_n dX11_areDays_5 rfl rfl ?_
    refine GO.icmp_gt (tgt := 20) dX11_areDays_6 (by decide) r_p0 r_p1 (fun c2 => ?_) (fun c2 => ?_)
    ·
      refine GO.iconst dX11_areDays_20 ?_
      exact GO.retz rfl rfl dX11_areDays_21 (Or.inl rfl) ⟨rfl, rfl, _, rfl, (ir_c rfl), ⟨Or.inl rfl, fun _ => trivial, fun _ => trivial⟩⟩
    ·
      refine GO.iload_n dX11_areDays_9 rfl rfl ?_
      refine GO.sipush dX11_areDays_10 rfl ?_
      refine GO.icmp_ge (tgt := 20) dX11_areDays_13 (by decide) r_p1 (ir_c rfl) (fun c3 => ?_) (fun c3 => ?_)
      ·
        refine GO.iconst dX11_areDays_20 ?_
        exact GO.retz rfl rfl dX11_areDays_21 (Or.inl rfl) ⟨rfl, rfl, _, rfl, (ir_c rfl), ⟨Or.inl rfl, fun _ => trivial, fun _ => trivial⟩⟩
      ·
        refine GO.iconst dX11_areDays_16 ?_
        refine GO.goto (tgt := 21) dX11_areDays_17 (by decide) ?_
        exact GO.retz rfl rfl dX11_areDays_21 (Or.inr rfl) ⟨rfl, rfl, _, rfl, (ir_c rfl), ⟨Or.inr rfl, fun _ => trivial, fun _ => trivial⟩⟩

set_option maxHeartbeats 1000000 in
theorem t_X11_text {K : Kmap} {V : Vmap} {x : Nat} {p0 : Int} {p1 : Int} {p2 : Int} (h_x : K x = some (0, 10)) (r_p0 : ir p0) (r_p1 : ir p1) (r_p2 : ir p2) : MC mX11_text K V [.ref x, ti p0, ti p1, ti p2] (IX (fun X _ _ => True)) := by
  refine MC.start 2 (by decide +kernel) rfl rfl rfl (ls0 := [some (.ref x), some (ti p0), some (ti p1), some (ti p2), none, none]) rfl ?_
  refine GO.iload_n dX11_text_0 rfl rfl ?_
  refine GO.iload_n dX11_text_1 rfl rfl ?_
  refine GO.callS (N := mX11_areDays) dX11_text_2 gS_RX11_213 (t_X11_areDays r_p0 r_p1) rfl [] rfl rfl (Nat.le_of_ble_eq_true rfl) rfl (k_ip fun X1 r2 h3 => ?_)
  refine GO.if_eq (tgt := 42) dX11_text_5 (by decide) r2 (fun c4 => ?_) (fun c4 => ?_)
  ·
    refine GO.iconst dX11_text_42 ?_
    exact GO.reti rfl rfl dX11_text_43 ⟨_, rfl, (ir_c rfl), trivial⟩
  ·
    refine GO.iload_n dX11_text_8 rfl rfl ?_
    refine GO.iconst dX11_text_9 ?_
    refine GO.sipush dX11_text_10 rfl ?_
    refine GO.callS (N := mX11_between) dX11_text_13 gS_RX11_112 (t_X11_between r_p2 (ir_c rfl) (ir_c rfl)) rfl [] rfl rfl (Nat.le_of_ble_eq_true rfl) rfl (k_ip fun X5 r6 h7 => ?_)
    refine GO.if_eq (tgt := 42) dX11_text_16 (by decide) r6 (fun c8 => ?_) (fun c8 => ?_)
    ·
      have q9 := h7.2.2 (by omega)
      refine GO.iconst dX11_text_42 ?_
      exact GO.reti rfl rfl dX11_text_43 ⟨_, rfl, (ir_c rfl), trivial⟩
    ·
      have q10 := h7.2.1 (by omega)
      refine GO.aload_n dX11_text_19 rfl rfl ?_
      refine GO.getR h_x fl_RX11_19 rfl rfl dX11_text_20 (fun hv12 h11 => ?_)
      refine GO.getI h11 fl_RX11_216 rfl rfl dX11_text_23 (fun l13 u14 => ?_)
      refine GO.bipush dX11_text_26 rfl ?_
      refine GO.icmp_ge (tgt := 42) dX11_text_28 (by decide) vi_ir (ir_c rfl) (fun c15 => ?_) (fun c15 => ?_)
      ·
        refine GO.iconst dX11_text_42 ?_
        exact GO.reti rfl rfl dX11_text_43 ⟨_, rfl, (ir_c rfl), trivial⟩
      ·
        refine GO.iload_n dX11_text_31 rfl rfl ?_
        refine GO.aload_n dX11_text_32 rfl rfl ?_
        refine GO.getR h_x fl_RX11_91 rfl rfl dX11_text_33 (fun hv17 h16 => ?_)
        refine GO.getI h16 fl_RX11_199 rfl rfl dX11_text_36 (fun _ _ => ?_)
        refine GO.icmp_le (tgt := 44) dX11_text_39 (by decide) r_p2 vi_ir (fun c18 => ?_) (fun c18 => ?_)
        ·
          refine GO.new (ci := 20) (RX9, TX9, 5) tyX9 rfl rfl lays_8 tyX9_ok gw_570 gw_571 gw_11 rfl rfl dX11_text_44 (fun o19 K20 V26 hq21 hK22 hE23 h24 _ hV25 => ?_)
          have h27 := hE23.obj (by decide) h_x
          refine GO.dup dX11_text_47 rfl ?_
          refine GO.iload_n dX11_text_48 rfl rfl ?_
          refine GO.iload_n dX11_text_49 rfl rfl ?_
          refine GO.iload_n dX11_text_50 rfl rfl ?_
          refine GO.bipush dX11_text_51 rfl ?_
          have q28 : -2147483648 ≤ p2 ∧ p2 ≤ 2147483647 := r_p2
          have q29 : -2147483648 ≤ vi V (vq V x 17) 3 ∧ vi V (vq V x 17) 3 ≤ 2147483647 := vi_ir
          refine GO.callI (N := mX9_init) dX11_text_53 gI_RX11_221 rfl (t_X9_init h24 r_p0 r_p1 r_p2 (ir_c rfl) (by omega) (by omega) (by omega) (by omega)) rfl [.ref o19] rfl rfl (Nat.le_of_ble_eq_true rfl) rfl (k_vx fun K32 V34 h33 hE31 hF30 => ?_)
          have h35 := hE31.obj (by decide) h27
          have h36 := h33.1
          refine GO.astore (ls1 := [some (.ref x), some (ti p0), some (ti p1), some (ti p2), some (.ref o19), none]) dX11_text_56 rfl rfl ?_
          refine GO.new (ci := 16) (RX5, TX5, 7) tyX5 rfl rfl lays_4 tyX5_ok gw_599 gw_600 gw_12 rfl rfl dX11_text_58 (fun o37 K38 V44 hq39 hK40 hE41 h42 _ hV43 => ?_)
          have h45 := hE41.obj (by decide) h35
          have h46 := hE41.obj (by decide) h36
          refine GO.dup dX11_text_61 rfl ?_
          refine GO.aload_n dX11_text_62 rfl rfl ?_
          refine GO.getR h45 fl_RX11_91 rfl rfl dX11_text_63 (fun hv48 h47 => ?_)
          refine GO.getB h47 fl_RX11_226 rfl rfl dX11_text_66 (fun n51 hv50 h49 b52 => ?_)
          refine GO.iload_n dX11_text_69 rfl rfl ?_
          refine GO.aload dX11_text_70 rfl ?_
          refine GO.callI (N := mX5_init) dX11_text_72 gI_RX11_229 rfl (t_X5_init h42 h49 r_p2 h46) rfl [.ref o37] rfl rfl (Nat.le_of_ble_eq_true rfl) rfl (k_vx fun K55 V57 h56 hE54 hF53 => ?_)
          have h58 := hE54.obj (by decide) h45
          have h59 := hE54.obj (by decide) h46
          have h60 := h56.1.1
          have q61 : vi V57 o37 4 = 0 := h56.1.2
          refine GO.astore (ls1 := [some (.ref x), some (ti p0), some (ti p1), some (ti p2), some (.ref o19), some (.ref o37)]) dX11_text_75 rfl rfl ?_
          refine GO.aload dX11_text_77 rfl ?_
          refine GO.callV (ci := 4) (N := mX5_writeText) dX11_text_79 (RX5, TX5, 7) rfl gV_RX11_232 h60 (t_X5_writeText h60 (by omega)) rfl [] rfl rfl (Nat.le_of_ble_eq_true rfl) rfl (k_vs fun V64 h63 hF62 => ?_)
          refine GO.aload_n dX11_text_82 rfl rfl ?_
          refine GO.getR h58 fl_RX11_91 rfl rfl dX11_text_83 (fun hv66 h65 => ?_)
          refine GO.iconst dX11_text_86 ?_
          refine GO.putI h65 fp_RX11_199 rfl (by decide +kernel) (ir_c rfl) (by decide) (by decide) dX11_text_87 (fun V68 e67 => ?_)
          refine GO.aload dX11_text_90 rfl ?_
          refine GO.getI h60 fl_RX11_235 rfl rfl dX11_text_92 (fun _ _ => ?_)
          refine GO.if_eq (tgt := 106) dX11_text_95 (by decide) vi_ir (fun c69 => ?_) (fun c69 => ?_)
          ·
            refine GO.aload_n dX11_text_106 rfl rfl ?_
            refine GO.getR h58 fl_RX11_19 rfl rfl dX11_text_107 (fun hv71 h70 => ?_)
            refine GO.aload dX11_text_110 rfl ?_
            refine GO.callV (ci := 1) (N := mX1_addText) dX11_text_112 (RX1, TX1, 13) rfl gV_RX11_242 h70 (t_X1_addText h70 h59) rfl [] rfl rfl (Nat.le_of_ble_eq_true rfl) rfl (k_is fun X72 V76 r73 h74 hF75 => ?_)
            have q77 : -2147483648 ≤ X72 ∧ X72 ≤ 2147483647 := r73
            exact GO.reti rfl rfl dX11_text_115 ⟨_, rfl, r73, trivial⟩
          ·
            refine GO.aload dX11_text_98 rfl ?_
            refine GO.callV (ci := 4) (N := mX5_faultAnswer) dX11_text_100 (RX5, TX5, 7) rfl gV_RX11_238 h60 (t_X5_faultAnswer h60) rfl [] rfl rfl (Nat.le_of_ble_eq_true rfl) rfl (k_ip fun X78 r79 h80 => ?_)
            refine GO.goto (tgt := 115) dX11_text_103 (by decide) ?_
            have q81 : -2147483648 ≤ X78 ∧ X78 ≤ 2147483647 := r79
            exact GO.reti rfl rfl dX11_text_115 ⟨_, rfl, r79, trivial⟩
        ·
          refine GO.iconst dX11_text_42 ?_
          exact GO.reti rfl rfl dX11_text_43 ⟨_, rfl, (ir_c rfl), trivial⟩

set_option maxHeartbeats 1000000 in
theorem t_X11_yes {K : Kmap} {V : Vmap} {x : Nat} {p0 : Int} {p1 : Int} (h_x : K x = some (0, 10)) (r_p0 : ir p0) (r_p1 : ir p1) : MC mX11_yes K V [.ref x, ti p0, ti p1] (IS K (fun X V1 => (X = 0 ∨ X = 1) ∧ (X ≠ 0 → True) ∧ (X = 0 → True))) := by
  refine MC.start 1 (by decide +kernel) rfl rfl rfl (ls0 := [some (.ref x), some (ti p0), some (ti p1), none]) rfl ?_
  refine GO.aload_n dX11_yes_0 rfl rfl ?_
  refine GO.iload_n dX11_yes_1 rfl rfl ?_
  refine GO.callV (ci := 10) (N := mX11_partyOf) dX11_yes_2 (RX11, TX11, 20) rfl gV_RX11_151 h_x (t_X11_partyOf h_x r_p0) rfl [] rfl rfl (Nat.le_of_ble_eq_true rfl) rfl (k_rp (fun h3 => ?_) (fun o1 h2 h3 => ?_))
  ·
    refine GO.astore_nN (ls1 := [some (.ref x), some (ti p0), some (ti p1), some (.null)]) dX11_yes_5 rfl rfl rfl ?_
    refine GO.aload_nN dX11_yes_6 rfl rfl ?_
    refine GO.ifnullN (tgt := 37) dX11_yes_7 (by decide) ?_
    refine GO.iconst dX11_yes_37 ?_
    exact GO.retz rfl rfl dX11_yes_38 (Or.inl rfl) ⟨rfl, _, rfl, (ir_c rfl), ⟨Or.inl rfl, fun _ => trivial, fun _ => trivial⟩⟩
  ·
    refine GO.astore_n (ls1 := [some (.ref x), some (ti p0), some (ti p1), some (.ref o1)]) dX11_yes_5 rfl rfl rfl ?_
    refine GO.aload_n dX11_yes_6 rfl rfl ?_
    refine GO.ifnull dX11_yes_7 ?_
    refine GO.iload_n dX11_yes_10 rfl rfl ?_
    refine GO.if_eq (tgt := 37) dX11_yes_11 (by decide) r_p1 (fun c4 => ?_) (fun c4 => ?_)
    ·
      refine GO.iconst dX11_yes_37 ?_
      exact GO.retz rfl rfl dX11_yes_38 (Or.inl rfl) ⟨rfl, _, rfl, (ir_c rfl), ⟨Or.inl rfl, fun _ => trivial, fun _ => trivial⟩⟩
    ·
      refine GO.aload_n dX11_yes_14 rfl rfl ?_
      refine GO.getR h_x fl_RX11_19 rfl rfl dX11_yes_15 (fun hv6 h5 => ?_)
      refine GO.iload_n dX11_yes_18 rfl rfl ?_
      refine GO.callV (ci := 1) (N := mX1_textOf) dX11_yes_19 (RX1, TX1, 13) rfl gV_RX11_246 h5 (t_X1_textOf h5 r_p1) rfl [] rfl rfl (Nat.le_of_ble_eq_true rfl) rfl (k_rp (fun h9 => ?_) (fun o7 h8 h9 => ?_))
      ·
        refine GO.ifnullN (tgt := 37) dX11_yes_22 (by decide) ?_
        refine GO.iconst dX11_yes_37 ?_
        exact GO.retz rfl rfl dX11_yes_38 (Or.inl rfl) ⟨rfl, _, rfl, (ir_c rfl), ⟨Or.inl rfl, fun _ => trivial, fun _ => trivial⟩⟩
      ·
        refine GO.ifnull dX11_yes_22 ?_
        refine GO.aload_n dX11_yes_25 rfl rfl ?_
        refine GO.getB h2 fl_RX11_250 rfl rfl dX11_yes_26 (fun n12 hv11 h10 b13 => ?_)
        refine GO.iload_n dX11_yes_29 rfl rfl ?_
        refine GO.callS (N := mX4_get) dX11_yes_30 gS_RX11_253 (t_X4_get rfl h10 r_p1) rfl [] rfl rfl (Nat.le_of_ble_eq_true rfl) rfl (k_ip fun X14 r15 h16 => ?_)
        refine GO.iconst dX11_yes_33 ?_
        refine GO.icmp_eq (tgt := 39) dX11_yes_34 (by decide) r15 (ir_c rfl) (fun c17 => ?_) (fun c17 => ?_)
        ·
          refine GO.aload_n dX11_yes_39 rfl rfl ?_
          refine GO.getRaw h2 fl_RX11_250 hv11 dX11_yes_40 ?_
          refine GO.iload_n dX11_yes_43 rfl rfl ?_
          refine GO.aload_n dX11_yes_44 rfl rfl ?_
          refine GO.getR h_x fl_RX11_12 rfl rfl dX11_yes_45 (fun hv21 h20 => ?_)
          refine GO.getI h20 fl_RX11_145 rfl rfl dX11_yes_48 (fun _ _ => ?_)
          refine GO.callS (N := mX4_put) dX11_yes_51 gS_RX11_108 (t_X4_put h10 r_p1 vi_ir) rfl [] rfl rfl (Nat.le_of_ble_eq_true rfl) rfl (k_vs fun V24 h23 hF22 => ?_)
          refine GO.aload_n dX11_yes_54 rfl rfl ?_
          refine GO.getRaw h_x fl_RX11_19 (Eq.trans (hF22 _ _ _ h_x h_x (by decide +kernel)) hv6) dX11_yes_55 ?_
          refine GO.callV (ci := 1) (N := mX1_forget) dX11_yes_58 (RX1, TX1, 13) rfl gV_RX11_256 h5 (t_X1_forget h5) rfl [] rfl rfl (Nat.le_of_ble_eq_true rfl) rfl (k_vs fun V29 h28 hF27 => ?_)
          refine GO.iconst dX11_yes_61 ?_
          exact GO.retz rfl rfl dX11_yes_62 (Or.inr rfl) ⟨rfl, _, rfl, (ir_c rfl), ⟨Or.inr rfl, fun _ => trivial, fun _ => trivial⟩⟩
        ·
          refine GO.iconst dX11_yes_37 ?_
          exact GO.retz rfl rfl dX11_yes_38 (Or.inl rfl) ⟨rfl, _, rfl, (ir_c rfl), ⟨Or.inl rfl, fun _ => trivial, fun _ => trivial⟩⟩

set_option maxHeartbeats 1000000 in
theorem t_X11_reading {K : Kmap} {V : Vmap} {x : Nat} {p0 : Int} {p1 : Int} {p2 : Int} {p3 : Int} (h_x : K x = some (0, 10)) (r_p0 : ir p0) (r_p1 : ir p1) (r_p2 : ir p2) (r_p3 : ir p3) : MC mX11_reading K V [.ref x, ti p0, ti p1, ti p2, ti p3] (IX (fun X _ _ => True)) := by
  refine MC.start 3 (by decide +kernel) rfl rfl rfl (ls0 := [some (.ref x), some (ti p0), some (ti p1), some (ti p2), some (ti p3), none, none, none]) rfl ?_
  refine GO.aload_n dX11_reading_0 rfl rfl ?_
  refine GO.getR h_x fl_RX11_19 rfl rfl dX11_reading_1 (fun hv2 h1 => ?_)
  refine GO.iload_n dX11_reading_4 rfl rfl ?_
  refine GO.callV (ci := 1) (N := mX1_textOf) dX11_reading_5 (RX1, TX1, 13) rfl gV_RX11_246 h1 (t_X1_textOf h1 r_p1) rfl [] rfl rfl (Nat.le_of_ble_eq_true rfl) rfl (k_rp (fun h5 => ?_) (fun o3 h4 h5 => ?_))
  ·
    refine GO.astoreN (ls1 := [some (.ref x), some (ti p0), some (ti p1), some (ti p2), some (ti p3), some (.null), none, none]) dX11_reading_8 rfl rfl ?_
    refine GO.aload_n dX11_reading_10 rfl rfl ?_
    refine GO.iload_n dX11_reading_11 rfl rfl ?_
    refine GO.callV (ci := 10) (N := mX11_partyOf) dX11_reading_12 (RX11, TX11, 20) rfl gV_RX11_151 h_x (t_X11_partyOf h_x r_p0) rfl [] rfl rfl (Nat.le_of_ble_eq_true rfl) rfl (k_rp (fun h8 => ?_) (fun o6 h7 h8 => ?_))
    ·
      refine GO.ifnullN (tgt := 32) dX11_reading_15 (by decide) ?_
      refine GO.iconst dX11_reading_32 ?_
      exact GO.reti rfl rfl dX11_reading_33 ⟨_, rfl, (ir_c rfl), trivial⟩
    ·
      refine GO.ifnull dX11_reading_15 ?_
      refine GO.aloadN dX11_reading_18 rfl ?_
      refine GO.ifnullN (tgt := 32) dX11_reading_20 (by decide) ?_
      refine GO.iconst dX11_reading_32 ?_
      exact GO.reti rfl rfl dX11_reading_33 ⟨_, rfl, (ir_c rfl), trivial⟩
  ·
    refine GO.astore (ls1 := [some (.ref x), some (ti p0), some (ti p1), some (ti p2), some (ti p3), some (.ref o3), none, none]) dX11_reading_8 rfl rfl ?_
    refine GO.aload_n dX11_reading_10 rfl rfl ?_
    refine GO.iload_n dX11_reading_11 rfl rfl ?_
    refine GO.callV (ci := 10) (N := mX11_partyOf) dX11_reading_12 (RX11, TX11, 20) rfl gV_RX11_151 h_x (t_X11_partyOf h_x r_p0) rfl [] rfl rfl (Nat.le_of_ble_eq_true rfl) rfl (k_rp (fun h11 => ?_) (fun o9 h10 h11 => ?_))
    ·
      refine GO.ifnullN (tgt := 32) dX11_reading_15 (by decide) ?_
      refine GO.iconst dX11_reading_32 ?_
      exact GO.reti rfl rfl dX11_reading_33 ⟨_, rfl, (ir_c rfl), trivial⟩
    ·
      refine GO.ifnull dX11_reading_15 ?_
      refine GO.aload dX11_reading_18 rfl ?_
      refine GO.ifnull dX11_reading_20 ?_
      refine GO.aload dX11_reading_23 rfl ?_
      refine GO.iload_n dX11_reading_25 rfl rfl ?_
      refine GO.callV (ci := 8) (N := mX9_hasCondition) dX11_reading_26 (RX9, TX9, 5) rfl gV_RX11_259 h4 (t_X9_hasCondition h4 r_p2) rfl [] rfl rfl (Nat.le_of_ble_eq_true rfl) rfl (k_ip fun X12 r13 h14 => ?_)
      refine GO.if_ne (tgt := 34) dX11_reading_29 (by decide) r13 (fun c15 => ?_) (fun c15 => ?_)
      ·
        refine GO.iload dX11_reading_34 rfl ?_
        refine GO.iconst dX11_reading_36 ?_
        refine GO.bipush dX11_reading_37 rfl ?_
        refine GO.callS (N := mX11_between) dX11_reading_39 gS_RX11_112 (t_X11_between r_p3 (ir_c rfl) (ir_c rfl)) rfl [] rfl rfl (Nat.le_of_ble_eq_true rfl) rfl (k_ip fun X16 r17 h18 => ?_)
        refine GO.if_eq (tgt := 70) dX11_reading_42 (by decide) r17 (fun c19 => ?_) (fun c19 => ?_)
        ·
          have q20 := h18.2.2 (by omega)
          refine GO.iconst dX11_reading_70 ?_
          exact GO.reti rfl rfl dX11_reading_71 ⟨_, rfl, (ir_c rfl), trivial⟩
        ·
          have q21 := h18.2.1 (by omega)
          refine GO.aload_n dX11_reading_45 rfl rfl ?_
          refine GO.getRaw h_x fl_RX11_19 hv2 dX11_reading_46 ?_
          refine GO.getR h1 fl_RX11_262 rfl rfl dX11_reading_49 (fun hv25 h24 => ?_)
          refine GO.callV (ci := 7) (N := mX8_isFull) dX11_reading_52 (RX8, TX8, 4) rfl gV_RX11_265 h24 (t_X8_isFull h24) rfl [] rfl rfl (Nat.le_of_ble_eq_true rfl) rfl (k_ip fun X26 r27 h28 => ?_)
          refine GO.if_ne (tgt := 70) dX11_reading_55 (by decide) r27 (fun c29 => ?_) (fun c29 => ?_)
          ·
            refine GO.iconst dX11_reading_70 ?_
            exact GO.reti rfl rfl dX11_reading_71 ⟨_, rfl, (ir_c rfl), trivial⟩
          ·
            refine GO.iload dX11_reading_58 rfl ?_
            refine GO.aload_n dX11_reading_60 rfl rfl ?_
            refine GO.getR h_x fl_RX11_91 rfl rfl dX11_reading_61 (fun hv31 h30 => ?_)
            refine GO.getI h30 fl_RX11_199 rfl rfl dX11_reading_64 (fun _ _ => ?_)
            refine GO.icmp_le (tgt := 72) dX11_reading_67 (by decide) r_p3 vi_ir (fun c32 => ?_) (fun c32 => ?_)
            ·
              refine GO.new (ci := 20) (RX9, TX9, 5) tyX9 rfl rfl lays_8 tyX9_ok gw_570 gw_571 gw_11 rfl rfl dX11_reading_72 (fun o33 K34 V40 hq35 hK36 hE37 h38 _ hV39 => ?_)
              have h41 := hE37.obj (by decide) h_x
              have h42 := hE37.obj (by decide) h4
              refine GO.dup dX11_reading_75 rfl ?_
              refine GO.iconst dX11_reading_76 ?_
              refine GO.iconst dX11_reading_77 ?_
              refine GO.iload dX11_reading_78 rfl ?_
              refine GO.iconst dX11_reading_80 ?_
              have q43 : -2147483648 ≤ p3 ∧ p3 ≤ 2147483647 := r_p3
              have q44 : -2147483648 ≤ vi V (vq V x 17) 3 ∧ vi V (vq V x 17) 3 ≤ 2147483647 := vi_ir
              refine GO.callI (N := mX9_init) dX11_reading_81 gI_RX11_221 rfl (t_X9_init h38 (ir_c rfl) (ir_c rfl) r_p3 (ir_c rfl) (by omega) (by omega) (by omega) (by omega)) rfl [.ref o33] rfl rfl (Nat.le_of_ble_eq_true rfl) rfl (k_vx fun K47 V49 h48 hE46 hF45 => ?_)
              have h50 := hE46.obj (by decide) h41
              have h51 := hE46.obj (by decide) h42
              have h52 := h48.1
              refine GO.astore (ls1 := [some (.ref x), some (ti p0), some (ti p1), some (ti p2), some (ti p3), some (.ref o3), some (.ref o33), none]) dX11_reading_84 rfl rfl ?_
              refine GO.new (ci := 16) (RX5, TX5, 7) tyX5 rfl rfl lays_4 tyX5_ok gw_599 gw_600 gw_12 rfl rfl dX11_reading_86 (fun o53 K54 V60 hq55 hK56 hE57 h58 _ hV59 => ?_)
              have h61 := hE57.obj (by decide) h50
              have h62 := hE57.obj (by decide) h51
              have h63 := hE57.obj (by decide) h52
              refine GO.dup dX11_reading_89 rfl ?_
              refine GO.aload_n dX11_reading_90 rfl rfl ?_
              refine GO.getR h61 fl_RX11_91 rfl rfl dX11_reading_91 (fun hv65 h64 => ?_)
              refine GO.getB h64 fl_RX11_226 rfl rfl dX11_reading_94 (fun n68 hv67 h66 b69 => ?_)
              refine GO.iload dX11_reading_97 rfl ?_
              refine GO.aload dX11_reading_99 rfl ?_
              refine GO.callI (N := mX5_init) dX11_reading_101 gI_RX11_229 rfl (t_X5_init h58 h66 r_p3 h63) rfl [.ref o53] rfl rfl (Nat.le_of_ble_eq_true rfl) rfl (k_vx fun K72 V74 h73 hE71 hF70 => ?_)
              have h75 := hE71.obj (by decide) h61
              have h76 := hE71.obj (by decide) h62
              have h77 := hE71.obj (by decide) h63
              have h78 := h73.1.1
              have q79 : vi V74 o53 4 = 0 := h73.1.2
              refine GO.astore (ls1 := [some (.ref x), some (ti p0), some (ti p1), some (ti p2), some (ti p3), some (.ref o3), some (.ref o33), some (.ref o53)]) dX11_reading_104 rfl rfl ?_
              refine GO.aload dX11_reading_106 rfl ?_
              refine GO.callV (ci := 4) (N := mX5_writeReading) dX11_reading_108 (RX5, TX5, 7) rfl gV_RX11_269 h78 (t_X5_writeReading h78 (by omega)) rfl [] rfl rfl (Nat.le_of_ble_eq_true rfl) rfl (k_vs fun V82 h81 hF80 => ?_)
              refine GO.aload_n dX11_reading_111 rfl rfl ?_
              refine GO.getR h75 fl_RX11_91 rfl rfl dX11_reading_112 (fun hv84 h83 => ?_)
              refine GO.iconst dX11_reading_115 ?_
              refine GO.putI h83 fp_RX11_199 rfl (by decide +kernel) (ir_c rfl) (by decide) (by decide) dX11_reading_116 (fun V86 e85 => ?_)
              refine GO.aload dX11_reading_119 rfl ?_
              refine GO.getI h78 fl_RX11_235 rfl rfl dX11_reading_121 (fun _ _ => ?_)
              refine GO.if_eq (tgt := 133) dX11_reading_124 (by decide) vi_ir (fun c87 => ?_) (fun c87 => ?_)
              ·
                refine GO.aload_n dX11_reading_133 rfl rfl ?_
                refine GO.getR h75 fl_RX11_19 rfl rfl dX11_reading_134 (fun hv89 h88 => ?_)
                refine GO.iload_n dX11_reading_137 rfl rfl ?_
                refine GO.iload_n dX11_reading_138 rfl rfl ?_
                refine GO.iload_n dX11_reading_139 rfl rfl ?_
                refine GO.aload dX11_reading_140 rfl ?_
                refine GO.callV (ci := 1) (N := mX1_addReading) dX11_reading_142 (RX1, TX1, 13) rfl gV_RX11_272 h88 (t_X1_addReading h88 r_p0 r_p1 r_p2 h77) rfl [] rfl rfl (Nat.le_of_ble_eq_true rfl) rfl (k_vs fun V92 h91 hF90 => ?_)
                refine GO.iconst dX11_reading_145 ?_
                exact GO.reti rfl rfl dX11_reading_146 ⟨_, rfl, (ir_c rfl), trivial⟩
              ·
                refine GO.aload dX11_reading_127 rfl ?_
                refine GO.callV (ci := 4) (N := mX5_faultAnswer) dX11_reading_129 (RX5, TX5, 7) rfl gV_RX11_238 h78 (t_X5_faultAnswer h78) rfl [] rfl rfl (Nat.le_of_ble_eq_true rfl) rfl (k_ip fun X93 r94 h95 => ?_)
                have q96 : -2147483648 ≤ X93 ∧ X93 ≤ 2147483647 := r94
                exact GO.reti rfl rfl dX11_reading_132 ⟨_, rfl, r94, trivial⟩
            ·
              refine GO.iconst dX11_reading_70 ?_
              exact GO.reti rfl rfl dX11_reading_71 ⟨_, rfl, (ir_c rfl), trivial⟩
      ·
        refine GO.iconst dX11_reading_32 ?_
        exact GO.reti rfl rfl dX11_reading_33 ⟨_, rfl, (ir_c rfl), trivial⟩

set_option maxHeartbeats 1000000 in
theorem t_X11_isDay {K : Kmap} {V : Vmap} {p0 : Int} (r_p0 : ir p0) : MC mX11_isDay K V [ti p0] (IP K V (fun X => (X = 0 ∨ X = 1) ∧ (X ≠ 0 → True) ∧ (X = 0 → True))) := by
  refine MC.start 0 (by decide +kernel) rfl rfl rfl (ls0 := [some (ti p0)]) rfl ?_
  refine GO.iload_n dX11_isDay_0 rfl rfl ?_
  refine GO.iconst dX11_isDay_1 ?_
  refine GO.sipush dX11_isDay_2 rfl ?_
  refine GO.callS (N := mX11_between) dX11_isDay_5 gS_RX11_112 (t_X11_between r_p0 (ir_c rfl) (ir_c rfl)) rfl [] rfl rfl (Nat.le_of_ble_eq_true rfl) rfl (k_ip fun X1 r2 h3 => ?_)
  exact GO.retz rfl rfl dX11_isDay_8 (by omega) ⟨rfl, rfl, _, rfl, r2, ⟨by omega, fun _ => trivial, fun _ => trivial⟩⟩

set_option maxHeartbeats 1000000 in
theorem t_J6_bitCount_0f7a4 {K : Kmap} {V : Vmap} {p0 : Int} (r_p0 : ir p0) : MC mJ6_bitCount_0f7a4 K V [ti p0] (IP K V (fun X => True)) := by
  refine MC.start 0 (by decide +kernel) rfl rfl rfl (ls0 := [some (ti p0)]) rfl ?_
  refine GO.iload_n dJ6_bitCount_0f7a4_0 rfl rfl ?_
  refine GO.iload_n dJ6_bitCount_0f7a4_1 rfl rfl ?_
  refine GO.iconst dJ6_bitCount_0f7a4_2 ?_
  refine GO.iushr dJ6_bitCount_0f7a4_3 ?_
  refine GO.ldcw (X := 1431655765) dJ6_bitCount_0f7a4_4 gw_855 rfl ?_
  refine GO.iand dJ6_bitCount_0f7a4_7 ?_
  refine GO.isub dJ6_bitCount_0f7a4_8 ?_
  refine GO.norm (fun z1 r2 _ => ?_)
  refine GO.istore_n (ls1 := [some (ti z1)]) dJ6_bitCount_0f7a4_9 rfl rfl rfl ?_
  refine GO.iload_n dJ6_bitCount_0f7a4_10 rfl rfl ?_
  refine GO.ldcw (X := 858993459) dJ6_bitCount_0f7a4_11 gw_856 rfl ?_
  refine GO.iand dJ6_bitCount_0f7a4_14 ?_
  refine GO.iload_n dJ6_bitCount_0f7a4_15 rfl rfl ?_
  refine GO.iconst dJ6_bitCount_0f7a4_16 ?_
  refine GO.iushr dJ6_bitCount_0f7a4_17 ?_
  refine GO.ldcw (X := 858993459) dJ6_bitCount_0f7a4_18 gw_856 rfl ?_
  refine GO.iand dJ6_bitCount_0f7a4_21 ?_
  refine GO.iadd dJ6_bitCount_0f7a4_22 ?_
  refine GO.norm (fun z3 r4 _ => ?_)
  refine GO.istore_n (ls1 := [some (ti z3)]) dJ6_bitCount_0f7a4_23 rfl rfl rfl ?_
  refine GO.iload_n dJ6_bitCount_0f7a4_24 rfl rfl ?_
  refine GO.iload_n dJ6_bitCount_0f7a4_25 rfl rfl ?_
  refine GO.iconst dJ6_bitCount_0f7a4_26 ?_
  refine GO.iushr dJ6_bitCount_0f7a4_27 ?_
  refine GO.iadd dJ6_bitCount_0f7a4_28 ?_
  refine GO.norm (fun z5 r6 _ => ?_)
  refine GO.ldcw (X := 252645135) dJ6_bitCount_0f7a4_29 gw_857 rfl ?_
  refine GO.iand dJ6_bitCount_0f7a4_32 ?_
  refine GO.name (fun z7 hz8 => ?_)
  have r9 : ir z7 := hz8 ▸ wand_ir
  refine GO.istore_n (ls1 := [some (ti z7)]) dJ6_bitCount_0f7a4_33 rfl rfl rfl ?_
  refine GO.iload_n dJ6_bitCount_0f7a4_34 rfl rfl ?_
  refine GO.iload_n dJ6_bitCount_0f7a4_35 rfl rfl ?_
  refine GO.bipush dJ6_bitCount_0f7a4_36 rfl ?_
  refine GO.iushr dJ6_bitCount_0f7a4_38 ?_
  refine GO.iadd dJ6_bitCount_0f7a4_39 ?_
  refine GO.norm (fun z10 r11 _ => ?_)
  refine GO.istore_n (ls1 := [some (ti z10)]) dJ6_bitCount_0f7a4_40 rfl rfl rfl ?_
  refine GO.iload_n dJ6_bitCount_0f7a4_41 rfl rfl ?_
  refine GO.iload_n dJ6_bitCount_0f7a4_42 rfl rfl ?_
  refine GO.bipush dJ6_bitCount_0f7a4_43 rfl ?_
  refine GO.iushr dJ6_bitCount_0f7a4_45 ?_
  refine GO.iadd dJ6_bitCount_0f7a4_46 ?_
  refine GO.norm (fun z12 r13 _ => ?_)
  refine GO.istore_n (ls1 := [some (ti z12)]) dJ6_bitCount_0f7a4_47 rfl rfl rfl ?_
  refine GO.iload_n dJ6_bitCount_0f7a4_48 rfl rfl ?_
  refine GO.bipush dJ6_bitCount_0f7a4_49 rfl ?_
  refine GO.iand dJ6_bitCount_0f7a4_51 ?_
  have q14 : -2147483648 ≤ wand z12 63 ∧ wand z12 63 ≤ 2147483647 := wand_ir
  exact GO.reti rfl rfl dJ6_bitCount_0f7a4_52 ⟨rfl, rfl, _, rfl, wand_ir, trivial⟩

set_option maxHeartbeats 1000000 in
theorem t_X11_counts {K : Kmap} {V : Vmap} {x : Nat} {p0 : Int} {p1 : Int} {p2 : Int} (h_x : K x = some (0, 10)) (r_p0 : ir p0) (r_p1 : ir p1) (r_p2 : ir p2) : MC mX11_counts K V [.ref x, ti p0, ti p1, ti p2] (IS K (fun X V1 => True)) := by
  refine MC.start 1 (by decide +kernel) rfl rfl rfl (ls0 := [some (.ref x), some (ti p0), some (ti p1), some (ti p2), none]) rfl ?_
  refine GO.aload_n dX11_counts_0 rfl rfl ?_
  refine GO.iload_n dX11_counts_1 rfl rfl ?_
  refine GO.callV (ci := 10) (N := mX11_partyOf) dX11_counts_2 (RX11, TX11, 20) rfl gV_RX11_151 h_x (t_X11_partyOf h_x r_p1) rfl [] rfl rfl (Nat.le_of_ble_eq_true rfl) rfl (k_rp (fun h3 => ?_) (fun o1 h2 h3 => ?_))
  ·
    refine GO.astoreN (ls1 := [some (.ref x), some (ti p0), some (ti p1), some (ti p2), some (.null)]) dX11_counts_5 rfl rfl ?_
    refine GO.aloadN dX11_counts_7 rfl ?_
    refine GO.ifnullN (tgt := 30) dX11_counts_9 (by decide) ?_
    refine GO.iconst dX11_counts_30 ?_
    exact GO.reti rfl rfl dX11_counts_31 ⟨rfl, _, rfl, (ir_c rfl), trivial⟩
  ·
    refine GO.astore (ls1 := [some (.ref x), some (ti p0), some (ti p1), some (ti p2), some (.ref o1)]) dX11_counts_5 rfl rfl ?_
    refine GO.aload dX11_counts_7 rfl ?_
    refine GO.ifnull dX11_counts_9 ?_
    refine GO.aload_n dX11_counts_12 rfl rfl ?_
    refine GO.getR h_x fl_RX11_19 rfl rfl dX11_counts_13 (fun hv5 h4 => ?_)
    refine GO.iload_n dX11_counts_16 rfl rfl ?_
    refine GO.callV (ci := 1) (N := mX1_textOf) dX11_counts_17 (RX1, TX1, 13) rfl gV_RX11_246 h4 (t_X1_textOf h4 r_p0) rfl [] rfl rfl (Nat.le_of_ble_eq_true rfl) rfl (k_rp (fun h8 => ?_) (fun o6 h7 h8 => ?_))
    ·
      refine GO.ifnullN (tgt := 30) dX11_counts_20 (by decide) ?_
      refine GO.iconst dX11_counts_30 ?_
      exact GO.reti rfl rfl dX11_counts_31 ⟨rfl, _, rfl, (ir_c rfl), trivial⟩
    ·
      refine GO.ifnull dX11_counts_20 ?_
      refine GO.iload_n dX11_counts_23 rfl rfl ?_
      refine GO.callS (N := mX11_isDay) dX11_counts_24 gS_RX11_276 (t_X11_isDay r_p2) rfl [] rfl rfl (Nat.le_of_ble_eq_true rfl) rfl (k_ip fun X9 r10 h11 => ?_)
      refine GO.if_ne (tgt := 32) dX11_counts_27 (by decide) r10 (fun c12 => ?_) (fun c12 => ?_)
      ·
        refine GO.aload_n dX11_counts_32 rfl rfl ?_
        refine GO.getRaw h_x fl_RX11_19 hv5 dX11_counts_33 ?_
        refine GO.iload_n dX11_counts_36 rfl rfl ?_
        refine GO.aload dX11_counts_37 rfl ?_
        refine GO.iload_n dX11_counts_39 rfl rfl ?_
        refine GO.callV (ci := 1) (N := mX1_weigh) dX11_counts_40 (RX1, TX1, 13) rfl gV_RX11_279 h4 (t_X1_weigh h4 r_p1 h2 r_p2) rfl [] rfl rfl (Nat.le_of_ble_eq_true rfl) rfl (k_vs fun V17 h16 hF15 => ?_)
        refine GO.aload_n dX11_counts_43 rfl rfl ?_
        refine GO.getRaw h_x fl_RX11_19 (Eq.trans (hF15 _ _ _ h_x h_x (by decide +kernel)) hv5) dX11_counts_44 ?_
        refine GO.getB h4 fl_RX11_283 rfl rfl dX11_counts_47 (fun n22 hv21 h20 b23 => ?_)
        refine GO.iload_n dX11_counts_50 rfl rfl ?_
        refine GO.callS (N := mX4_get) dX11_counts_51 gS_RX11_253 (t_X4_get rfl h20 r_p0) rfl [] rfl rfl (Nat.le_of_ble_eq_true rfl) rfl (k_ip fun X24 r25 h26 => ?_)
        refine GO.callS (N := mJ6_bitCount_0f7a4) dX11_counts_54 gS_RX11_286 (t_J6_bitCount_0f7a4 r25) rfl [] rfl rfl (Nat.le_of_ble_eq_true rfl) rfl (k_ip fun X27 r28 h29 => ?_)
        have q30 : -2147483648 ≤ X27 ∧ X27 ≤ 2147483647 := r28
        exact GO.reti rfl rfl dX11_counts_57 ⟨rfl, _, rfl, r28, trivial⟩
      ·
        refine GO.iconst dX11_counts_30 ?_
        exact GO.reti rfl rfl dX11_counts_31 ⟨rfl, _, rfl, (ir_c rfl), trivial⟩

set_option maxHeartbeats 1000000 in
theorem t_X11_number {K : Kmap} {V : Vmap} {x : Nat} {p0 : Int} {p1 : Int} {p2 : Int} (h_x : K x = some (0, 10)) (r_p0 : ir p0) (r_p1 : ir p1) (r_p2 : ir p2) : MC mX11_number K V [.ref x, ti p0, ti p1, ti p2] (IS K (fun X V1 => True)) := by
  refine MC.start 2 (by decide +kernel) rfl rfl rfl (ls0 := [some (.ref x), some (ti p0), some (ti p1), some (ti p2), none, none]) rfl ?_
  refine GO.aload_n dX11_number_0 rfl rfl ?_
  refine GO.iload_n dX11_number_1 rfl rfl ?_
  refine GO.callV (ci := 10) (N := mX11_partyOf) dX11_number_2 (RX11, TX11, 20) rfl gV_RX11_151 h_x (t_X11_partyOf h_x r_p1) rfl [] rfl rfl (Nat.le_of_ble_eq_true rfl) rfl (k_rp (fun h3 => ?_) (fun o1 h2 h3 => ?_))
  ·
    refine GO.astoreN (ls1 := [some (.ref x), some (ti p0), some (ti p1), some (ti p2), some (.null), none]) dX11_number_5 rfl rfl ?_
    refine GO.iload_n dX11_number_7 rfl rfl ?_
    refine GO.bipush dX11_number_8 rfl ?_
    refine GO.bipush dX11_number_10 rfl ?_
    refine GO.callS (N := mX11_between) dX11_number_12 gS_RX11_112 (t_X11_between r_p0 (ir_c rfl) (ir_c rfl)) rfl [] rfl rfl (Nat.le_of_ble_eq_true rfl) rfl (k_ip fun X4 r5 h6 => ?_)
    refine GO.istore (ls1 := [some (.ref x), some (ti p0), some (ti p1), some (ti p2), some (.null), some (ti X4)]) dX11_number_15 rfl rfl ?_
    refine GO.aloadN dX11_number_17 rfl ?_
    refine GO.ifnullN (tgt := 43) dX11_number_19 (by decide) ?_
    refine GO.iconst dX11_number_43 ?_
    exact GO.reti rfl rfl dX11_number_44 ⟨rfl, _, rfl, (ir_c rfl), trivial⟩
  ·
    refine GO.astore (ls1 := [some (.ref x), some (ti p0), some (ti p1), some (ti p2), some (.ref o1), none]) dX11_number_5 rfl rfl ?_
    refine GO.iload_n dX11_number_7 rfl rfl ?_
    refine GO.bipush dX11_number_8 rfl ?_
    refine GO.bipush dX11_number_10 rfl ?_
    refine GO.callS (N := mX11_between) dX11_number_12 gS_RX11_112 (t_X11_between r_p0 (ir_c rfl) (ir_c rfl)) rfl [] rfl rfl (Nat.le_of_ble_eq_true rfl) rfl (k_ip fun X7 r8 h9 => ?_)
    refine GO.istore (ls1 := [some (.ref x), some (ti p0), some (ti p1), some (ti p2), some (.ref o1), some (ti X7)]) dX11_number_15 rfl rfl ?_
    refine GO.aload dX11_number_17 rfl ?_
    refine GO.ifnull dX11_number_19 ?_
    refine GO.iload_n dX11_number_22 rfl rfl ?_
    refine GO.callS (N := mX11_isDay) dX11_number_23 gS_RX11_276 (t_X11_isDay r_p2) rfl [] rfl rfl (Nat.le_of_ble_eq_true rfl) rfl (k_ip fun X10 r11 h12 => ?_)
    refine GO.if_eq (tgt := 43) dX11_number_26 (by decide) r11 (fun c13 => ?_) (fun c13 => ?_)
    ·
      refine GO.iconst dX11_number_43 ?_
      exact GO.reti rfl rfl dX11_number_44 ⟨rfl, _, rfl, (ir_c rfl), trivial⟩
    ·
      refine GO.iload_n dX11_number_29 rfl rfl ?_
      refine GO.iconst dX11_number_30 ?_
      refine GO.iconst dX11_number_31 ?_
      refine GO.callS (N := mX11_between) dX11_number_32 gS_RX11_112 (t_X11_between r_p0 (ir_c rfl) (ir_c rfl)) rfl [] rfl rfl (Nat.le_of_ble_eq_true rfl) rfl (k_ip fun X14 r15 h16 => ?_)
      have hj23 : ∀ (l24 : 0 ≤ p0), ∀ (u25 : p0 ≤ 25), GO mX11_number K V (IS K (fun X V1 => True)) K V 0 0 45 [some (.ref x), some (ti p0), some (ti p1), some (ti p2), some (.ref o1), some (ti X7)] [] := by
        intro l24 u25
        refine GO.aload_n dX11_number_45 rfl rfl ?_
        refine GO.getR h_x fl_RX11_19 rfl rfl dX11_number_46 (fun hv27 h26 => ?_)
        refine GO.iload_n dX11_number_49 rfl rfl ?_
        refine GO.aload dX11_number_50 rfl ?_
        refine GO.iload_n dX11_number_52 rfl rfl ?_
        refine GO.callV (ci := 1) (N := mX1_weigh) dX11_number_53 (RX1, TX1, 13) rfl gV_RX11_279 h26 (t_X1_weigh h26 r_p1 h2 r_p2) rfl [] rfl rfl (Nat.le_of_ble_eq_true rfl) rfl (k_vs fun V30 h29 hF28 => ?_)
        refine GO.iload dX11_number_56 rfl ?_
        refine GO.if_eq (tgt := 83) dX11_number_58 (by decide) r8 (fun c31 => ?_) (fun c31 => ?_)
        ·
          have q32 := h9.2.2 (by omega)
          refine GO.iload_n dX11_number_83 rfl rfl ?_
          have q33 : -2147483648 ≤ p0 ∧ p0 ≤ 2147483647 := r_p0
          rcases (show (p0 < 0 ∨ 2 < p0) ∨ p0 = 0 ∨ p0 = 1 ∨ p0 = 2 by omega) with c34 | c34 | c34 | c34
          ·
            refine GO.tableOut (tgt := 156) dX11_number_84 r_p0 c34 (by decide) ?_
            refine GO.aload_n dX11_number_156 rfl rfl ?_
            refine GO.getRaw h_x fl_RX11_19 (Eq.trans (hF28 _ _ _ h_x h_x (by decide +kernel)) hv27) dX11_number_157 ?_
            refine GO.bipush dX11_number_160 rfl ?_
            refine GO.iconst dX11_number_162 ?_
            refine GO.iconst dX11_number_163 ?_
            refine GO.callV (ci := 1) (N := mX1_numberOf) dX11_number_164 (RX1, TX1, 13) rfl gV_RX11_292 h26 (t_X1_numberOf h26 (ir_c rfl) (ir_c rfl) (ir_c rfl)) rfl [] rfl rfl (Nat.le_of_ble_eq_true rfl) rfl (k_ip fun X37 r38 h39 => ?_)
            refine GO.iconst dX11_number_167 ?_
            refine GO.icmp_ne (tgt := 175) dX11_number_168 (by decide) r38 (ir_c rfl) (fun c40 => ?_) (fun c40 => ?_)
            ·
              refine GO.iconst dX11_number_175 ?_
              exact GO.reti rfl rfl dX11_number_176 ⟨rfl, _, rfl, (ir_c rfl), trivial⟩
            ·
              refine GO.iconst dX11_number_171 ?_
              refine GO.goto (tgt := 176) dX11_number_172 (by decide) ?_
              exact GO.reti rfl rfl dX11_number_176 ⟨rfl, _, rfl, (ir_c rfl), trivial⟩
          ·
            refine GO.tableAt (n := 0) (tgt := 112) dX11_number_84 (ir_c rfl) c34 (by decide) (by decide) rfl (by decide) ?_
            refine GO.iconst dX11_number_112 ?_
            refine GO.aload_n dX11_number_113 rfl rfl ?_
            refine GO.getRaw h_x fl_RX11_19 (Eq.trans (hF28 _ _ _ h_x h_x (by decide +kernel)) hv27) dX11_number_114 ?_
            refine GO.bipush dX11_number_117 rfl ?_
            refine GO.iconst dX11_number_119 ?_
            refine GO.iconst dX11_number_120 ?_
            refine GO.callV (ci := 1) (N := mX1_numberOf) dX11_number_121 (RX1, TX1, 13) rfl gV_RX11_292 h26 (t_X1_numberOf h26 (ir_c rfl) (ir_c rfl) (ir_c rfl)) rfl [ti 0] rfl rfl (Nat.le_of_ble_eq_true rfl) rfl (k_ip fun X43 r44 h45 => ?_)
            refine GO.callS (N := mJ9_max_7cf53) dX11_number_124 gS_RX11_296 (t_J9_max_7cf53 (ir_c rfl) r44) rfl [] rfl rfl (Nat.le_of_ble_eq_true rfl) rfl (k_ip fun X46 r47 h48 => ?_)
            have q49 : -2147483648 ≤ X43 ∧ X43 ≤ 2147483647 := r44
            have q50 : -2147483648 ≤ X46 ∧ X46 ≤ 2147483647 := r47
            exact GO.reti rfl rfl dX11_number_127 ⟨rfl, _, rfl, r47, trivial⟩
          ·
            refine GO.tableAt (n := 1) (tgt := 128) dX11_number_84 (ir_c rfl) c34 (by decide) (by decide) rfl (by decide) ?_
            refine GO.aload_n dX11_number_128 rfl rfl ?_
            refine GO.getRaw h_x fl_RX11_19 (Eq.trans (hF28 _ _ _ h_x h_x (by decide +kernel)) hv27) dX11_number_129 ?_
            refine GO.bipush dX11_number_132 rfl ?_
            refine GO.iconst dX11_number_134 ?_
            refine GO.iconst dX11_number_135 ?_
            refine GO.callV (ci := 1) (N := mX1_numberOf) dX11_number_136 (RX1, TX1, 13) rfl gV_RX11_292 h26 (t_X1_numberOf h26 (ir_c rfl) (ir_c rfl) (ir_c rfl)) rfl [] rfl rfl (Nat.le_of_ble_eq_true rfl) rfl (k_ip fun X53 r54 h55 => ?_)
            have q56 : -2147483648 ≤ X53 ∧ X53 ≤ 2147483647 := r54
            exact GO.reti rfl rfl dX11_number_139 ⟨rfl, _, rfl, r54, trivial⟩
          ·
            refine GO.tableAt (n := 2) (tgt := 140) dX11_number_84 (ir_c rfl) c34 (by decide) (by decide) rfl (by decide) ?_
            refine GO.iconst dX11_number_140 ?_
            refine GO.aload_n dX11_number_141 rfl rfl ?_
            refine GO.getRaw h_x fl_RX11_19 (Eq.trans (hF28 _ _ _ h_x h_x (by decide +kernel)) hv27) dX11_number_142 ?_
            refine GO.bipush dX11_number_145 rfl ?_
            refine GO.iconst dX11_number_147 ?_
            refine GO.iconst dX11_number_148 ?_
            refine GO.callV (ci := 1) (N := mX1_numberOf) dX11_number_149 (RX1, TX1, 13) rfl gV_RX11_292 h26 (t_X1_numberOf h26 (ir_c rfl) (ir_c rfl) (ir_c rfl)) rfl [ti 0] rfl rfl (Nat.le_of_ble_eq_true rfl) rfl (k_ip fun X59 r60 h61 => ?_)
            refine GO.callS (N := mJ9_max_7cf53) dX11_number_152 gS_RX11_296 (t_J9_max_7cf53 (ir_c rfl) r60) rfl [] rfl rfl (Nat.le_of_ble_eq_true rfl) rfl (k_ip fun X62 r63 h64 => ?_)
            have q65 : -2147483648 ≤ X59 ∧ X59 ≤ 2147483647 := r60
            have q66 : -2147483648 ≤ X62 ∧ X62 ≤ 2147483647 := r63
            exact GO.reti rfl rfl dX11_number_155 ⟨rfl, _, rfl, r63, trivial⟩
        ·
          have q67 := h9.2.1 (by omega)
          refine GO.aload_n dX11_number_61 rfl rfl ?_
          refine GO.getRaw h_x fl_RX11_19 (Eq.trans (hF28 _ _ _ h_x h_x (by decide +kernel)) hv27) dX11_number_62 ?_
          refine GO.bipush dX11_number_65 rfl ?_
          refine GO.iload_n dX11_number_67 rfl rfl ?_
          refine GO.bipush dX11_number_68 rfl ?_
          refine GO.isub dX11_number_70 ?_
          refine GO.iconst dX11_number_71 ?_
          have q70 : -2147483648 ≤ p0 ∧ p0 ≤ 2147483647 := r_p0
          refine GO.idivP dX11_number_72 ⟨by omega, by omega⟩ (ir_c rfl) (by omega) (by omega) ?_
          refine GO.iload_n dX11_number_73 rfl rfl ?_
          refine GO.bipush dX11_number_74 rfl ?_
          refine GO.isub dX11_number_76 ?_
          refine GO.iconst dX11_number_77 ?_
          refine GO.iremP dX11_number_78 ⟨by omega, by omega⟩ (ir_c rfl) (by omega) (by omega) ?_
          refine GO.callV (ci := 1) (N := mX1_numberOf) dX11_number_79 (RX1, TX1, 13) rfl gV_RX11_292 h26 (t_X1_numberOf h26 (ir_c rfl) ⟨by omega, by omega⟩ ⟨by omega, by omega⟩) rfl [] rfl rfl (Nat.le_of_ble_eq_true rfl) rfl (k_ip fun X71 r72 h73 => ?_)
          have q74 : -2147483648 ≤ X71 ∧ X71 ≤ 2147483647 := r72
          exact GO.reti rfl rfl dX11_number_82 ⟨rfl, _, rfl, r72, trivial⟩
      refine GO.if_ne (tgt := 45) dX11_number_35 (by decide) r15 (fun c75 => ?_) (fun c75 => ?_)
      ·
        have q76 := h16.2.1 (by omega)
        have q77 : -2147483648 ≤ p0 ∧ p0 ≤ 2147483647 := r_p0
        exact hj23  (by omega) (by omega)
      ·
        have q78 := h16.2.2 (by omega)
        refine GO.iload dX11_number_38 rfl ?_
        refine GO.if_ne (tgt := 45) dX11_number_40 (by decide) r8 (fun c79 => ?_) (fun c79 => ?_)
        ·
          have q80 := h9.2.1 (by omega)
          have q81 : -2147483648 ≤ p0 ∧ p0 ≤ 2147483647 := r_p0
          exact hj23  (by omega) (by omega)
        ·
          have q82 := h9.2.2 (by omega)
          refine GO.iconst dX11_number_43 ?_
          exact GO.reti rfl rfl dX11_number_44 ⟨rfl, _, rfl, (ir_c rfl), trivial⟩
