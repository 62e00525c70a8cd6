def mX11_unload : MRec := (RX11, cX11_unload, 5, (none : Option Jvm.ClassFile.FieldType), yX11_unload, 3, 69, 0, 0, 3794275180128377091639574036764685364535950857523710002444949654546159859153240064)
def mX11_meetIce : MRec := (RX11, cX11_meetIce, 2, (none : Option Jvm.ClassFile.FieldType), yX11_meetIce, 4, 93, 0, 0, 3794275180128377091639574036764685364535950857523710002444963969219561057765294080)
def mX11_comeHome : MRec := (RX11, cX11_comeHome, 2, (none : Option Jvm.ClassFile.FieldType), yX11_comeHome, 1, 22, 0, 0, 7588550360256754183279148073529370729071901715047420004889895914891409605993168896)
def mX11_passShip : MRec := (RX11, cX11_passShip, 2, (none : Option Jvm.ClassFile.FieldType), yX11_passShip, 5, 114, 0, 0, 11382825540385131274918722110294056093607852572571130007334856194762155921848139776)
def mX8_get_k27 : MRec := (RX8, cX8_get, 5, (some .int), yX8_get, 0, 0, 0, 0, 0)
def mX11_passSledge : MRec := (RX11, cX11_passSledge, 4, (none : Option Jvm.ClassFile.FieldType), yX11_passSledge, 3, 66, 0, 0, 2707685248164858261307045101702230179137145589010246234446675648723114194433302001571876721008493811625625829997090814574985216)
def mX11_passShip_n : MRec := (RX11, cX11_passShip, 2, (none : Option Jvm.ClassFile.FieldType), yX11_passShip, 0, 0, 0, 0, 0)
def mX11_day : MRec := (RX11, cX11_day, 2, (some .int), yX11_day, 7, 175, 0, 0, 13539045980795032164596742929112431618535567047881583924977817960384122470242996497994438717261286281520709074119879490440527873)
def mX11_sound : MRec := (RX11, cX11_sound, 5, (some .boolean), yX11_sound, 3, 73, 0, 0, 40131652080904949243476790488282231640246122763238325954424140190648896440865526195785026639619810363502319100491144716629504315406428504948246801194450135957054982084640921181024257015111651255738366427136)
def mX11_sure : MRec := (RX11, cX11_sure, 3, (some .int), yX11_sure, 2, 48, 0, 0, 0)
def mX8_isFull_k29 : MRec := (RX8, cX8_isFull, 1, (some .boolean), yX8_isFull, 0, 0, 0, 0, 0)
def mX8_append_k29 : MRec := (RX8, cX8_append, 7, (some .int), yX8_append, 1, 25, 0, 0, 38272525864510487788655081260950309410329935801733327822136058989190002872678789786522025301547572669963237823776112959608485250695053631971510744383637413717184212385591140385319216930056100865114112)
set_option maxHeartbeats 1000000 in
theorem t_X11_unload {K : Kmap} {V : Vmap} {x : Nat} {p0 : Nat} (h_x : K x = some (0, 10)) (h_p0 : K p0 = some (0, 6)) : MC mX11_unload K V [.ref x, .ref p0] (VS K (fun V1 => (True))) := by
  refine MC.start 3 (by decide +kernel) rfl rfl rfl (ls0 := [some (.ref x), some (.ref p0), none, none, none]) rfl ?_
  refine GO.aload_n dX11_unload_0 rfl rfl ?_
  refine GO.aload_n dX11_unload_1 rfl rfl ?_
  refine GO.getI h_p0 fl_RX11_549 rfl rfl dX11_unload_2 (fun _ _ => ?_)
  refine GO.callV (ci := 10) (N := mX11_standingStation) dX11_unload_5 (RX11, TX11, 20) rfl gV_RX11_195 h_x (t_X11_standingStation h_x vi_ir) rfl [] rfl rfl (Nat.le_of_ble_eq_true rfl) rfl (k_rp (fun h3 => ?_) (fun o1 h2 h3 => ?_))
  ·
    have rwn5 := h3.2
    have hn4 : NN 6 5 V x → ¬ STN V x (vi V p0 5) := h3.2
    refine GO.astore_nN (ls1 := [some (.ref x), some (.ref p0), some (.null), none, none]) dX11_unload_8 rfl rfl rfl ?_
    refine GO.aload_nN dX11_unload_9 rfl rfl ?_
    refine GO.ifnullN (tgt := 27) dX11_unload_10 (by decide) ?_
    exact GO.retv rfl rfl dX11_unload_27 ⟨rfl, rfl, trivial⟩
  ·
    have hp5 : (vi V p0 5) ≥ 0 ∧ (vi V p0 5) < vi V x 6 := h3.1
    have rwp5 := h3.2
    have hq6 : o1 = plO V x ((vi V p0 5)).toNat ∧ STN V x (vi V p0 5) := h3.2
    refine GO.astore_n (ls1 := [some (.ref x), some (.ref p0), some (.ref o1), none, none]) dX11_unload_8 rfl rfl rfl ?_
    refine GO.aload_n dX11_unload_9 rfl rfl ?_
    refine GO.ifnull dX11_unload_10 ?_
    refine GO.aload_n dX11_unload_13 rfl rfl ?_
    refine GO.getR h_x fl_RX11_12 rfl rfl dX11_unload_14 (fun hv8 h7 => ?_)
    refine GO.aload_n dX11_unload_17 rfl rfl ?_
    refine GO.getI h2 fl_RX11_344 rfl rfl dX11_unload_18 (fun _ _ => ?_)
    refine GO.callV (ci := 0) (N := mX0_isNearSea) dX11_unload_21 (RX0, TX0, 13) rfl gV_RX11_413 h7 (t_X0_isNearSea h7 vi_ir) rfl [] rfl rfl (Nat.le_of_ble_eq_true rfl) rfl (k_ip fun X9 r10 h11 => ?_)
    refine GO.if_ne (tgt := 28) dX11_unload_24 (by decide) r10 (fun c12 => ?_) (fun c12 => ?_)
    ·
      refine GO.aload_n dX11_unload_28 rfl rfl ?_
      refine GO.dup dX11_unload_29 rfl ?_
      refine GO.getI h2 fl_RX11_186 rfl rfl dX11_unload_30 (fun _ _ => ?_)
      refine GO.aload_n dX11_unload_33 rfl rfl ?_
      refine GO.getI h_p0 fl_RX11_552 rfl rfl dX11_unload_34 (fun _ _ => ?_)
      refine GO.iadd dX11_unload_37 ?_
      refine GO.norm (fun z13 r14 hn15 => ?_)
      refine GO.putI h2 fp_RX11_186 rfl (by decide +kernel) r14 (r14).1 (r14).2 dX11_unload_38 (fun V17 e16 => ?_)
      refine GO.aload_n dX11_unload_41 rfl rfl ?_
      refine GO.iconst dX11_unload_42 ?_
      refine GO.putI h_p0 fp_RX11_552 rfl (by decide +kernel) (ir_c rfl) (by decide) (by decide) dX11_unload_43 (fun V19 e18 => ?_)
      refine GO.iconst dX11_unload_46 ?_
      refine GO.istore_n (ls1 := [some (.ref x), some (.ref p0), some (.ref o1), some (ti 3), none]) dX11_unload_47 rfl rfl rfl ?_
      refine GO.loop1 (fun i20 W => (-1) ≤ i20 ∧ i20 ≤ 3 ∧ True) (fun i20 => [some (.ref x), some (.ref p0), some (.ref o1), some (ti i20), none]) (fun i20 W => (i20 + 2147483648).toNat) 3 ⟨by omega, by omega, trivial⟩ rfl (fun i20 Wi20 hp277 ih276 => ?_)
      obtain ⟨l_i20, u_i20, -⟩ := hp277
      have r_i20 : ir i20 := ⟨by omega, by omega⟩
      show GO mX11_unload K V (VS K (fun V1 => (True))) K Wi20 0 0 48 [some (.ref x), some (.ref p0), some (.ref o1), some (ti i20), none] []
      refine GO.iload_n dX11_unload_48 rfl rfl ?_
      refine GO.if_lt (tgt := 102) dX11_unload_49 (by decide) r_i20 (fun c278 => ?_) (fun c278 => ?_)
      ·
        exact GO.retv rfl rfl dX11_unload_102 ⟨rfl, rfl, trivial⟩
      ·
        refine GO.aload_n dX11_unload_52 rfl rfl ?_
        refine GO.getI h_p0 fl_RX11_407 rfl rfl dX11_unload_53 (fun _ _ => ?_)
        refine GO.aload_n dX11_unload_56 rfl rfl ?_
        refine GO.getI h_p0 fl_RX11_553 rfl rfl dX11_unload_57 (fun _ _ => ?_)
        refine GO.isub dX11_unload_60 ?_
        refine GO.norm (fun z279 r280 hn281 => ?_)
        refine GO.aload_n dX11_unload_61 rfl rfl ?_
        refine GO.getNB h2 fl_RX11_491 rfl rfl dX11_unload_62 (fun hv283 => ?_) (fun n284 hv283 h282 b285 => ?_)
        ·
          refine GO.iload_n dX11_unload_65 rfl rfl ?_
          refine GO.callS (N := mX4_get_n) dX11_unload_66 gS_RX11_253 (t_X4_get_n r_i20) rfl [ti z279] rfl rfl (Nat.le_of_ble_eq_true rfl) rfl (k_ip fun X286 r287 h288 => ?_)
          refine GO.callS (N := mJ9_min_7cf53) dX11_unload_69 gS_RX11_479 (t_J9_min_7cf53 r280 r287) rfl [] rfl rfl (Nat.le_of_ble_eq_true rfl) rfl (k_ip fun X289 r290 h291 => ?_)
          have q292 : -2147483648 ≤ X286 ∧ X286 ≤ 2147483647 := r287
          have q293 : -2147483648 ≤ X289 ∧ X289 ≤ 2147483647 := r290
          have q294 : -2147483648 ≤ z279 ∧ z279 ≤ 2147483647 := r280
          refine GO.istore (ls1 := [some (.ref x), some (.ref p0), some (.ref o1), some (ti i20), some (ti X289)]) dX11_unload_72 rfl rfl ?_
          refine GO.aload_n dX11_unload_74 rfl rfl ?_
          refine GO.getRaw h2 fl_RX11_491 hv283 dX11_unload_75 ?_
          refine GO.iload_n dX11_unload_78 rfl rfl ?_
          refine GO.iload dX11_unload_79 rfl ?_
          refine GO.ineg dX11_unload_81 ?_
          refine GO.norm (fun z297 r298 hn299 => ?_)
          refine GO.callS (N := mX4_add_n) dX11_unload_82 gS_RX11_476 (t_X4_add_n r_i20 r298) rfl [] rfl rfl (Nat.le_of_ble_eq_true rfl) rfl (k_vs fun V302 h301 hF300 => ?_)
          refine GO.aload_n dX11_unload_85 rfl rfl ?_
          refine GO.dup dX11_unload_86 rfl ?_
          refine GO.getI h_p0 fl_RX11_553 rfl rfl dX11_unload_87 (fun _ _ => ?_)
          refine GO.iload dX11_unload_90 rfl ?_
          refine GO.iadd dX11_unload_92 ?_
          refine GO.norm (fun z303 r304 hn305 => ?_)
          refine GO.putI h_p0 fp_RX11_553 rfl (by decide +kernel) r304 (r304).1 (r304).2 dX11_unload_93 (fun V307 e306 => ?_)
          refine GO.iinc (X := i20) (n := (-1)) (Y := i20 + (-1)) (ls1 := [some (.ref x), some (.ref p0), some (.ref o1), some (ti (i20 + (-1))), some (ti X289)]) dX11_unload_96 rfl rfl rfl rfl ?_
          refine GO.goto (tgt := 48) dX11_unload_99 (by decide) ?_
          refine GO.drop [true, true, true, true, false] rfl ?_
          exact ih276 (i20 + (-1)) V307 ⟨by omega, by omega, trivial⟩ (by show ((i20 + (-1)) + 2147483648).toNat < (i20 + 2147483648).toNat; omega)
        ·
          refine GO.iload_n dX11_unload_65 rfl rfl ?_
          refine GO.callS (N := mX4_get) dX11_unload_66 gS_RX11_253 (t_X4_get rfl h282 r_i20) rfl [ti z279] rfl rfl (Nat.le_of_ble_eq_true rfl) rfl (k_ip fun X308 r309 h310 => ?_)
          have raw_get := h310.2
          have rw66 := h310.2
          refine GO.callS (N := mJ9_min_7cf53) dX11_unload_69 gS_RX11_479 (t_J9_min_7cf53 r280 r309) rfl [] rfl rfl (Nat.le_of_ble_eq_true rfl) rfl (k_ip fun X311 r312 h313 => ?_)
          have q314 : -2147483648 ≤ X311 ∧ X311 ≤ 2147483647 := r312
          have q315 : -2147483648 ≤ z279 ∧ z279 ≤ 2147483647 := r280
          refine GO.istore (ls1 := [some (.ref x), some (.ref p0), some (.ref o1), some (ti i20), some (ti X311)]) dX11_unload_72 rfl rfl ?_
          refine GO.aload_n dX11_unload_74 rfl rfl ?_
          refine GO.getRaw h2 fl_RX11_491 hv283 dX11_unload_75 ?_
          refine GO.iload_n dX11_unload_78 rfl rfl ?_
          refine GO.iload dX11_unload_79 rfl ?_
          refine GO.ineg dX11_unload_81 ?_
          refine GO.norm (fun z318 r319 hn320 => ?_)
          refine GO.callS (N := mX4_add) dX11_unload_82 gS_RX11_476 (t_X4_add h282 r_i20 r319) rfl [] rfl rfl (Nat.le_of_ble_eq_true rfl) rfl (k_vs fun V323 h322 hF321 => ?_)
          refine GO.aload_n dX11_unload_85 rfl rfl ?_
          refine GO.dup dX11_unload_86 rfl ?_
          refine GO.getI h_p0 fl_RX11_553 rfl rfl dX11_unload_87 (fun _ _ => ?_)
          refine GO.iload dX11_unload_90 rfl ?_
          refine GO.iadd dX11_unload_92 ?_
          refine GO.norm (fun z324 r325 hn326 => ?_)
          refine GO.putI h_p0 fp_RX11_553 rfl (by decide +kernel) r325 (r325).1 (r325).2 dX11_unload_93 (fun V328 e327 => ?_)
          refine GO.iinc (X := i20) (n := (-1)) (Y := i20 + (-1)) (ls1 := [some (.ref x), some (.ref p0), some (.ref o1), some (ti (i20 + (-1))), some (ti X311)]) dX11_unload_96 rfl rfl rfl rfl ?_
          refine GO.goto (tgt := 48) dX11_unload_99 (by decide) ?_
          refine GO.drop [true, true, true, true, false] rfl ?_
          exact ih276 (i20 + (-1)) V328 ⟨by omega, by omega, trivial⟩ (by show ((i20 + (-1)) + 2147483648).toNat < (i20 + 2147483648).toNat; omega)
    ·
      exact GO.retv rfl rfl dX11_unload_27 ⟨rfl, rfl, trivial⟩

set_option maxHeartbeats 1000000 in
theorem t_X11_meetIce {K : Kmap} {V : Vmap} {x : Nat} {p0 : Nat} (h_x : K x = some (0, 10)) (h_p0 : K p0 = some (0, 6)) : MC mX11_meetIce K V [.ref x, .ref p0] (VS K (fun V1 => (True))) := by
  refine MC.start 0 (by decide +kernel) rfl rfl rfl (ls0 := [some (.ref x), some (.ref p0)]) rfl ?_
  refine GO.aload_n dX11_meetIce_0 rfl rfl ?_
  refine GO.getR h_x fl_RX11_12 rfl rfl dX11_meetIce_1 (fun hv2 h1 => ?_)
  refine GO.aload_n dX11_meetIce_4 rfl rfl ?_
  refine GO.getI h_p0 fl_RX11_531 rfl rfl dX11_meetIce_5 (fun _ _ => ?_)
  refine GO.aload_n dX11_meetIce_8 rfl rfl ?_
  refine GO.getRaw h_x fl_RX11_12 hv2 dX11_meetIce_9 ?_
  refine GO.getI h1 fl_RX11_145 rfl rfl dX11_meetIce_12 (fun l5 u6 => ?_)
  refine GO.callV (ci := 0) (N := mX0_coverOn) dX11_meetIce_15 (RX0, TX0, 13) rfl gV_RX11_534 h1 (t_X0_coverOn h1 vi_ir vi_ir) rfl [] rfl rfl (Nat.le_of_ble_eq_true rfl) rfl (k_ip fun X7 r8 h9 => ?_)
  refine GO.aload_n dX11_meetIce_18 rfl rfl ?_
  refine GO.getI h_p0 fl_RX11_537 rfl rfl dX11_meetIce_19 (fun _ _ => ?_)
  refine GO.icmp_gt (tgt := 42) dX11_meetIce_22 (by decide) r8 vi_ir (fun c10 => ?_) (fun c10 => ?_)
  ·
    refine GO.aload_n dX11_meetIce_42 rfl rfl ?_
    refine GO.iconst dX11_meetIce_43 ?_
    refine GO.putI h_p0 fp_RX11_410 rfl (by decide +kernel) (ir_c rfl) (by decide) (by decide) dX11_meetIce_44 (fun V12 e11 => ?_)
    refine GO.aload_n dX11_meetIce_47 rfl rfl ?_
    refine GO.dup dX11_meetIce_48 rfl ?_
    refine GO.getI h_p0 fl_RX11_546 rfl rfl dX11_meetIce_49 (fun _ _ => ?_)
    refine GO.iconst dX11_meetIce_52 ?_
    refine GO.iadd dX11_meetIce_53 ?_
    refine GO.norm (fun z13 r14 hn15 => ?_)
    refine GO.putI h_p0 fp_RX11_546 rfl (by decide +kernel) r14 (r14).1 (r14).2 dX11_meetIce_54 (fun V17 e16 => ?_)
    refine GO.aload_n dX11_meetIce_57 rfl rfl ?_
    refine GO.getI h_p0 fl_RX11_546 rfl rfl dX11_meetIce_58 (fun _ _ => ?_)
    refine GO.bipush dX11_meetIce_61 rfl ?_
    refine GO.icmp_lt (tgt := 77) dX11_meetIce_63 (by decide) vi_ir (ir_c rfl) (fun c18 => ?_) (fun c18 => ?_)
    ·
      exact GO.retv rfl rfl dX11_meetIce_77 ⟨rfl, rfl, trivial⟩
    ·
      refine GO.aload_n dX11_meetIce_66 rfl rfl ?_
      refine GO.aload_n dX11_meetIce_67 rfl rfl ?_
      refine GO.getRaw h_x fl_RX11_12 (Eq.trans (uq_ne e16 (Or.inl (K_ne h_x h_p0 (by decide)))) (Eq.trans (uq_ne e11 (Or.inl (K_ne h_x h_p0 (by decide)))) hv2)) dX11_meetIce_68 ?_
      refine GO.getI h1 fl_RX11_145 rfl rfl dX11_meetIce_71 (fun l21 u22 => ?_)
      refine GO.callV (ci := 6) (N := mX7_turnBack) dX11_meetIce_74 (RX7, TX7, 11) rfl gV_RX11_543 h_p0 (t_X7_turnBack h_p0 vi_ir) rfl [] rfl rfl (Nat.le_of_ble_eq_true rfl) rfl (k_vs fun V25 h24 hF23 => ?_)
      exact GO.retv rfl rfl dX11_meetIce_77 ⟨rfl, rfl, trivial⟩
  ·
    refine GO.aload_n dX11_meetIce_25 rfl rfl ?_
    refine GO.aload_n dX11_meetIce_26 rfl rfl ?_
    refine GO.callV (ci := 10) (N := mX11_unload) dX11_meetIce_27 (RX11, TX11, 20) rfl gV_RX11_540 h_x (t_X11_unload h_x h_p0) rfl [] rfl rfl (Nat.le_of_ble_eq_true rfl) rfl (k_vs fun V28 h27 hF26 => ?_)
    refine GO.aload_n dX11_meetIce_30 rfl rfl ?_
    refine GO.aload_n dX11_meetIce_31 rfl rfl ?_
    refine GO.getRaw h_x fl_RX11_12 (Eq.trans (hF26 _ _ _ h_x h_x (by decide +kernel)) hv2) dX11_meetIce_32 ?_
    refine GO.getI h1 fl_RX11_145 rfl rfl dX11_meetIce_35 (fun l31 u32 => ?_)
    refine GO.callV (ci := 6) (N := mX7_turnBack) dX11_meetIce_38 (RX7, TX7, 11) rfl gV_RX11_543 h_p0 (t_X7_turnBack h_p0 vi_ir) rfl [] rfl rfl (Nat.le_of_ble_eq_true rfl) rfl (k_vs fun V35 h34 hF33 => ?_)
    exact GO.retv rfl rfl dX11_meetIce_41 ⟨rfl, rfl, trivial⟩

set_option maxHeartbeats 1000000 in
theorem t_X11_comeHome {K : Kmap} {V : Vmap} {x : Nat} {p0 : Nat} (h_x : K x = some (0, 10)) (h_p0 : K p0 = some (0, 6)) : MC mX11_comeHome K V [.ref x, .ref p0] (VS K (fun V1 => (True))) := by
  refine MC.start 0 (by decide +kernel) rfl rfl rfl (ls0 := [some (.ref x), some (.ref p0)]) rfl ?_
  refine GO.aload_n dX11_comeHome_0 rfl rfl ?_
  refine GO.iconst dX11_comeHome_1 ?_
  refine GO.aload_n dX11_comeHome_2 rfl rfl ?_
  refine GO.getI h_p0 fl_RX11_552 rfl rfl dX11_comeHome_3 (fun _ _ => ?_)
  refine GO.callV (ci := 10) (N := mX11_tally) dX11_comeHome_6 (RX11, TX11, 20) rfl gV_RX11_192 h_x (t_X11_tally h_x (ir_c rfl) vi_ir) rfl [] rfl rfl (Nat.le_of_ble_eq_true rfl) rfl (k_vs fun V3 h2 hF1 => ?_)
  refine GO.aload_n dX11_comeHome_9 rfl rfl ?_
  refine GO.bipush dX11_comeHome_10 rfl ?_
  refine GO.aload_n dX11_comeHome_12 rfl rfl ?_
  refine GO.getI h_p0 fl_RX11_553 rfl rfl dX11_comeHome_13 (fun _ _ => ?_)
  refine GO.callV (ci := 10) (N := mX11_tally) dX11_comeHome_16 (RX11, TX11, 20) rfl gV_RX11_192 h_x (t_X11_tally h_x (ir_c rfl) vi_ir) rfl [] rfl rfl (Nat.le_of_ble_eq_true rfl) rfl (k_vs fun V6 h5 hF4 => ?_)
  refine GO.aload_n dX11_comeHome_19 rfl rfl ?_
  refine GO.iconst dX11_comeHome_20 ?_
  refine GO.putI h_p0 fp_RX11_552 rfl (by decide +kernel) (ir_c rfl) (by decide) (by decide) dX11_comeHome_21 (fun V8 e7 => ?_)
  refine GO.aload_n dX11_comeHome_24 rfl rfl ?_
  refine GO.iconst dX11_comeHome_25 ?_
  refine GO.putI h_p0 fp_RX11_553 rfl (by decide +kernel) (ir_c rfl) (by decide) (by decide) dX11_comeHome_26 (fun V10 e9 => ?_)
  refine GO.aload_n dX11_comeHome_29 rfl rfl ?_
  refine GO.iconst dX11_comeHome_30 ?_
  refine GO.putI h_p0 fp_RX11_410 rfl (by decide +kernel) (ir_c rfl) (by decide) (by decide) dX11_comeHome_31 (fun V12 e11 => ?_)
  exact GO.retv rfl rfl dX11_comeHome_34 ⟨rfl, rfl, trivial⟩

set_option maxHeartbeats 1000000 in
theorem t_X11_passShip {K : Kmap} {V : Vmap} {x : Nat} {p0 : Nat} (h_x : K x = some (0, 10)) (h_p0 : K p0 = some (0, 6)) : MC mX11_passShip K V [.ref x, .ref p0] (VS K (fun V1 => (True))) := by
  refine MC.start 0 (by decide +kernel) rfl rfl rfl (ls0 := [some (.ref x), some (.ref p0)]) rfl ?_
  refine GO.aload_n dX11_passShip_0 rfl rfl ?_
  refine GO.ifnonnull (tgt := 5) dX11_passShip_1 (by decide) ?_
  refine GO.aload_n dX11_passShip_5 rfl rfl ?_
  refine GO.getI h_p0 fl_RX11_410 rfl rfl dX11_passShip_6 (fun _ _ => ?_)
  refine GO.iconst dX11_passShip_9 ?_
  refine GO.icmp_eq (tgt := 35) dX11_passShip_10 (by decide) vi_ir (ir_c rfl) (fun c1 => ?_) (fun c1 => ?_)
  ·
    refine GO.aload_n dX11_passShip_35 rfl rfl ?_
    refine GO.aload_n dX11_passShip_36 rfl rfl ?_
    refine GO.callV (ci := 10) (N := mX11_meetIce) dX11_passShip_37 (RX11, TX11, 20) rfl gV_RX11_525 h_x (t_X11_meetIce h_x h_p0) rfl [] rfl rfl (Nat.le_of_ble_eq_true rfl) rfl (k_vs fun V4 h3 hF2 => ?_)
    refine GO.goto (tgt := 70) dX11_passShip_40 (by decide) ?_
    exact GO.retv rfl rfl dX11_passShip_70 ⟨rfl, rfl, trivial⟩
  ·
    refine GO.aload_n dX11_passShip_13 rfl rfl ?_
    refine GO.getI h_p0 fl_RX11_410 rfl rfl dX11_passShip_14 (fun _ _ => ?_)
    refine GO.iconst dX11_passShip_17 ?_
    have hj14 : GO mX11_passShip K V (VS K (fun V1 => (True))) K V 0 0 43 [some (.ref x), some (.ref p0)] [] := by
      skip
      refine GO.aload_n dX11_passShip_43 rfl rfl ?_
      refine GO.getI h_p0 fl_RX11_410 rfl rfl dX11_passShip_44 (fun _ _ => ?_)
      refine GO.iconst dX11_passShip_47 ?_
      refine GO.icmp_ne (tgt := 70) dX11_passShip_48 (by decide) vi_ir (ir_c rfl) (fun c15 => ?_) (fun c15 => ?_)
      ·
        exact GO.retv rfl rfl dX11_passShip_70 ⟨rfl, rfl, trivial⟩
      ·
        refine GO.aload_n dX11_passShip_51 rfl rfl ?_
        refine GO.getI h_p0 fl_RX11_522 rfl rfl dX11_passShip_52 (fun _ _ => ?_)
        refine GO.aload_n dX11_passShip_55 rfl rfl ?_
        refine GO.getR h_x fl_RX11_12 rfl rfl dX11_passShip_56 (fun hv17 h16 => ?_)
        refine GO.getI h16 fl_RX11_145 rfl rfl dX11_passShip_59 (fun l18 u19 => ?_)
        refine GO.icmp_ne (tgt := 70) dX11_passShip_62 (by decide) vi_ir vi_ir (fun c20 => ?_) (fun c20 => ?_)
        ·
          exact GO.retv rfl rfl dX11_passShip_70 ⟨rfl, rfl, trivial⟩
        ·
          refine GO.aload_n dX11_passShip_65 rfl rfl ?_
          refine GO.aload_n dX11_passShip_66 rfl rfl ?_
          refine GO.callV (ci := 10) (N := mX11_comeHome) dX11_passShip_67 (RX11, TX11, 20) rfl gV_RX11_528 h_x (t_X11_comeHome h_x h_p0) rfl [] rfl rfl (Nat.le_of_ble_eq_true rfl) rfl (k_vs fun V23 h22 hF21 => ?_)
          exact GO.retv rfl rfl dX11_passShip_70 ⟨rfl, rfl, trivial⟩
    refine GO.icmp_ne (tgt := 43) dX11_passShip_18 (by decide) vi_ir (ir_c rfl) (fun c24 => ?_) (fun c24 => ?_)
    ·
      exact hj14 
    ·
      refine GO.aload_n dX11_passShip_21 rfl rfl ?_
      refine GO.getI h_p0 fl_RX11_522 rfl rfl dX11_passShip_22 (fun _ _ => ?_)
      refine GO.aload_n dX11_passShip_25 rfl rfl ?_
      refine GO.getR h_x fl_RX11_12 rfl rfl dX11_passShip_26 (fun hv26 h25 => ?_)
      refine GO.getI h25 fl_RX11_145 rfl rfl dX11_passShip_29 (fun l27 u28 => ?_)
      refine GO.icmp_ne (tgt := 43) dX11_passShip_32 (by decide) vi_ir vi_ir (fun c29 => ?_) (fun c29 => ?_)
      ·
        exact hj14 
      ·
        refine GO.aload_n dX11_passShip_35 rfl rfl ?_
        refine GO.aload_n dX11_passShip_36 rfl rfl ?_
        refine GO.callV (ci := 10) (N := mX11_meetIce) dX11_passShip_37 (RX11, TX11, 20) rfl gV_RX11_525 h_x (t_X11_meetIce h_x h_p0) rfl [] rfl rfl (Nat.le_of_ble_eq_true rfl) rfl (k_vs fun V32 h31 hF30 => ?_)
        refine GO.goto (tgt := 70) dX11_passShip_40 (by decide) ?_
        exact GO.retv rfl rfl dX11_passShip_70 ⟨rfl, rfl, trivial⟩

set_option maxHeartbeats 1000000 in
theorem t_X8_get_k27 {K : Kmap} {V : Vmap} {x : Nat} {p0 : Int} {p1 : Int} (h_x : K x = some (0, 27)) (r_p0 : ir p0) (r_p1 : ir p1) : MC mX8_get_k27 K V [.ref x, ti p0, ti p1] (IP K V (fun X => True)) := by
  refine MC.start 2 (by decide +kernel) rfl rfl rfl (ls0 := [some (.ref x), some (ti p0), some (ti p1), none, none]) rfl ?_
  refine GO.iload_n dX8_get_0 rfl rfl ?_
  refine GO.aload_n dX8_get_1 rfl rfl ?_
  refine GO.getI h_x fl_RX8_15_k27 rfl rfl dX8_get_2 (fun l1 u2 => ?_)
  refine GO.imul dX8_get_5 ?_
  refine GO.norm (fun z3 r4 hn5 => ?_)
  refine GO.iload_n dX8_get_6 rfl rfl ?_
  refine GO.iadd dX8_get_7 ?_
  refine GO.norm (fun z6 r7 hn8 => ?_)
  refine GO.istore_n (ls1 := [some (.ref x), some (ti p0), some (ti p1), some (ti z6), none]) dX8_get_8 rfl rfl rfl ?_
  refine GO.iload_n dX8_get_9 rfl rfl ?_
  have hj18 : ∀ (z17 : Int), ∀ (l19 : 0 ≤ z17), ∀ (u20 : z17 ≤ 1), GO mX8_get_k27 K V (IP K V (fun X => True)) K V 0 0 38 [some (.ref x), some (ti p0), some (ti p1), some (ti z6), none] [ti z17] := by
    intro z17 l19 u20
    have r21 : ir z17 := ⟨by omega, by omega⟩
    refine GO.istore (ls1 := [some (.ref x), some (ti p0), some (ti p1), some (ti z6), some (ti z17)]) dX8_get_38 rfl rfl ?_
    refine GO.iload dX8_get_40 rfl ?_
    refine GO.if_eq (tgt := 67) dX8_get_42 (by decide) r21 (fun c22 => ?_) (fun c22 => ?_)
    ·
      refine GO.iconst dX8_get_67 ?_
      exact GO.reti rfl rfl dX8_get_68 ⟨rfl, rfl, _, rfl, (ir_c rfl), trivial⟩
    ·
      refine GO.iload_n dX8_get_45 rfl rfl ?_
      refine GO.if_lt (tgt := 67) dX8_get_46 (by decide) r7 (fun c23 => ?_) (fun c23 => ?_)
      ·
        refine GO.iconst dX8_get_67 ?_
        exact GO.reti rfl rfl dX8_get_68 ⟨rfl, rfl, _, rfl, (ir_c rfl), trivial⟩
      ·
        refine GO.iload_n dX8_get_49 rfl rfl ?_
        refine GO.aload_n dX8_get_50 rfl rfl ?_
        refine GO.getA (n := 200) h_x fl_RX8_27_k27 rfl rfl rfl rfl dX8_get_51 (fun hv25 h24 => ?_)
        refine GO.alen h24 dX8_get_54 (fun h26 => ?_)
        refine GO.icmp_ge (tgt := 67) dX8_get_55 (by decide) r7 ⟨by omega, by omega⟩ (fun c27 => ?_) (fun c27 => ?_)
        ·
          refine GO.iconst dX8_get_67 ?_
          exact GO.reti rfl rfl dX8_get_68 ⟨rfl, rfl, _, rfl, (ir_c rfl), trivial⟩
        ·
          refine GO.aload_n dX8_get_58 rfl rfl ?_
          refine GO.getRaw h_x fl_RX8_27_k27 hv25 dX8_get_59 ?_
          refine GO.iload_n dX8_get_62 rfl rfl ?_
          have q30 : -2147483648 ≤ z6 ∧ z6 ≤ 2147483647 := r7
          refine GO.iald (t := 149) rfl rfl h24 r7 (by omega) (by omega) dX8_get_63 (fun _ _ => ?_)
          refine GO.goto (tgt := 68) dX8_get_64 (by decide) ?_
          have q31 : -2147483648 ≤ vi V (vq V x 2) (z6).toNat ∧ vi V (vq V x 2) (z6).toNat ≤ 2147483647 := vi_ir
          exact GO.reti rfl rfl dX8_get_68 ⟨rfl, rfl, _, rfl, vi_ir, trivial⟩
  have hj40 : GO mX8_get_k27 K V (IP K V (fun X => True)) K V 0 0 37 [some (.ref x), some (ti p0), some (ti p1), some (ti z6), none] [] := by
    skip
    refine GO.iconst dX8_get_37 ?_
    exact hj18 0 (by omega) (by omega)
  refine GO.if_lt (tgt := 37) dX8_get_10 (by decide) r_p0 (fun c41 => ?_) (fun c41 => ?_)
  ·
    exact hj40 
  ·
    refine GO.iload_n dX8_get_13 rfl rfl ?_
    refine GO.aload_n dX8_get_14 rfl rfl ?_
    refine GO.getI h_x fl_RX8_9_k27 rfl rfl dX8_get_15 (fun l42 u43 => ?_)
    refine GO.icmp_ge (tgt := 37) dX8_get_18 (by decide) r_p0 vi_ir (fun c44 => ?_) (fun c44 => ?_)
    ·
      exact hj40 
    ·
      refine GO.iload_n dX8_get_21 rfl rfl ?_
      refine GO.if_lt (tgt := 37) dX8_get_22 (by decide) r_p1 (fun c45 => ?_) (fun c45 => ?_)
      ·
        exact hj40 
      ·
        refine GO.iload_n dX8_get_25 rfl rfl ?_
        refine GO.aload_n dX8_get_26 rfl rfl ?_
        refine GO.getI h_x fl_RX8_15_k27 rfl rfl dX8_get_27 (fun l46 u47 => ?_)
        refine GO.icmp_ge (tgt := 37) dX8_get_30 (by decide) r_p1 vi_ir (fun c48 => ?_) (fun c48 => ?_)
        ·
          exact hj40 
        ·
          refine GO.iconst dX8_get_33 ?_
          refine GO.goto (tgt := 38) dX8_get_34 (by decide) ?_
          exact hj18 1 (by omega) (by omega)

set_option maxHeartbeats 1000000 in
theorem t_X11_passSledge {K : Kmap} {V : Vmap} {x : Nat} {p0 : Int} (h_x : K x = some (0, 10)) (r_p0 : ir p0) : MC mX11_passSledge K V [.ref x, ti p0] (VS K (fun V1 => (True))) := by
  refine MC.start 2 (by decide +kernel) rfl rfl rfl (ls0 := [some (.ref x), some (ti p0), none, none]) rfl ?_
  refine GO.aload_n dX11_passSledge_0 rfl rfl ?_
  refine GO.getR h_x fl_RX11_72 rfl rfl dX11_passSledge_1 (fun hv2 h1 => ?_)
  refine GO.iload_n dX11_passSledge_4 rfl rfl ?_
  refine GO.iconst dX11_passSledge_5 ?_
  refine GO.callV (ci := 27) (N := mX8_get_k27) dX11_passSledge_6 (RX8, TX8, 4) rfl gV_RX11_209 h1 (t_X8_get_k27 h1 r_p0 (ir_c rfl)) rfl [] rfl rfl (Nat.le_of_ble_eq_true rfl) rfl (k_ip fun X3 r4 h5 => ?_)
  refine GO.if_eq (tgt := 31) dX11_passSledge_9 (by decide) r4 (fun c6 => ?_) (fun c6 => ?_)
  ·
    exact GO.retv rfl rfl dX11_passSledge_31 ⟨rfl, rfl, trivial⟩
  ·
    refine GO.aload_n dX11_passSledge_12 rfl rfl ?_
    refine GO.getRaw h_x fl_RX11_72 hv2 dX11_passSledge_13 ?_
    refine GO.iload_n dX11_passSledge_16 rfl rfl ?_
    refine GO.iconst dX11_passSledge_17 ?_
    refine GO.callV (ci := 27) (N := mX8_get_k27) dX11_passSledge_18 (RX8, TX8, 4) rfl gV_RX11_209 h1 (t_X8_get_k27 h1 r_p0 (ir_c rfl)) rfl [] rfl rfl (Nat.le_of_ble_eq_true rfl) rfl (k_ip fun X9 r10 h11 => ?_)
    refine GO.aload_n dX11_passSledge_21 rfl rfl ?_
    refine GO.getR h_x fl_RX11_12 rfl rfl dX11_passSledge_22 (fun hv13 h12 => ?_)
    refine GO.getI h12 fl_RX11_145 rfl rfl dX11_passSledge_25 (fun l14 u15 => ?_)
    refine GO.icmp_eq (tgt := 32) dX11_passSledge_28 (by decide) r10 vi_ir (fun c16 => ?_) (fun c16 => ?_)
    ·
      refine GO.aload_n dX11_passSledge_32 rfl rfl ?_
      refine GO.getRaw h_x fl_RX11_72 hv2 dX11_passSledge_33 ?_
      refine GO.iload_n dX11_passSledge_36 rfl rfl ?_
      refine GO.iconst dX11_passSledge_37 ?_
      refine GO.iconst dX11_passSledge_38 ?_
      refine GO.callV (ci := 27) (N := mX8_put_k27) dX11_passSledge_39 (RX8, TX8, 4) rfl gV_RX11_485 h1 (t_X8_put_k27 h1 r_p0 (ir_c rfl) (ir_c rfl)) rfl [] rfl rfl (Nat.le_of_ble_eq_true rfl) rfl (k_vs fun V21 h20 hF19 => ?_)
      refine GO.aload_n dX11_passSledge_42 rfl rfl ?_
      refine GO.getRaw h_x fl_RX11_72 (Eq.trans (hF19 _ _ _ h_x h_x (by decide +kernel)) hv2) dX11_passSledge_43 ?_
      refine GO.iload_n dX11_passSledge_46 rfl rfl ?_
      refine GO.iconst dX11_passSledge_47 ?_
      refine GO.callV (ci := 27) (N := mX8_get_k27) dX11_passSledge_48 (RX8, TX8, 4) rfl gV_RX11_209 h1 (t_X8_get_k27 h1 r_p0 (ir_c rfl)) rfl [] rfl rfl (Nat.le_of_ble_eq_true rfl) rfl (k_ip fun X24 r25 h26 => ?_)
      refine GO.istore_n (ls1 := [some (.ref x), some (ti p0), some (ti X24), none]) dX11_passSledge_51 rfl rfl rfl ?_
      refine GO.aload_n dX11_passSledge_52 rfl rfl ?_
      refine GO.aload_n dX11_passSledge_53 rfl rfl ?_
      refine GO.getRaw h_x fl_RX11_72 (Eq.trans (hF19 _ _ _ h_x h_x (by decide +kernel)) hv2) dX11_passSledge_54 ?_
      refine GO.iload_n dX11_passSledge_57 rfl rfl ?_
      refine GO.iconst dX11_passSledge_58 ?_
      refine GO.callV (ci := 27) (N := mX8_get_k27) dX11_passSledge_59 (RX8, TX8, 4) rfl gV_RX11_209 h1 (t_X8_get_k27 h1 r_p0 (ir_c rfl)) rfl [.ref x] rfl rfl (Nat.le_of_ble_eq_true rfl) rfl (k_ip fun X29 r30 h31 => ?_)
      refine GO.callV (ci := 10) (N := mX11_standingStation) dX11_passSledge_62 (RX11, TX11, 20) rfl gV_RX11_195 h_x (t_X11_standingStation h_x r30) rfl [] rfl rfl (Nat.le_of_ble_eq_true rfl) rfl (k_rp (fun h34 => ?_) (fun o32 h33 h34 => ?_))
      ·
        have rwn62 := h34.2
        have hn35 : NN 6 5 V21 x → ¬ STN V21 x X29 := h34.2
        refine GO.astore_nN (ls1 := [some (.ref x), some (ti p0), some (ti X24), some (.null)]) dX11_passSledge_65 rfl rfl rfl ?_
        refine GO.aload_nN dX11_passSledge_66 rfl rfl ?_
        refine GO.ifnullN (tgt := 99) dX11_passSledge_67 (by decide) ?_
        refine GO.aload_n dX11_passSledge_99 rfl rfl ?_
        refine GO.iconst dX11_passSledge_100 ?_
        refine GO.iload_n dX11_passSledge_101 rfl rfl ?_
        refine GO.callV (ci := 10) (N := mX11_tally) dX11_passSledge_102 (RX11, TX11, 20) rfl gV_RX11_192 h_x (t_X11_tally h_x (ir_c rfl) r25) rfl [] rfl rfl (Nat.le_of_ble_eq_true rfl) rfl (k_vs fun V38 h37 hF36 => ?_)
        exact GO.retv rfl rfl dX11_passSledge_105 ⟨rfl, rfl, trivial⟩
      ·
        have hp39 : X29 ≥ 0 ∧ X29 < vi V21 x 6 := h34.1
        have rwp62 := h34.2
        have hq40 : o32 = plO V21 x (X29).toNat ∧ STN V21 x X29 := h34.2
        refine GO.astore_n (ls1 := [some (.ref x), some (ti p0), some (ti X24), some (.ref o32)]) dX11_passSledge_65 rfl rfl rfl ?_
        refine GO.aload_n dX11_passSledge_66 rfl rfl ?_
        refine GO.ifnull dX11_passSledge_67 ?_
        refine GO.aload_n dX11_passSledge_70 rfl rfl ?_
        refine GO.getI h33 fl_RX11_344 rfl rfl dX11_passSledge_71 (fun _ _ => ?_)
        refine GO.aload_n dX11_passSledge_74 rfl rfl ?_
        refine GO.getRaw h_x fl_RX11_72 (Eq.trans (hF19 _ _ _ h_x h_x (by decide +kernel)) hv2) dX11_passSledge_75 ?_
        refine GO.iload_n dX11_passSledge_78 rfl rfl ?_
        refine GO.iconst dX11_passSledge_79 ?_
        refine GO.callV (ci := 27) (N := mX8_get_k27) dX11_passSledge_80 (RX8, TX8, 4) rfl gV_RX11_209 h1 (t_X8_get_k27 h1 r_p0 (ir_c rfl)) rfl [ti (vi V21 o32 2)] rfl rfl (Nat.le_of_ble_eq_true rfl) rfl (k_ip fun X43 r44 h45 => ?_)
        refine GO.icmp_ne (tgt := 99) dX11_passSledge_83 (by decide) vi_ir r44 (fun c46 => ?_) (fun c46 => ?_)
        ·
          refine GO.aload_n dX11_passSledge_99 rfl rfl ?_
          refine GO.iconst dX11_passSledge_100 ?_
          refine GO.iload_n dX11_passSledge_101 rfl rfl ?_
          refine GO.callV (ci := 10) (N := mX11_tally) dX11_passSledge_102 (RX11, TX11, 20) rfl gV_RX11_192 h_x (t_X11_tally h_x (ir_c rfl) r25) rfl [] rfl rfl (Nat.le_of_ble_eq_true rfl) rfl (k_vs fun V49 h48 hF47 => ?_)
          exact GO.retv rfl rfl dX11_passSledge_105 ⟨rfl, rfl, trivial⟩
        ·
          refine GO.aload_n dX11_passSledge_86 rfl rfl ?_
          refine GO.dup dX11_passSledge_87 rfl ?_
          refine GO.getI h33 fl_RX11_186 rfl rfl dX11_passSledge_88 (fun _ _ => ?_)
          refine GO.iload_n dX11_passSledge_91 rfl rfl ?_
          refine GO.iadd dX11_passSledge_92 ?_
          refine GO.norm (fun z50 r51 hn52 => ?_)
          refine GO.putI h33 fp_RX11_186 rfl (by decide +kernel) r51 (r51).1 (r51).2 dX11_passSledge_93 (fun V54 e53 => ?_)
          refine GO.goto (tgt := 105) dX11_passSledge_96 (by decide) ?_
          exact GO.retv rfl rfl dX11_passSledge_105 ⟨rfl, rfl, trivial⟩
    ·
      exact GO.retv rfl rfl dX11_passSledge_31 ⟨rfl, rfl, trivial⟩

set_option maxHeartbeats 1000000 in
theorem t_X11_passShip_n {K : Kmap} {V : Vmap} {x : Nat} (h_x : K x = some (0, 10)) : MC mX11_passShip_n K V [.ref x, .null] (VS K (fun V1 => (True))) := by
  refine MC.start 0 (by decide +kernel) rfl rfl rfl (ls0 := [some (.ref x), some (.null)]) rfl ?_
  refine GO.aload_nN dX11_passShip_0 rfl rfl ?_
  refine GO.ifnonnullN dX11_passShip_1 ?_
  exact GO.retv rfl rfl dX11_passShip_4 ⟨rfl, rfl, trivial⟩

set_option maxHeartbeats 1000000 in
theorem t_X11_day {K : Kmap} {V : Vmap} {x : Nat} (h_x : K x = some (0, 10)) (w_0 : CWI K V x) : MC mX11_day K V [.ref x] (IS K (fun X V1 => (X ≥ (-2147483648) ∧ X ≤ 2147483647) ∧ (DYC V V1 x X) ∧ (CWI K V1 x) ∧ (DYP V V1 x X))) := by
  refine MC.start 1 (by decide +kernel) rfl rfl rfl (ls0 := [some (.ref x), none]) rfl ?_
  refine GO.useWT (fun hW_0 => ?_)
  refine GO.useWT (fun hW_0 => ?_)
  refine GO.aload_n dX11_day_0 rfl rfl ?_
  refine GO.getR h_x fl_RX11_12 rfl rfl dX11_day_1 (fun hv2 h1 => ?_)
  refine GO.getI h1 fl_RX11_145 rfl rfl dX11_day_4 (fun l3 u4 => ?_)
  refine GO.sipush dX11_day_7 rfl ?_
  refine GO.icmp_lt (tgt := 15) dX11_day_10 (by decide) vi_ir (ir_c rfl) (fun c5 => ?_) (fun c5 => ?_)
  ·
    have hT : K (vq V x 0) = some (0, 0) := by assumption
    have hlt : vi V (vq V x 0) 0 < 3599 := by omega
    refine GO.aload_n dX11_day_15 rfl rfl ?_
    refine GO.getRaw h_x fl_RX11_12 hv2 dX11_day_16 ?_
    refine GO.dup dX11_day_19 rfl ?_
    refine GO.getI h1 fl_RX11_145 rfl rfl dX11_day_20 (fun l8 u9 => ?_)
    refine GO.iconst dX11_day_23 ?_
    refine GO.iadd dX11_day_24 ?_
    refine GO.putI h1 fp_RX11_145 rfl (by decide +kernel) ⟨by omega, by omega⟩ (by omega) (by omega) dX11_day_25 (fun V11 e10 => ?_)
    have sm0 : SMC V V11 x := SMC.fr (FR.put FR.rf hT (by decide +kernel : Nat.testBit (2 ^ keyK (0, 0) 0) (keyK (0, 0) 0) = true) e10) ext.rf hW_0 h_x (by decide +kernel) (by decide +kernel) (by decide +kernel)
    refine GO.useWT (fun hWz => ?_)
    refine GO.aload_n dX11_day_28 rfl rfl ?_
    refine GO.getR h_x fl_RX11_26 rfl rfl dX11_day_29 (fun hv13 h12 => ?_)
    have hdp : DYI V V11 x := dyi_put h_x hT hlt (by assumption)
    refine GO.useWT (fun hWa => ?_)
    refine GO.callV (ci := 5) (N := mX6_forget) dX11_day_32 (RX6, TX6, 10) rfl gV_RX11_435 h12 (t_X6_forget h12) rfl [] rfl rfl (Nat.le_of_ble_eq_true rfl) rfl (k_vs fun V16 h15 hF14 => ?_)
    have hc0 := CWI.fr (CWI.put (kd := (0, 0)) (j := 0) w_0 (by assumption) e10 hW_0 h_x (by decide +kernel) (by decide +kernel) (by decide +kernel) (by decide +kernel)) hF14 ext.rf hWa h_x (by decide +kernel) (by decide +kernel) (by decide +kernel)
    have sm1 := sm0.tr (SMC.fr hF14 ext.rf hWz h_x (by decide +kernel) (by decide +kernel) (by decide +kernel))
    refine GO.iconst dX11_day_35 ?_
    refine GO.istore_n (ls1 := [some (.ref x), some (ti 0)]) dX11_day_36 rfl rfl rfl ?_
    refine GO.loop1 (fun i17 W => 0 ≤ i17 ∧ i17 ≤ 100 ∧ (DYI V W x) ∧ (CWI K W x) ∧ (SMC V W x) ∧ True) (fun i17 => [some (.ref x), some (ti i17)]) (fun i17 W => (2147483647 - i17).toNat) 0 ⟨by omega, by omega, (by first | exact dyi_fr (by assumption) (by assumption) h_x hT (by decide +kernel) (by decide +kernel)), (by first | exact w_0 | exact hc0), (by first | exact sm1), trivial⟩ rfl (fun i17 Wi17 hp100333 ih100332 => ?_)
    obtain ⟨l_i17, u_i17, hdy, hcl, hsm, -⟩ := hp100333
    have r_i17 : ir i17 := ⟨by omega, by omega⟩
    show GO mX11_day K V (IS K (fun X V1 => (X ≥ (-2147483648) ∧ X ≤ 2147483647) ∧ (DYC V V1 x X) ∧ (CWI K V1 x) ∧ (DYP V V1 x X))) K Wi17 0 0 37 [some (.ref x), some (ti i17)] []
    refine GO.useWT (fun hWl => ?_)
    refine GO.useWT (fun hWl1 => ?_)
    refine GO.iload_n dX11_day_37 rfl rfl ?_
    refine GO.aload_n dX11_day_38 rfl rfl ?_
    refine GO.getI h_x fl_RX11_55 rfl rfl dX11_day_39 (fun l100334 u100335 => ?_)
    refine GO.icmp_ge (tgt := 56) dX11_day_42 (by decide) r_i17 vi_ir (fun c100336 => ?_) (fun c100336 => ?_)
    ·
      refine GO.aload_n dX11_day_56 rfl rfl ?_
      refine GO.callV (ci := 10) (N := mX11_admitParties) dX11_day_57 (RX11, TX11, 20) rfl gV_RX11_439 h_x (t_X11_admitParties h_x (hcl)) rfl [] rfl rfl (Nat.le_of_ble_eq_true rfl) rfl (k_vs fun V100339 h100338 hF100337 => ?_)
      have raw_admitParties := h100338.2
      have rw57 := h100338.2
      refine GO.useWT (fun hWy => ?_)
      have hz6 := (hWy.int h_x (j := 6) (Nat.le_of_ble_eq_true rfl) rfl).2
      refine GO.iconst dX11_day_60 ?_
      refine GO.istore_n (ls1 := [some (.ref x), some (ti 0)]) dX11_day_61 rfl rfl rfl ?_
      have q100342 : -2147483648 ≤ vi V100339 x 6 ∧ vi V100339 x 6 ≤ 2147483647 := vi_ir
      refine GO.loop1 (fun i100340 W => 0 ≤ i100340 ∧ i100340 ≤ 60 ∧ (i100340 ≤ vi W x 6) ∧ (DYI V W x) ∧ (CWI K W x) ∧ (PSI V W x i100340) ∧ True) (fun i100340 => [some (.ref x), some (ti i100340)]) (fun i100340 W => (2147483647 - i100340).toNat) 0 ⟨by omega, by omega, by omega, (by first | exact hdy | exact dyi_fr (by assumption) (by assumption) h_x hT (by decide +kernel) (by decide +kernel)), (by first | exact w_0 | exact hc0 | exact hcl | exact rw57 | exact CWI.fr hcl (by assumption) ext.rf hWl h_x (by decide +kernel) (by decide +kernel) (by decide +kernel) | exact CWI.fr hcl (by assumption) ext.rf hWl h_x (by decide +kernel) (by decide +kernel) (by decide +kernel) | exact CWI.fr hcl (by assumption) ext.rf hWl h_x (by decide +kernel) (by decide +kernel) (by decide +kernel)), (by first | exact PSI.beg (hsm.tr (SMC.fr hF100337 ext.rf hWl1 h_x (by decide +kernel) (by decide +kernel) (by decide +kernel)))), trivial⟩ rfl (fun i100340 Wi100340 hp110361 ih110360 => ?_)
      obtain ⟨l_i100340, u_i100340, n_i100340, hdy, hcl, hpi, -⟩ := hp110361
      have r_i100340 : ir i100340 := ⟨by omega, by omega⟩
      show GO mX11_day K V (IS K (fun X V1 => (X ≥ (-2147483648) ∧ X ≤ 2147483647) ∧ (DYC V V1 x X) ∧ (CWI K V1 x) ∧ (DYP V V1 x X))) K Wi100340 0 0 62 [some (.ref x), some (ti i100340)] []
      refine GO.useWT (fun hWl => ?_)
      refine GO.useWT (fun hWl2 => ?_)
      refine GO.iload_n dX11_day_62 rfl rfl ?_
      refine GO.aload_n dX11_day_63 rfl rfl ?_
      refine GO.getI h_x fl_RX11_46 rfl rfl dX11_day_64 (fun l110362 u110363 => ?_)
      refine GO.icmp_ge (tgt := 81) dX11_day_67 (by decide) r_i100340 vi_ir (fun c110364 => ?_) (fun c110364 => ?_)
      ·
        refine GO.iconst dX11_day_81 ?_
        refine GO.istore_n (ls1 := [some (.ref x), some (ti 0)]) dX11_day_82 rfl rfl rfl ?_
        refine GO.loop1 (fun i110365 W => 0 ≤ i110365 ∧ i110365 ≤ 10 ∧ (DYI V W x) ∧ (CWI K W x) ∧ (PSI V W x (vi V x 6)) ∧ True) (fun i110365 => [some (.ref x), some (ti i110365)]) (fun i110365 W => (2147483647 - i110365).toNat) 0 ⟨by omega, by omega, (by first | exact hdy | exact dyi_fr (by assumption) (by assumption) h_x hT (by decide +kernel) (by decide +kernel)), (by first | exact w_0 | exact hc0 | exact hcl | exact rw57 | exact CWI.fr hcl (by assumption) ext.rf hWl h_x (by decide +kernel) (by decide +kernel) (by decide +kernel) | exact CWI.fr hcl (by assumption) ext.rf hWl h_x (by decide +kernel) (by decide +kernel) (by decide +kernel) | exact CWI.fr hcl (by assumption) ext.rf hWl h_x (by decide +kernel) (by decide +kernel) (by decide +kernel)), (by first | exact PSI.at hpi (by omega) (by omega)), trivial⟩ rfl (fun i110365 Wi110365 hp111333 ih111332 => ?_)
        obtain ⟨l_i110365, u_i110365, hdy, hcl, hpj, -⟩ := hp111333
        have r_i110365 : ir i110365 := ⟨by omega, by omega⟩
        show GO mX11_day K V (IS K (fun X V1 => (X ≥ (-2147483648) ∧ X ≤ 2147483647) ∧ (DYC V V1 x X) ∧ (CWI K V1 x) ∧ (DYP V V1 x X))) K Wi110365 0 0 83 [some (.ref x), some (ti i110365)] []
        refine GO.useWT (fun hWl => ?_)
        refine GO.useWT (fun hWl3 => ?_)
        refine GO.iload_n dX11_day_83 rfl rfl ?_
        refine GO.aload_n dX11_day_84 rfl rfl ?_
        refine GO.getI h_x fl_RX11_64 rfl rfl dX11_day_85 (fun l111334 u111335 => ?_)
        refine GO.icmp_ge (tgt := 106) dX11_day_88 (by decide) r_i110365 vi_ir (fun c111336 => ?_) (fun c111336 => ?_)
        ·
          refine GO.iconst dX11_day_106 ?_
          refine GO.istore_n (ls1 := [some (.ref x), some (ti 0)]) dX11_day_107 rfl rfl rfl ?_
          refine GO.loop1 (fun i111337 W => 0 ≤ i111337 ∧ i111337 ≤ 40 ∧ (DYI V W x) ∧ (CWI K W x) ∧ (PSI V W x (vi V x 6)) ∧ True) (fun i111337 => [some (.ref x), some (ti i111337)]) (fun i111337 W => (2147483647 - i111337).toNat) 0 ⟨by omega, by omega, (by first | exact hdy | exact dyi_fr (by assumption) (by assumption) h_x hT (by decide +kernel) (by decide +kernel)), (by first | exact w_0 | exact hc0 | exact hcl | exact rw57 | exact CWI.fr hcl (by assumption) ext.rf hWl h_x (by decide +kernel) (by decide +kernel) (by decide +kernel) | exact CWI.fr hcl (by assumption) ext.rf hWl h_x (by decide +kernel) (by decide +kernel) (by decide +kernel) | exact CWI.fr hcl (by assumption) ext.rf hWl h_x (by decide +kernel) (by decide +kernel) (by decide +kernel)), (by first | exact PSI.at hpi (by omega) (by omega) | exact hpj | exact PSI.fr hpj (by assumption) hWl3 h_x (by decide +kernel) (by decide +kernel) (by decide +kernel)), trivial⟩ rfl (fun i111337 Wi111337 hp111447 ih111446 => ?_)
          obtain ⟨l_i111337, u_i111337, hdy, hcl, hpj, -⟩ := hp111447
          have r_i111337 : ir i111337 := ⟨by omega, by omega⟩
          show GO mX11_day K V (IS K (fun X V1 => (X ≥ (-2147483648) ∧ X ≤ 2147483647) ∧ (DYC V V1 x X) ∧ (CWI K V1 x) ∧ (DYP V V1 x X))) K Wi111337 0 0 108 [some (.ref x), some (ti i111337)] []
          refine GO.useWT (fun hWl => ?_)
          refine GO.useWT (fun hWl4 => ?_)
          refine GO.iload_n dX11_day_108 rfl rfl ?_
          refine GO.aload_n dX11_day_109 rfl rfl ?_
          refine GO.getR h_x fl_RX11_72 rfl rfl dX11_day_110 (fun hv111449 h111448 => ?_)
          refine GO.getI h111448 fl_RX11_199_k27 rfl rfl dX11_day_113 (fun l111450 u111451 => ?_)
          refine GO.icmp_ge (tgt := 130) dX11_day_116 (by decide) r_i111337 vi_ir (fun c111452 => ?_) (fun c111452 => ?_)
          ·
            refine GO.aload_n dX11_day_130 rfl rfl ?_
            refine GO.getR h_x fl_RX11_12 rfl rfl dX11_day_131 (fun hv111454 h111453 => ?_)
            refine GO.getI h111453 fl_RX11_145 rfl rfl dX11_day_134 (fun l111455 u111456 => ?_)
            exact GO.reti rfl rfl dX11_day_137 ⟨rfl, _, rfl, vi_ir, ⟨(by first | exact trivial | omega), (by first | exact dyc_0 (by omega) | exact dyc_1 hdy hlt), (by first | exact w_0 | exact hc0 | exact hcl | exact rw57 | exact CWI.fr hcl (by assumption) ext.rf hWl h_x (by decide +kernel) (by decide +kernel) (by decide +kernel) | exact CWI.fr hcl (by assumption) ext.rf hWl h_x (by decide +kernel) (by decide +kernel) (by decide +kernel) | exact CWI.fr hcl (by assumption) ext.rf hWl h_x (by decide +kernel) (by decide +kernel) (by decide +kernel)), (by first | exact Or.inl ⟨rfl, rfl⟩ | exact Or.inr ⟨by omega, hpj⟩)⟩⟩
          ·
            refine GO.aload_n dX11_day_119 rfl rfl ?_
            refine GO.iload_n dX11_day_120 rfl rfl ?_
            refine GO.callV (ci := 10) (N := mX11_passSledge) dX11_day_121 (RX11, TX11, 20) rfl gV_RX11_449 h_x (t_X11_passSledge h_x r_i111337) rfl [] rfl rfl (Nat.le_of_ble_eq_true rfl) rfl (k_vs fun V111459 h111458 hF111457 => ?_)
            refine GO.iinc (X := i111337) (n := 1) (Y := i111337 + 1) (ls1 := [some (.ref x), some (ti (i111337 + 1))]) dX11_day_124 rfl rfl rfl rfl ?_
            refine GO.goto (tgt := 108) dX11_day_127 (by decide) ?_
            exact ih111446 (i111337 + 1) V111459 ⟨by omega, by omega, (by first | exact hdy | exact dyi_fr (by assumption) (by assumption) h_x hT (by decide +kernel) (by decide +kernel)), (by first | exact w_0 | exact hc0 | exact hcl | exact rw57 | exact CWI.fr hcl (by assumption) ext.rf hWl h_x (by decide +kernel) (by decide +kernel) (by decide +kernel) | exact CWI.fr hcl (by assumption) ext.rf hWl h_x (by decide +kernel) (by decide +kernel) (by decide +kernel) | exact CWI.fr hcl hF111457 ext.rf hWl h_x (by decide +kernel) (by decide +kernel) (by decide +kernel)), (by first | exact PSI.at hpi (by omega) (by omega) | exact hpj | exact PSI.fr hpj (by assumption) hWl3 h_x (by decide +kernel) (by decide +kernel) (by decide +kernel) | exact PSI.fr hpj hF111457 hWl4 h_x (by decide +kernel) (by decide +kernel) (by decide +kernel)), trivial⟩ (by show (2147483647 - (i111337 + 1)).toNat < (2147483647 - i111337).toNat; omega)
        ·
          refine GO.aload_n dX11_day_91 rfl rfl ?_
          refine GO.aload_n dX11_day_92 rfl rfl ?_
          refine GO.iload_n dX11_day_93 rfl rfl ?_
          refine GO.callV (ci := 10) (N := mX11_shipOf) dX11_day_94 (RX11, TX11, 20) rfl gV_RX11_403 h_x (t_X11_shipOf h_x r_i110365) rfl [.ref x] rfl rfl (Nat.le_of_ble_eq_true rfl) rfl (k_rp (fun h111462 => ?_) (fun o111460 h111461 h111462 => ?_))
          ·
            have rwn94 := h111462.2
            have hn111463 : SN Wi110365 x → i110365 < 0 ∨ vi Wi110365 x 10 ≤ i110365 := h111462.2
            refine GO.callV (ci := 10) (N := mX11_passShip_n) dX11_day_97 (RX11, TX11, 20) rfl gV_RX11_445 h_x (t_X11_passShip_n h_x) rfl [] rfl rfl (Nat.le_of_ble_eq_true rfl) rfl (k_vs fun V111466 h111465 hF111464 => ?_)
            refine GO.iinc (X := i110365) (n := 1) (Y := i110365 + 1) (ls1 := [some (.ref x), some (ti (i110365 + 1))]) dX11_day_100 rfl rfl rfl rfl ?_
            refine GO.goto (tgt := 83) dX11_day_103 (by decide) ?_
            exact ih111332 (i110365 + 1) V111466 ⟨by omega, by omega, (by first | exact hdy | exact dyi_fr (by assumption) (by assumption) h_x hT (by decide +kernel) (by decide +kernel)), (by first | exact w_0 | exact hc0 | exact hcl | exact rw57 | exact CWI.fr hcl (by assumption) ext.rf hWl h_x (by decide +kernel) (by decide +kernel) (by decide +kernel) | exact CWI.fr hcl hF111464 ext.rf hWl h_x (by decide +kernel) (by decide +kernel) (by decide +kernel) | exact CWI.fr hcl (by assumption) ext.rf hWl h_x (by decide +kernel) (by decide +kernel) (by decide +kernel)), (by first | exact PSI.at hpi (by omega) (by omega) | exact hpj | exact PSI.fr hpj hF111464 hWl3 h_x (by decide +kernel) (by decide +kernel) (by decide +kernel)), trivial⟩ (by show (2147483647 - (i110365 + 1)).toNat < (2147483647 - i110365).toNat; omega)
          ·
            have hp111467 : i110365 ≥ 0 ∧ i110365 < vi Wi110365 x 10 := h111462.1
            have rwp94 := h111462.2
            have hq111468 : o111460 = vq Wi110365 (vq Wi110365 x 9) (i110365).toNat := h111462.2
            refine GO.callV (ci := 10) (N := mX11_passShip) dX11_day_97 (RX11, TX11, 20) rfl gV_RX11_445 h_x (t_X11_passShip h_x h111461) rfl [] rfl rfl (Nat.le_of_ble_eq_true rfl) rfl (k_vs fun V111471 h111470 hF111469 => ?_)
            refine GO.iinc (X := i110365) (n := 1) (Y := i110365 + 1) (ls1 := [some (.ref x), some (ti (i110365 + 1))]) dX11_day_100 rfl rfl rfl rfl ?_
            refine GO.goto (tgt := 83) dX11_day_103 (by decide) ?_
            exact ih111332 (i110365 + 1) V111471 ⟨by omega, by omega, (by first | exact hdy | exact dyi_fr (by assumption) (by assumption) h_x hT (by decide +kernel) (by decide +kernel)), (by first | exact w_0 | exact hc0 | exact hcl | exact rw57 | exact CWI.fr hcl (by assumption) ext.rf hWl h_x (by decide +kernel) (by decide +kernel) (by decide +kernel) | exact CWI.fr hcl hF111469 ext.rf hWl h_x (by decide +kernel) (by decide +kernel) (by decide +kernel) | exact CWI.fr hcl (by assumption) ext.rf hWl h_x (by decide +kernel) (by decide +kernel) (by decide +kernel)), (by first | exact PSI.at hpi (by omega) (by omega) | exact hpj | exact PSI.fr hpj hF111469 hWl3 h_x (by decide +kernel) (by decide +kernel) (by decide +kernel)), trivial⟩ (by show (2147483647 - (i110365 + 1)).toNat < (2147483647 - i110365).toNat; omega)
      ·
        refine GO.aload_n dX11_day_70 rfl rfl ?_
        refine GO.iload_n dX11_day_71 rfl rfl ?_
        refine GO.callV (ci := 10) (N := mX11_passStation) dX11_day_72 (RX11, TX11, 20) rfl gV_RX11_442 h_x (t_X11_passStation h_x r_i100340) rfl [] rfl rfl (Nat.le_of_ble_eq_true rfl) rfl (k_vs fun V111474 h111473 hF111472 => ?_)
        have raw_passStation := h111473.2
        have rw72 := h111473.2
        refine GO.iinc (X := i100340) (n := 1) (Y := i100340 + 1) (ls1 := [some (.ref x), some (ti (i100340 + 1))]) dX11_day_75 rfl rfl rfl rfl ?_
        refine GO.goto (tgt := 62) dX11_day_78 (by decide) ?_
        have q111475 : -2147483648 ≤ vi Wi100340 x 6 ∧ vi Wi100340 x 6 ≤ 2147483647 := vi_ir
        have e111476 : vi V111474 x 6 = vi Wi100340 x 6 := vi_fr hF111472 h_x h_x (by decide +kernel)
        exact ih110360 (i100340 + 1) V111474 ⟨by omega, by omega, by omega, (by first | exact hdy | exact dyi_fr (by assumption) (by assumption) h_x hT (by decide +kernel) (by decide +kernel)), (by first | exact w_0 | exact hc0 | exact hcl | exact rw57 | exact CWI.fr hcl hF111472 ext.rf hWl h_x (by decide +kernel) (by decide +kernel) (by decide +kernel) | exact CWI.fr hcl (by assumption) ext.rf hWl h_x (by decide +kernel) (by decide +kernel) (by decide +kernel) | exact CWI.fr hcl (by assumption) ext.rf hWl h_x (by decide +kernel) (by decide +kernel) (by decide +kernel)), (by first | exact PSI.beg (hsm.tr (SMC.fr hF100337 ext.rf hWl1 h_x (by decide +kernel) (by decide +kernel) (by decide +kernel))) | exact PSI.step hpi rw72 hF111472 hWl2 h_x (by decide +kernel) (by decide +kernel) hdy.2 (by omega) (by omega) (by omega)), trivial⟩ (by show (2147483647 - (i100340 + 1)).toNat < (2147483647 - i100340).toNat; omega)
    ·
      refine GO.aload_n dX11_day_45 rfl rfl ?_
      refine GO.iload_n dX11_day_46 rfl rfl ?_
      refine GO.callV (ci := 10) (N := mX11_passWork) dX11_day_47 (RX11, TX11, 20) rfl gV_RX11_436 h_x (t_X11_passWork h_x r_i17 (hcl)) rfl [] rfl rfl (Nat.le_of_ble_eq_true rfl) rfl (k_vs fun V111479 h111478 hF111477 => ?_)
      have raw_passWork := h111478.2
      have rw47 := h111478.2
      refine GO.iinc (X := i17) (n := 1) (Y := i17 + 1) (ls1 := [some (.ref x), some (ti (i17 + 1))]) dX11_day_50 rfl rfl rfl rfl ?_
      refine GO.goto (tgt := 37) dX11_day_53 (by decide) ?_
      exact ih100332 (i17 + 1) V111479 ⟨by omega, by omega, (by first | exact hdy | exact dyi_fr (by assumption) (by assumption) h_x hT (by decide +kernel) (by decide +kernel)), (by first | exact w_0 | exact hc0 | exact hcl | exact rw47 | exact CWI.fr hcl (by assumption) ext.rf hWl h_x (by decide +kernel) (by decide +kernel) (by decide +kernel) | exact CWI.fr hcl (by assumption) ext.rf hWl h_x (by decide +kernel) (by decide +kernel) (by decide +kernel) | exact CWI.fr hcl (by assumption) ext.rf hWl h_x (by decide +kernel) (by decide +kernel) (by decide +kernel)), (by first | exact sm1 | exact hsm.tr (SMC.fr hF111477 ext.rf hWl1 h_x (by decide +kernel) (by decide +kernel) (by decide +kernel))), trivial⟩ (by show (2147483647 - (i17 + 1)).toNat < (2147483647 - i17).toNat; omega)
  ·
    refine GO.iconst dX11_day_13 ?_
    exact GO.reti rfl rfl dX11_day_14 ⟨rfl, _, rfl, (ir_c rfl), ⟨(by first | exact trivial | omega), (by first | exact dyc_0 (by omega)), (by first | exact w_0), (by first | exact Or.inl ⟨rfl, rfl⟩)⟩⟩

set_option maxHeartbeats 1000000 in
theorem t_X11_sound {K : Kmap} {V : Vmap} {x : Nat} {p0 : Int} {p1 : Int} {p2 : Int} (h_x : K x = some (0, 10)) (r_p0 : ir p0) (r_p1 : ir p1) (r_p2 : ir p2) : MC mX11_sound K V [.ref x, ti p0, ti p1, ti p2] (IS K (fun X V1 => (X = 0 ∨ X = 1) ∧ (X ≠ 0 → True) ∧ (X = 0 → True))) := by
  refine MC.start 1 (by decide +kernel) rfl rfl rfl (ls0 := [some (.ref x), some (ti p0), some (ti p1), some (ti p2), none]) rfl ?_
  refine GO.aload_n dX11_sound_0 rfl rfl ?_
  refine GO.iload_n dX11_sound_1 rfl rfl ?_
  refine GO.iconst dX11_sound_2 ?_
  refine GO.callV (ci := 10) (N := mX11_placeOf) dX11_sound_3 (RX11, TX11, 20) rfl gV_RX11_169 h_x (t_X11_placeOf h_x r_p0 (ir_c rfl)) rfl [] rfl rfl (Nat.le_of_ble_eq_true rfl) rfl (k_rp (fun h3 => ?_) (fun o1 h2 h3 => ?_))
  ·
    have rwn3 := h3.2
    have hn4 : NN 6 5 V x → ¬ PK V x p0 4 := h3.2
    refine GO.astoreN (ls1 := [some (.ref x), some (ti p0), some (ti p1), some (ti p2), some (.null)]) dX11_sound_6 rfl rfl ?_
    refine GO.aloadN dX11_sound_8 rfl ?_
    refine GO.ifnullN (tgt := 35) dX11_sound_10 (by decide) ?_
    refine GO.iconst dX11_sound_35 ?_
    exact GO.retz rfl rfl dX11_sound_36 (Or.inl rfl) ⟨rfl, _, rfl, (ir_c rfl), ⟨Or.inl rfl, fun _ => trivial, fun _ => trivial⟩⟩
  ·
    have hp5 : p0 ≥ 0 ∧ p0 < vi V x 6 := h3.1
    have rwp3 := h3.2
    have hq6 : o1 = plO V x (p0).toNat ∧ PK V x p0 4 := h3.2
    refine GO.astore (ls1 := [some (.ref x), some (ti p0), some (ti p1), some (ti p2), some (.ref o1)]) dX11_sound_6 rfl rfl ?_
    refine GO.aload dX11_sound_8 rfl ?_
    refine GO.ifnull dX11_sound_10 ?_
    refine GO.iload_n dX11_sound_13 rfl rfl ?_
    refine GO.iconst dX11_sound_14 ?_
    refine GO.sipush dX11_sound_15 rfl ?_
    refine GO.callS (N := mX11_between) dX11_sound_18 gS_RX11_112 (t_X11_between r_p1 (ir_c rfl) (ir_c rfl)) rfl [] rfl rfl (Nat.le_of_ble_eq_true rfl) rfl (k_ip fun X7 r8 h9 => ?_)
    refine GO.if_eq (tgt := 35) dX11_sound_21 (by decide) r8 (fun c10 => ?_) (fun c10 => ?_)
    ·
      have q11 := h9.2.2 (by omega)
      refine GO.iconst dX11_sound_35 ?_
      exact GO.retz rfl rfl dX11_sound_36 (Or.inl rfl) ⟨rfl, _, rfl, (ir_c rfl), ⟨Or.inl rfl, fun _ => trivial, fun _ => trivial⟩⟩
    ·
      have q12 := h9.2.1 (by omega)
      refine GO.iload_n dX11_sound_24 rfl rfl ?_
      refine GO.iconst dX11_sound_25 ?_
      refine GO.sipush dX11_sound_26 rfl ?_
      refine GO.callS (N := mX11_between) dX11_sound_29 gS_RX11_112 (t_X11_between r_p2 (ir_c rfl) (ir_c rfl)) rfl [] rfl rfl (Nat.le_of_ble_eq_true rfl) rfl (k_ip fun X13 r14 h15 => ?_)
      refine GO.if_ne (tgt := 37) dX11_sound_32 (by decide) r14 (fun c16 => ?_) (fun c16 => ?_)
      ·
        have q17 := h15.2.1 (by omega)
        refine GO.aload dX11_sound_37 rfl ?_
        refine GO.iload_n dX11_sound_39 rfl rfl ?_
        refine GO.iload_n dX11_sound_40 rfl rfl ?_
        refine GO.callV (ci := 3) (N := mX3_addSounding) dX11_sound_41 (RX3, TX3, 16) rfl gV_RX11_556 h2 (t_X3_addSounding h2 r_p1 r_p2) rfl [] rfl rfl (Nat.le_of_ble_eq_true rfl) rfl (k_is fun X18 V22 r19 h20 hF21 => ?_)
        exact GO.retz rfl rfl dX11_sound_44 (by omega) ⟨rfl, _, rfl, r19, ⟨by omega, fun _ => trivial, fun _ => trivial⟩⟩
      ·
        have q23 := h15.2.2 (by omega)
        refine GO.iconst dX11_sound_35 ?_
        exact GO.retz rfl rfl dX11_sound_36 (Or.inl rfl) ⟨rfl, _, rfl, (ir_c rfl), ⟨Or.inl rfl, fun _ => trivial, fun _ => trivial⟩⟩

set_option maxHeartbeats 1000000 in
theorem t_X11_sure {K : Kmap} {V : Vmap} {x : Nat} {p0 : Int} (h_x : K x = some (0, 10)) (r_p0 : ir p0) : MC mX11_sure K V [.ref x, ti p0] (IP K V (fun X => True)) := by
  refine MC.start 1 (by decide +kernel) rfl rfl rfl (ls0 := [some (.ref x), some (ti p0), none]) rfl ?_
  refine GO.aload_n dX11_sure_0 rfl rfl ?_
  refine GO.iload_n dX11_sure_1 rfl rfl ?_
  refine GO.iconst dX11_sure_2 ?_
  refine GO.callV (ci := 10) (N := mX11_placeOf) dX11_sure_3 (RX11, TX11, 20) rfl gV_RX11_169 h_x (t_X11_placeOf h_x r_p0 (ir_c rfl)) rfl [] rfl rfl (Nat.le_of_ble_eq_true rfl) rfl (k_rp (fun h3 => ?_) (fun o1 h2 h3 => ?_))
  ·
    have rwn3 := h3.2
    have hn4 : NN 6 5 V x → ¬ PK V x p0 4 := h3.2
    refine GO.astore_nN (ls1 := [some (.ref x), some (ti p0), some (.null)]) dX11_sure_6 rfl rfl rfl ?_
    refine GO.aload_nN dX11_sure_7 rfl rfl ?_
    refine GO.ifnonnullN dX11_sure_8 ?_
    refine GO.iconst dX11_sure_11 ?_
    refine GO.goto (tgt := 19) dX11_sure_12 (by decide) ?_
    exact GO.reti rfl rfl dX11_sure_19 ⟨rfl, rfl, _, rfl, (ir_c rfl), trivial⟩
  ·
    have hp5 : p0 ≥ 0 ∧ p0 < vi V x 6 := h3.1
    have rwp3 := h3.2
    have hq6 : o1 = plO V x (p0).toNat ∧ PK V x p0 4 := h3.2
    refine GO.astore_n (ls1 := [some (.ref x), some (ti p0), some (.ref o1)]) dX11_sure_6 rfl rfl rfl ?_
    refine GO.aload_n dX11_sure_7 rfl rfl ?_
    refine GO.ifnonnull (tgt := 15) dX11_sure_8 (by decide) ?_
    refine GO.aload_n dX11_sure_15 rfl rfl ?_
    refine GO.callV (ci := 3) (N := mX3_sureDepth) dX11_sure_16 (RX3, TX3, 16) rfl gV_RX11_482 h2 (t_X3_sureDepth h2) rfl [] rfl rfl (Nat.le_of_ble_eq_true rfl) rfl (k_ip fun X7 r8 h9 => ?_)
    have q10 : -2147483648 ≤ X7 ∧ X7 ≤ 2147483647 := r8
    exact GO.reti rfl rfl dX11_sure_19 ⟨rfl, rfl, _, rfl, r8, trivial⟩

set_option maxHeartbeats 1000000 in
theorem t_X8_isFull_k29 {K : Kmap} {V : Vmap} {x : Nat} (h_x : K x = some (0, 29)) : MC mX8_isFull_k29 K V [.ref x] (IP K V (fun X => (X = 0 ∨ X = 1) ∧ (X ≠ 0 → vi V x 3 ≥ 10) ∧ (X = 0 → vi V x 3 ≤ 9))) := by
  refine MC.start 0 (by decide +kernel) rfl rfl rfl (ls0 := [some (.ref x)]) rfl ?_
  refine GO.aload_n dX8_isFull_0 rfl rfl ?_
  refine GO.getI h_x fl_RX8_9_k29 rfl rfl dX8_isFull_1 (fun l1 u2 => ?_)
  refine GO.aload_n dX8_isFull_4 rfl rfl ?_
  refine GO.getI h_x fl_RX8_18_k29 rfl rfl dX8_isFull_5 (fun l3 u4 => ?_)
  refine GO.icmp_lt (tgt := 15) dX8_isFull_8 (by decide) vi_ir vi_ir (fun c5 => ?_) (fun c5 => ?_)
  ·
    refine GO.iconst dX8_isFull_15 ?_
    exact GO.retz rfl rfl dX8_isFull_16 (Or.inl rfl) ⟨rfl, rfl, _, rfl, (ir_c rfl), ⟨Or.inl rfl, fun h => absurd rfl h, fun h => by omega⟩⟩
  ·
    refine GO.iconst dX8_isFull_11 ?_
    refine GO.goto (tgt := 16) dX8_isFull_12 (by decide) ?_
    exact GO.retz rfl rfl dX8_isFull_16 (Or.inr rfl) ⟨rfl, rfl, _, rfl, (ir_c rfl), ⟨Or.inr rfl, fun h => by omega, fun h => absurd h (by decide)⟩⟩

set_option maxHeartbeats 1000000 in
theorem t_X8_append_k29 {K : Kmap} {V : Vmap} {x : Nat} {p0 : Int} {p1 : Int} {p2 : Int} {p3 : Int} {p4 : Int} (h_x : K x = some (0, 29)) (r_p0 : ir p0) (r_p1 : ir p1) (r_p2 : ir p2) (r_p3 : ir p3) (r_p4 : ir p4) : MC mX8_append_k29 K V [.ref x, ti p0, ti p1, ti p2, ti p3, ti p4] (IS K (fun X V1 => ((X = (-1) ∧ vi V1 x 3 = vi V x 3 ∧ vi V x 3 ≥ 10) ∨ (X = vi V x 3 ∧ vi V1 x 3 = (vi V x 3 + 1) ∧ vi V x 3 < 10)))) := by
  refine MC.start 1 (by decide +kernel) rfl rfl rfl (ls0 := [some (.ref x), some (ti p0), some (ti p1), some (ti p2), some (ti p3), some (ti p4), none]) rfl ?_
  refine GO.aload_n dX8_append_0 rfl rfl ?_
  refine GO.callV (ci := 29) (N := mX8_isFull_k29) dX8_append_1 (RX8, TX8, 4) rfl gV_RX8_31 h_x (t_X8_isFull_k29 h_x) rfl [] rfl rfl (Nat.le_of_ble_eq_true rfl) rfl (k_ip fun X1 r2 h3 => ?_)
  refine GO.if_eq (tgt := 9) dX8_append_4 (by decide) r2 (fun c4 => ?_) (fun c4 => ?_)
  ·
    have q5 := h3.2.2 (by omega)
    refine GO.aload_n dX8_append_9 rfl rfl ?_
    refine GO.getI h_x fl_RX8_9_k29 rfl rfl dX8_append_10 (fun l6 u7 => ?_)
    refine GO.name (fun z8 hz9 => ?_)
    have r10 : ir z8 := hz9 ▸ vi_ir
    refine GO.istore (ls1 := [some (.ref x), some (ti p0), some (ti p1), some (ti p2), some (ti p3), some (ti p4), some (ti z8)]) dX8_append_13 rfl rfl ?_
    refine GO.aload_n dX8_append_15 rfl rfl ?_
    refine GO.dup dX8_append_16 rfl ?_
    refine GO.getI h_x fl_RX8_9_k29 rfl rfl dX8_append_17 (fun l11 u12 => ?_)
    refine GO.iconst dX8_append_20 ?_
    refine GO.iadd dX8_append_21 ?_
    have q14 : -2147483648 ≤ vi V x 3 ∧ vi V x 3 ≤ 2147483647 := vi_ir
    have q15 : -2147483648 ≤ z8 ∧ z8 ≤ 2147483647 := r10
    refine GO.putI h_x fp_RX8_9_k29 rfl (by decide +kernel) ⟨by omega, by omega⟩ (by omega) (by omega) dX8_append_22 (fun V16 e13 => ?_)
    refine GO.aload_n dX8_append_25 rfl rfl ?_
    refine GO.iload dX8_append_26 rfl ?_
    refine GO.iconst dX8_append_28 ?_
    refine GO.iload_n dX8_append_29 rfl rfl ?_
    refine GO.callV (ci := 29) (N := mX8_put_k29) dX8_append_30 (RX8, TX8, 4) rfl gV_RX8_35 h_x (t_X8_put_k29 h_x r10 (ir_c rfl) r_p0) rfl [] rfl rfl (Nat.le_of_ble_eq_true rfl) rfl (k_vs fun V19 h18 hF17 => ?_)
    refine GO.aload_n dX8_append_33 rfl rfl ?_
    refine GO.iload dX8_append_34 rfl ?_
    refine GO.iconst dX8_append_36 ?_
    refine GO.iload_n dX8_append_37 rfl rfl ?_
    refine GO.callV (ci := 29) (N := mX8_put_k29) dX8_append_38 (RX8, TX8, 4) rfl gV_RX8_35 h_x (t_X8_put_k29 h_x r10 (ir_c rfl) r_p1) rfl [] rfl rfl (Nat.le_of_ble_eq_true rfl) rfl (k_vs fun V22 h21 hF20 => ?_)
    refine GO.aload_n dX8_append_41 rfl rfl ?_
    refine GO.iload dX8_append_42 rfl ?_
    refine GO.iconst dX8_append_44 ?_
    refine GO.iload_n dX8_append_45 rfl rfl ?_
    refine GO.callV (ci := 29) (N := mX8_put_k29) dX8_append_46 (RX8, TX8, 4) rfl gV_RX8_35 h_x (t_X8_put_k29 h_x r10 (ir_c rfl) r_p2) rfl [] rfl rfl (Nat.le_of_ble_eq_true rfl) rfl (k_vs fun V25 h24 hF23 => ?_)
    refine GO.aload_n dX8_append_49 rfl rfl ?_
    refine GO.iload dX8_append_50 rfl ?_
    refine GO.iconst dX8_append_52 ?_
    refine GO.iload dX8_append_53 rfl ?_
    refine GO.callV (ci := 29) (N := mX8_put_k29) dX8_append_55 (RX8, TX8, 4) rfl gV_RX8_35 h_x (t_X8_put_k29 h_x r10 (ir_c rfl) r_p3) rfl [] rfl rfl (Nat.le_of_ble_eq_true rfl) rfl (k_vs fun V28 h27 hF26 => ?_)
    refine GO.aload_n dX8_append_58 rfl rfl ?_
    refine GO.iload dX8_append_59 rfl ?_
    refine GO.iconst dX8_append_61 ?_
    refine GO.iload dX8_append_62 rfl ?_
    refine GO.callV (ci := 29) (N := mX8_put_k29) dX8_append_64 (RX8, TX8, 4) rfl gV_RX8_35 h_x (t_X8_put_k29 h_x r10 (ir_c rfl) r_p4) rfl [] rfl rfl (Nat.le_of_ble_eq_true rfl) rfl (k_vs fun V31 h30 hF29 => ?_)
    refine GO.iload dX8_append_67 rfl ?_
    have e37 : vi V16 x 3 = (vi V x 3) + 1 := upd2_int e13 ⟨by omega, by omega⟩
    have e36 : vi V19 x 3 = vi V16 x 3 := vi_fr hF17 h_x h_x (by decide +kernel)
    have e35 : vi V22 x 3 = vi V19 x 3 := vi_fr hF20 h_x h_x (by decide +kernel)
    have e34 : vi V25 x 3 = vi V22 x 3 := vi_fr hF23 h_x h_x (by decide +kernel)
    have e33 : vi V28 x 3 = vi V25 x 3 := vi_fr hF26 h_x h_x (by decide +kernel)
    have e32 : vi V31 x 3 = vi V28 x 3 := vi_fr hF29 h_x h_x (by decide +kernel)
    exact GO.reti rfl rfl dX8_append_69 ⟨rfl, _, rfl, r10, by omega⟩
  ·
    have q38 := h3.2.1 (by omega)
    refine GO.iconst dX8_append_7 ?_
    have q39 : -2147483648 ≤ vi V x 3 ∧ vi V x 3 ≤ 2147483647 := vi_ir
    exact GO.reti rfl rfl dX8_append_8 ⟨rfl, _, rfl, (ir_c rfl), by omega⟩
