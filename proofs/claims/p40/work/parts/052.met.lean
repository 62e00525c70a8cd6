def mX11_passSledge : MRec := (RX11, cX11_passSledge, 4, (none : Option Jvm.ClassFile.FieldType), yX11_passSledge, 3, 66, 0, 0, 11382825540385131274918722110294056093607852572571130007334838338313892571002175488)
def mX11_passShip_n : MRec := (RX11, cX11_passShip, 2, (none : Option Jvm.ClassFile.FieldType), yX11_passShip, 0, 0, 0, 0, 0)
def mX11_day : MRec := (RX11, cX11_day, 2, (some .int), yX11_day, 7, 175, 0, 0, 11382825540385131274918722110294056093607852572571130014762496435086127652970954753)
def mX11_sound : MRec := (RX11, cX11_sound, 5, (some .boolean), yX11_sound, 3, 73, 0, 0, 3794275180128377091639574036764685364535950857523710002445248344226201089335099392)
def mX11_sure : MRec := (RX11, cX11_sure, 3, (some .int), yX11_sure, 2, 48, 0, 0, 0)
def mX11_drill : MRec := (RX11, cX11_drill, 5, (some .int), yX11_drill, 2, 51, 0, 0, 3794275180128377091639574036764685364535950857523710002445248344226201089335099392)
def mX11_speed : MRec := (RX11, cX11_speed, 3, (some .boolean), yX11_speed, 1, 22, 0, 0, 3794275180128377091639574036764685364535950857523710002444946112771297432041422848)
def mX11_isYear : MRec := (RX11, cX11_isYear, 1, (some .boolean), yX11_isYear, 1, 22, 0, 0, 0)
def mX11_birds : MRec := (RX11, cX11_birds, 5, (some .boolean), yX11_birds, 2, 44, 0, 0, 3794275180128377091639574036764685364535950857523710002444946112771297432041422848)
def mX11_loss : MRec := (RX11, cX11_loss, 10, (some .int), yX11_loss, 2, 44, 0, 0, 0)
def mX11_noise : MRec := (RX11, cX11_noise, 4, (some .int), yX11_noise, 2, 44, 0, 0, 0)
set_option maxHeartbeats 1000000 in
theorem t_X11_passSledge {K : Kmap} {V : Vmap} {x : Nat} {p0 : Int} (h_x : K x = some (0, 10)) (r_p0 : ir p0) : MC mX11_passSledge K V [.ref x, ti p0] (VS K (fun V1 => (True))) := by
  refine MC.start 2 (by decide +kernel) rfl rfl rfl (ls0 := [some (.ref x), some (ti p0), none, none]) rfl ?_
  refine GO.aload_n dX11_passSledge_0 rfl rfl ?_
  refine GO.getR h_x fl_RX11_72 rfl rfl dX11_passSledge_1 (fun hv2 h1 => ?_)
  refine GO.iload_n dX11_passSledge_4 rfl rfl ?_
  refine GO.iconst dX11_passSledge_5 ?_
  refine GO.callV (ci := 7) (N := mX8_get) dX11_passSledge_6 (RX8, TX8, 4) rfl gV_RX11_209 h1 (t_X8_get h1 r_p0 (ir_c rfl)) rfl [] rfl rfl (Nat.le_of_ble_eq_true rfl) rfl (k_ip fun X3 r4 h5 => ?_)
  refine GO.if_eq (tgt := 31) dX11_passSledge_9 (by decide) r4 (fun c6 => ?_) (fun c6 => ?_)
  ·
    exact GO.retv rfl rfl dX11_passSledge_31 ⟨rfl, rfl, trivial⟩
  ·
    refine GO.aload_n dX11_passSledge_12 rfl rfl ?_
    refine GO.getRaw h_x fl_RX11_72 hv2 dX11_passSledge_13 ?_
    refine GO.iload_n dX11_passSledge_16 rfl rfl ?_
    refine GO.iconst dX11_passSledge_17 ?_
    refine GO.callV (ci := 7) (N := mX8_get) dX11_passSledge_18 (RX8, TX8, 4) rfl gV_RX11_209 h1 (t_X8_get h1 r_p0 (ir_c rfl)) rfl [] rfl rfl (Nat.le_of_ble_eq_true rfl) rfl (k_ip fun X9 r10 h11 => ?_)
    refine GO.aload_n dX11_passSledge_21 rfl rfl ?_
    refine GO.getR h_x fl_RX11_12 rfl rfl dX11_passSledge_22 (fun hv13 h12 => ?_)
    refine GO.getI h12 fl_RX11_145 rfl rfl dX11_passSledge_25 (fun _ _ => ?_)
    refine GO.icmp_eq (tgt := 32) dX11_passSledge_28 (by decide) r10 vi_ir (fun c14 => ?_) (fun c14 => ?_)
    ·
      refine GO.aload_n dX11_passSledge_32 rfl rfl ?_
      refine GO.getRaw h_x fl_RX11_72 hv2 dX11_passSledge_33 ?_
      refine GO.iload_n dX11_passSledge_36 rfl rfl ?_
      refine GO.iconst dX11_passSledge_37 ?_
      refine GO.iconst dX11_passSledge_38 ?_
      refine GO.callV (ci := 7) (N := mX8_put) dX11_passSledge_39 (RX8, TX8, 4) rfl gV_RX11_485 h1 (t_X8_put h1 r_p0 (ir_c rfl) (ir_c rfl)) rfl [] rfl rfl (Nat.le_of_ble_eq_true rfl) rfl (k_vs fun V19 h18 hF17 => ?_)
      refine GO.aload_n dX11_passSledge_42 rfl rfl ?_
      refine GO.getRaw h_x fl_RX11_72 (Eq.trans (hF17 _ _ _ h_x h_x (by decide +kernel)) hv2) dX11_passSledge_43 ?_
      refine GO.iload_n dX11_passSledge_46 rfl rfl ?_
      refine GO.iconst dX11_passSledge_47 ?_
      refine GO.callV (ci := 7) (N := mX8_get) dX11_passSledge_48 (RX8, TX8, 4) rfl gV_RX11_209 h1 (t_X8_get h1 r_p0 (ir_c rfl)) rfl [] rfl rfl (Nat.le_of_ble_eq_true rfl) rfl (k_ip fun X22 r23 h24 => ?_)
      refine GO.istore_n (ls1 := [some (.ref x), some (ti p0), some (ti X22), none]) dX11_passSledge_51 rfl rfl rfl ?_
      refine GO.aload_n dX11_passSledge_52 rfl rfl ?_
      refine GO.aload_n dX11_passSledge_53 rfl rfl ?_
      refine GO.getRaw h_x fl_RX11_72 (Eq.trans (hF17 _ _ _ h_x h_x (by decide +kernel)) hv2) dX11_passSledge_54 ?_
      refine GO.iload_n dX11_passSledge_57 rfl rfl ?_
      refine GO.iconst dX11_passSledge_58 ?_
      refine GO.callV (ci := 7) (N := mX8_get) dX11_passSledge_59 (RX8, TX8, 4) rfl gV_RX11_209 h1 (t_X8_get h1 r_p0 (ir_c rfl)) rfl [.ref x] rfl rfl (Nat.le_of_ble_eq_true rfl) rfl (k_ip fun X27 r28 h29 => ?_)
      refine GO.callV (ci := 10) (N := mX11_standingStation) dX11_passSledge_62 (RX11, TX11, 20) rfl gV_RX11_195 h_x (t_X11_standingStation h_x r28) rfl [] rfl rfl (Nat.le_of_ble_eq_true rfl) rfl (k_rp (fun h32 => ?_) (fun o30 h31 h32 => ?_))
      ·
        refine GO.astore_nN (ls1 := [some (.ref x), some (ti p0), some (ti X22), some (.null)]) dX11_passSledge_65 rfl rfl rfl ?_
        refine GO.aload_nN dX11_passSledge_66 rfl rfl ?_
        refine GO.ifnullN (tgt := 99) dX11_passSledge_67 (by decide) ?_
        refine GO.aload_n dX11_passSledge_99 rfl rfl ?_
        refine GO.iconst dX11_passSledge_100 ?_
        refine GO.iload_n dX11_passSledge_101 rfl rfl ?_
        refine GO.callV (ci := 10) (N := mX11_tally) dX11_passSledge_102 (RX11, TX11, 20) rfl gV_RX11_192 h_x (t_X11_tally h_x (ir_c rfl) r23) rfl [] rfl rfl (Nat.le_of_ble_eq_true rfl) rfl (k_vs fun V35 h34 hF33 => ?_)
        exact GO.retv rfl rfl dX11_passSledge_105 ⟨rfl, rfl, trivial⟩
      ·
        refine GO.astore_n (ls1 := [some (.ref x), some (ti p0), some (ti X22), some (.ref o30)]) dX11_passSledge_65 rfl rfl rfl ?_
        refine GO.aload_n dX11_passSledge_66 rfl rfl ?_
        refine GO.ifnull dX11_passSledge_67 ?_
        refine GO.aload_n dX11_passSledge_70 rfl rfl ?_
        refine GO.getI h31 fl_RX11_344 rfl rfl dX11_passSledge_71 (fun _ _ => ?_)
        refine GO.aload_n dX11_passSledge_74 rfl rfl ?_
        refine GO.getRaw h_x fl_RX11_72 (Eq.trans (hF17 _ _ _ h_x h_x (by decide +kernel)) hv2) dX11_passSledge_75 ?_
        refine GO.iload_n dX11_passSledge_78 rfl rfl ?_
        refine GO.iconst dX11_passSledge_79 ?_
        refine GO.callV (ci := 7) (N := mX8_get) dX11_passSledge_80 (RX8, TX8, 4) rfl gV_RX11_209 h1 (t_X8_get h1 r_p0 (ir_c rfl)) rfl [ti (vi V19 o30 2)] rfl rfl (Nat.le_of_ble_eq_true rfl) rfl (k_ip fun X38 r39 h40 => ?_)
        refine GO.icmp_ne (tgt := 99) dX11_passSledge_83 (by decide) vi_ir r39 (fun c41 => ?_) (fun c41 => ?_)
        ·
          refine GO.aload_n dX11_passSledge_99 rfl rfl ?_
          refine GO.iconst dX11_passSledge_100 ?_
          refine GO.iload_n dX11_passSledge_101 rfl rfl ?_
          refine GO.callV (ci := 10) (N := mX11_tally) dX11_passSledge_102 (RX11, TX11, 20) rfl gV_RX11_192 h_x (t_X11_tally h_x (ir_c rfl) r23) rfl [] rfl rfl (Nat.le_of_ble_eq_true rfl) rfl (k_vs fun V44 h43 hF42 => ?_)
          exact GO.retv rfl rfl dX11_passSledge_105 ⟨rfl, rfl, trivial⟩
        ·
          refine GO.aload_n dX11_passSledge_86 rfl rfl ?_
          refine GO.dup dX11_passSledge_87 rfl ?_
          refine GO.getI h31 fl_RX11_186 rfl rfl dX11_passSledge_88 (fun _ _ => ?_)
          refine GO.iload_n dX11_passSledge_91 rfl rfl ?_
          refine GO.iadd dX11_passSledge_92 ?_
          refine GO.norm (fun z45 r46 _ => ?_)
          refine GO.putI h31 fp_RX11_186 rfl (by decide +kernel) r46 (r46).1 (r46).2 dX11_passSledge_93 (fun V48 e47 => ?_)
          refine GO.goto (tgt := 105) dX11_passSledge_96 (by decide) ?_
          exact GO.retv rfl rfl dX11_passSledge_105 ⟨rfl, rfl, trivial⟩
    ·
      exact GO.retv rfl rfl dX11_passSledge_31 ⟨rfl, rfl, trivial⟩

set_option maxHeartbeats 1000000 in
theorem t_X11_passShip_n {K : Kmap} {V : Vmap} {x : Nat} (h_x : K x = some (0, 10)) : MC mX11_passShip_n K V [.ref x, .null] (VS K (fun V1 => (True))) := by
  refine MC.start 0 (by decide +kernel) rfl rfl rfl (ls0 := [some (.ref x), some (.null)]) rfl ?_
  refine GO.aload_nN dX11_passShip_0 rfl rfl ?_
  refine GO.ifnonnullN dX11_passShip_1 ?_
  exact GO.retv rfl rfl dX11_passShip_4 ⟨rfl, rfl, trivial⟩

set_option maxHeartbeats 1000000 in
theorem t_X11_day {K : Kmap} {V : Vmap} {x : Nat} (h_x : K x = some (0, 10)) : MC mX11_day K V [.ref x] (IS K (fun X V1 => True)) := by
  refine MC.start 1 (by decide +kernel) rfl rfl rfl (ls0 := [some (.ref x), none]) rfl ?_
  refine GO.aload_n dX11_day_0 rfl rfl ?_
  refine GO.getR h_x fl_RX11_12 rfl rfl dX11_day_1 (fun hv2 h1 => ?_)
  refine GO.getI h1 fl_RX11_145 rfl rfl dX11_day_4 (fun _ _ => ?_)
  refine GO.sipush dX11_day_7 rfl ?_
  refine GO.icmp_lt (tgt := 15) dX11_day_10 (by decide) vi_ir (ir_c rfl) (fun c3 => ?_) (fun c3 => ?_)
  ·
    refine GO.aload_n dX11_day_15 rfl rfl ?_
    refine GO.getRaw h_x fl_RX11_12 hv2 dX11_day_16 ?_
    refine GO.dup dX11_day_19 rfl ?_
    refine GO.getI h1 fl_RX11_145 rfl rfl dX11_day_20 (fun _ _ => ?_)
    refine GO.iconst dX11_day_23 ?_
    refine GO.iadd dX11_day_24 ?_
    have q7 : -2147483648 ≤ vi V (vq V x 0) 0 ∧ vi V (vq V x 0) 0 ≤ 2147483647 := vi_ir
    refine GO.putI h1 fp_RX11_145 rfl (by decide +kernel) ⟨by omega, by omega⟩ (by omega) (by omega) dX11_day_25 (fun V8 e6 => ?_)
    refine GO.aload_n dX11_day_28 rfl rfl ?_
    refine GO.getR h_x fl_RX11_26 rfl rfl dX11_day_29 (fun hv10 h9 => ?_)
    refine GO.callV (ci := 5) (N := mX6_forget) dX11_day_32 (RX6, TX6, 10) rfl gV_RX11_435 h9 (t_X6_forget h9) rfl [] rfl rfl (Nat.le_of_ble_eq_true rfl) rfl (k_vs fun V13 h12 hF11 => ?_)
    refine GO.iconst dX11_day_35 ?_
    refine GO.istore_n (ls1 := [some (.ref x), some (ti 0)]) dX11_day_36 rfl rfl rfl ?_
    refine GO.loop1 (fun i14 W => 0 ≤ i14 ∧ i14 ≤ 100 ∧ True) (fun i14 => [some (.ref x), some (ti i14)]) (fun i14 W => (2147483647 - i14).toNat) 0 ⟨by omega, by omega, trivial⟩ rfl (fun i14 Wi14 hp193894 ih193893 => ?_)
    obtain ⟨l_i14, u_i14, -⟩ := hp193894
    have r_i14 : ir i14 := ⟨by omega, by omega⟩
    show GO mX11_day K V (IS K (fun X V1 => True)) K Wi14 0 0 37 [some (.ref x), some (ti i14)] []
    refine GO.iload_n dX11_day_37 rfl rfl ?_
    refine GO.aload_n dX11_day_38 rfl rfl ?_
    refine GO.getI h_x fl_RX11_55 rfl rfl dX11_day_39 (fun l193895 u193896 => ?_)
    refine GO.icmp_ge (tgt := 56) dX11_day_42 (by decide) r_i14 vi_ir (fun c193897 => ?_) (fun c193897 => ?_)
    ·
      refine GO.aload_n dX11_day_56 rfl rfl ?_
      refine GO.callV (ci := 10) (N := mX11_admitParties) dX11_day_57 (RX11, TX11, 20) rfl gV_RX11_439 h_x (t_X11_admitParties h_x) rfl [] rfl rfl (Nat.le_of_ble_eq_true rfl) rfl (k_vs fun V193900 h193899 hF193898 => ?_)
      refine GO.iconst dX11_day_60 ?_
      refine GO.istore_n (ls1 := [some (.ref x), some (ti 0)]) dX11_day_61 rfl rfl rfl ?_
      refine GO.loop1 (fun i193901 W => 0 ≤ i193901 ∧ i193901 ≤ 60 ∧ True) (fun i193901 => [some (.ref x), some (ti i193901)]) (fun i193901 W => (2147483647 - i193901).toNat) 0 ⟨by omega, by omega, trivial⟩ rfl (fun i193901 Wi193901 hp213280 ih213279 => ?_)
      obtain ⟨l_i193901, u_i193901, -⟩ := hp213280
      have r_i193901 : ir i193901 := ⟨by omega, by omega⟩
      show GO mX11_day K V (IS K (fun X V1 => True)) K Wi193901 0 0 62 [some (.ref x), some (ti i193901)] []
      refine GO.iload_n dX11_day_62 rfl rfl ?_
      refine GO.aload_n dX11_day_63 rfl rfl ?_
      refine GO.getI h_x fl_RX11_46 rfl rfl dX11_day_64 (fun l213281 u213282 => ?_)
      refine GO.icmp_ge (tgt := 81) dX11_day_67 (by decide) r_i193901 vi_ir (fun c213283 => ?_) (fun c213283 => ?_)
      ·
        refine GO.iconst dX11_day_81 ?_
        refine GO.istore_n (ls1 := [some (.ref x), some (ti 0)]) dX11_day_82 rfl rfl rfl ?_
        refine GO.loop1 (fun i213284 W => 0 ≤ i213284 ∧ i213284 ≤ 10 ∧ True) (fun i213284 => [some (.ref x), some (ti i213284)]) (fun i213284 W => (2147483647 - i213284).toNat) 0 ⟨by omega, by omega, trivial⟩ rfl (fun i213284 Wi213284 hp215162 ih215161 => ?_)
        obtain ⟨l_i213284, u_i213284, -⟩ := hp215162
        have r_i213284 : ir i213284 := ⟨by omega, by omega⟩
        show GO mX11_day K V (IS K (fun X V1 => True)) K Wi213284 0 0 83 [some (.ref x), some (ti i213284)] []
        refine GO.iload_n dX11_day_83 rfl rfl ?_
        refine GO.aload_n dX11_day_84 rfl rfl ?_
        refine GO.getI h_x fl_RX11_64 rfl rfl dX11_day_85 (fun l215163 u215164 => ?_)
        refine GO.icmp_ge (tgt := 106) dX11_day_88 (by decide) r_i213284 vi_ir (fun c215165 => ?_) (fun c215165 => ?_)
        ·
          refine GO.iconst dX11_day_106 ?_
          refine GO.istore_n (ls1 := [some (.ref x), some (ti 0)]) dX11_day_107 rfl rfl rfl ?_
          refine GO.loop1 (fun i215166 W => 0 ≤ i215166 ∧ i215166 ≤ 2147483647 ∧ True) (fun i215166 => [some (.ref x), some (ti i215166)]) (fun i215166 W => (2147483647 - i215166).toNat) 0 ⟨by omega, by omega, trivial⟩ rfl (fun i215166 Wi215166 hp215411 ih215410 => ?_)
          obtain ⟨l_i215166, u_i215166, -⟩ := hp215411
          have r_i215166 : ir i215166 := ⟨by omega, by omega⟩
          show GO mX11_day K V (IS K (fun X V1 => True)) K Wi215166 0 0 108 [some (.ref x), some (ti i215166)] []
          refine GO.iload_n dX11_day_108 rfl rfl ?_
          refine GO.aload_n dX11_day_109 rfl rfl ?_
          refine GO.getR h_x fl_RX11_72 rfl rfl dX11_day_110 (fun hv215413 h215412 => ?_)
          refine GO.getI h215412 fl_RX11_199 rfl rfl dX11_day_113 (fun _ _ => ?_)
          refine GO.icmp_ge (tgt := 130) dX11_day_116 (by decide) r_i215166 vi_ir (fun c215414 => ?_) (fun c215414 => ?_)
          ·
            refine GO.aload_n dX11_day_130 rfl rfl ?_
            refine GO.getR h_x fl_RX11_12 rfl rfl dX11_day_131 (fun hv215416 h215415 => ?_)
            refine GO.getI h215415 fl_RX11_145 rfl rfl dX11_day_134 (fun _ _ => ?_)
            have q215417 : -2147483648 ≤ vi Wi215166 (vq Wi215166 x 0) 0 ∧ vi Wi215166 (vq Wi215166 x 0) 0 ≤ 2147483647 := vi_ir
            exact GO.reti rfl rfl dX11_day_137 ⟨rfl, _, rfl, vi_ir, trivial⟩
          ·
            refine GO.aload_n dX11_day_119 rfl rfl ?_
            refine GO.iload_n dX11_day_120 rfl rfl ?_
            refine GO.callV (ci := 10) (N := mX11_passSledge) dX11_day_121 (RX11, TX11, 20) rfl gV_RX11_449 h_x (t_X11_passSledge h_x r_i215166) rfl [] rfl rfl (Nat.le_of_ble_eq_true rfl) rfl (k_vs fun V215420 h215419 hF215418 => ?_)
            refine GO.iinc (X := i215166) (n := 1) (Y := i215166 + 1) (ls1 := [some (.ref x), some (ti (i215166 + 1))]) dX11_day_124 rfl rfl rfl rfl ?_
            refine GO.goto (tgt := 108) dX11_day_127 (by decide) ?_
            have q215421 : -2147483648 ≤ vi Wi215166 (vq Wi215166 x 11) 3 ∧ vi Wi215166 (vq Wi215166 x 11) 3 ≤ 2147483647 := vi_ir
            exact ih215410 (i215166 + 1) V215420 ⟨by omega, by omega, trivial⟩ (by show (2147483647 - (i215166 + 1)).toNat < (2147483647 - i215166).toNat; omega)
        ·
          refine GO.aload_n dX11_day_91 rfl rfl ?_
          refine GO.aload_n dX11_day_92 rfl rfl ?_
          refine GO.iload_n dX11_day_93 rfl rfl ?_
          refine GO.callV (ci := 10) (N := mX11_shipOf) dX11_day_94 (RX11, TX11, 20) rfl gV_RX11_403 h_x (t_X11_shipOf h_x r_i213284) rfl [.ref x] rfl rfl (Nat.le_of_ble_eq_true rfl) rfl (k_rp (fun h215424 => ?_) (fun o215422 h215423 h215424 => ?_))
          ·
            refine GO.callV (ci := 10) (N := mX11_passShip_n) dX11_day_97 (RX11, TX11, 20) rfl gV_RX11_445 h_x (t_X11_passShip_n h_x) rfl [] rfl rfl (Nat.le_of_ble_eq_true rfl) rfl (k_vs fun V215427 h215426 hF215425 => ?_)
            refine GO.iinc (X := i213284) (n := 1) (Y := i213284 + 1) (ls1 := [some (.ref x), some (ti (i213284 + 1))]) dX11_day_100 rfl rfl rfl rfl ?_
            refine GO.goto (tgt := 83) dX11_day_103 (by decide) ?_
            exact ih215161 (i213284 + 1) V215427 ⟨by omega, by omega, trivial⟩ (by show (2147483647 - (i213284 + 1)).toNat < (2147483647 - i213284).toNat; omega)
          ·
            refine GO.callV (ci := 10) (N := mX11_passShip) dX11_day_97 (RX11, TX11, 20) rfl gV_RX11_445 h_x (t_X11_passShip h_x h215423) rfl [] rfl rfl (Nat.le_of_ble_eq_true rfl) rfl (k_vs fun V215430 h215429 hF215428 => ?_)
            refine GO.iinc (X := i213284) (n := 1) (Y := i213284 + 1) (ls1 := [some (.ref x), some (ti (i213284 + 1))]) dX11_day_100 rfl rfl rfl rfl ?_
            refine GO.goto (tgt := 83) dX11_day_103 (by decide) ?_
            exact ih215161 (i213284 + 1) V215430 ⟨by omega, by omega, trivial⟩ (by show (2147483647 - (i213284 + 1)).toNat < (2147483647 - i213284).toNat; omega)
      ·
        refine GO.aload_n dX11_day_70 rfl rfl ?_
        refine GO.iload_n dX11_day_71 rfl rfl ?_
        refine GO.callV (ci := 10) (N := mX11_passStation) dX11_day_72 (RX11, TX11, 20) rfl gV_RX11_442 h_x (t_X11_passStation h_x r_i193901) rfl [] rfl rfl (Nat.le_of_ble_eq_true rfl) rfl (k_vs fun V215433 h215432 hF215431 => ?_)
        refine GO.iinc (X := i193901) (n := 1) (Y := i193901 + 1) (ls1 := [some (.ref x), some (ti (i193901 + 1))]) dX11_day_75 rfl rfl rfl rfl ?_
        refine GO.goto (tgt := 62) dX11_day_78 (by decide) ?_
        exact ih213279 (i193901 + 1) V215433 ⟨by omega, by omega, trivial⟩ (by show (2147483647 - (i193901 + 1)).toNat < (2147483647 - i193901).toNat; omega)
    ·
      refine GO.aload_n dX11_day_45 rfl rfl ?_
      refine GO.iload_n dX11_day_46 rfl rfl ?_
      refine GO.callV (ci := 10) (N := mX11_passWork) dX11_day_47 (RX11, TX11, 20) rfl gV_RX11_436 h_x (t_X11_passWork h_x r_i14) rfl [] rfl rfl (Nat.le_of_ble_eq_true rfl) rfl (k_vs fun V215436 h215435 hF215434 => ?_)
      refine GO.iinc (X := i14) (n := 1) (Y := i14 + 1) (ls1 := [some (.ref x), some (ti (i14 + 1))]) dX11_day_50 rfl rfl rfl rfl ?_
      refine GO.goto (tgt := 37) dX11_day_53 (by decide) ?_
      exact ih193893 (i14 + 1) V215436 ⟨by omega, by omega, trivial⟩ (by show (2147483647 - (i14 + 1)).toNat < (2147483647 - i14).toNat; omega)
  ·
    refine GO.iconst dX11_day_13 ?_
    exact GO.reti rfl rfl dX11_day_14 ⟨rfl, _, rfl, (ir_c rfl), trivial⟩

set_option maxHeartbeats 1000000 in
theorem t_X11_sound {K : Kmap} {V : Vmap} {x : Nat} {p0 : Int} {p1 : Int} {p2 : Int} (h_x : K x = some (0, 10)) (r_p0 : ir p0) (r_p1 : ir p1) (r_p2 : ir p2) : MC mX11_sound K V [.ref x, ti p0, ti p1, ti p2] (IS K (fun X V1 => (X = 0 ∨ X = 1) ∧ (X ≠ 0 → True) ∧ (X = 0 → True))) := by
  refine MC.start 1 (by decide +kernel) rfl rfl rfl (ls0 := [some (.ref x), some (ti p0), some (ti p1), some (ti p2), none]) rfl ?_
  refine GO.aload_n dX11_sound_0 rfl rfl ?_
  refine GO.iload_n dX11_sound_1 rfl rfl ?_
  refine GO.iconst dX11_sound_2 ?_
  refine GO.callV (ci := 10) (N := mX11_placeOf) dX11_sound_3 (RX11, TX11, 20) rfl gV_RX11_169 h_x (t_X11_placeOf h_x r_p0 (ir_c rfl)) rfl [] rfl rfl (Nat.le_of_ble_eq_true rfl) rfl (k_rp (fun h3 => ?_) (fun o1 h2 h3 => ?_))
  ·
    refine GO.astoreN (ls1 := [some (.ref x), some (ti p0), some (ti p1), some (ti p2), some (.null)]) dX11_sound_6 rfl rfl ?_
    refine GO.aloadN dX11_sound_8 rfl ?_
    refine GO.ifnullN (tgt := 35) dX11_sound_10 (by decide) ?_
    refine GO.iconst dX11_sound_35 ?_
    exact GO.retz rfl rfl dX11_sound_36 (Or.inl rfl) ⟨rfl, _, rfl, (ir_c rfl), ⟨Or.inl rfl, fun _ => trivial, fun _ => trivial⟩⟩
  ·
    refine GO.astore (ls1 := [some (.ref x), some (ti p0), some (ti p1), some (ti p2), some (.ref o1)]) dX11_sound_6 rfl rfl ?_
    refine GO.aload dX11_sound_8 rfl ?_
    refine GO.ifnull dX11_sound_10 ?_
    refine GO.iload_n dX11_sound_13 rfl rfl ?_
    refine GO.iconst dX11_sound_14 ?_
    refine GO.sipush dX11_sound_15 rfl ?_
    refine GO.callS (N := mX11_between) dX11_sound_18 gS_RX11_112 (t_X11_between r_p1 (ir_c rfl) (ir_c rfl)) rfl [] rfl rfl (Nat.le_of_ble_eq_true rfl) rfl (k_ip fun X4 r5 h6 => ?_)
    refine GO.if_eq (tgt := 35) dX11_sound_21 (by decide) r5 (fun c7 => ?_) (fun c7 => ?_)
    ·
      have q8 := h6.2.2 (by omega)
      refine GO.iconst dX11_sound_35 ?_
      exact GO.retz rfl rfl dX11_sound_36 (Or.inl rfl) ⟨rfl, _, rfl, (ir_c rfl), ⟨Or.inl rfl, fun _ => trivial, fun _ => trivial⟩⟩
    ·
      have q9 := h6.2.1 (by omega)
      refine GO.iload_n dX11_sound_24 rfl rfl ?_
      refine GO.iconst dX11_sound_25 ?_
      refine GO.sipush dX11_sound_26 rfl ?_
      refine GO.callS (N := mX11_between) dX11_sound_29 gS_RX11_112 (t_X11_between r_p2 (ir_c rfl) (ir_c rfl)) rfl [] rfl rfl (Nat.le_of_ble_eq_true rfl) rfl (k_ip fun X10 r11 h12 => ?_)
      refine GO.if_ne (tgt := 37) dX11_sound_32 (by decide) r11 (fun c13 => ?_) (fun c13 => ?_)
      ·
        have q14 := h12.2.1 (by omega)
        refine GO.aload dX11_sound_37 rfl ?_
        refine GO.iload_n dX11_sound_39 rfl rfl ?_
        refine GO.iload_n dX11_sound_40 rfl rfl ?_
        refine GO.callV (ci := 3) (N := mX3_addSounding) dX11_sound_41 (RX3, TX3, 16) rfl gV_RX11_556 h2 (t_X3_addSounding h2 r_p1 r_p2) rfl [] rfl rfl (Nat.le_of_ble_eq_true rfl) rfl (k_is fun X15 V19 r16 h17 hF18 => ?_)
        exact GO.retz rfl rfl dX11_sound_44 (by omega) ⟨rfl, _, rfl, r16, ⟨by omega, fun _ => trivial, fun _ => trivial⟩⟩
      ·
        have q20 := h12.2.2 (by omega)
        refine GO.iconst dX11_sound_35 ?_
        exact GO.retz rfl rfl dX11_sound_36 (Or.inl rfl) ⟨rfl, _, rfl, (ir_c rfl), ⟨Or.inl rfl, fun _ => trivial, fun _ => trivial⟩⟩

set_option maxHeartbeats 1000000 in
theorem t_X11_sure {K : Kmap} {V : Vmap} {x : Nat} {p0 : Int} (h_x : K x = some (0, 10)) (r_p0 : ir p0) : MC mX11_sure K V [.ref x, ti p0] (IP K V (fun X => True)) := by
  refine MC.start 1 (by decide +kernel) rfl rfl rfl (ls0 := [some (.ref x), some (ti p0), none]) rfl ?_
  refine GO.aload_n dX11_sure_0 rfl rfl ?_
  refine GO.iload_n dX11_sure_1 rfl rfl ?_
  refine GO.iconst dX11_sure_2 ?_
  refine GO.callV (ci := 10) (N := mX11_placeOf) dX11_sure_3 (RX11, TX11, 20) rfl gV_RX11_169 h_x (t_X11_placeOf h_x r_p0 (ir_c rfl)) rfl [] rfl rfl (Nat.le_of_ble_eq_true rfl) rfl (k_rp (fun h3 => ?_) (fun o1 h2 h3 => ?_))
  ·
    refine GO.astore_nN (ls1 := [some (.ref x), some (ti p0), some (.null)]) dX11_sure_6 rfl rfl rfl ?_
    refine GO.aload_nN dX11_sure_7 rfl rfl ?_
    refine GO.ifnonnullN dX11_sure_8 ?_
    refine GO.iconst dX11_sure_11 ?_
    refine GO.goto (tgt := 19) dX11_sure_12 (by decide) ?_
    exact GO.reti rfl rfl dX11_sure_19 ⟨rfl, rfl, _, rfl, (ir_c rfl), trivial⟩
  ·
    refine GO.astore_n (ls1 := [some (.ref x), some (ti p0), some (.ref o1)]) dX11_sure_6 rfl rfl rfl ?_
    refine GO.aload_n dX11_sure_7 rfl rfl ?_
    refine GO.ifnonnull (tgt := 15) dX11_sure_8 (by decide) ?_
    refine GO.aload_n dX11_sure_15 rfl rfl ?_
    refine GO.callV (ci := 3) (N := mX3_sureDepth) dX11_sure_16 (RX3, TX3, 16) rfl gV_RX11_482 h2 (t_X3_sureDepth h2) rfl [] rfl rfl (Nat.le_of_ble_eq_true rfl) rfl (k_ip fun X4 r5 h6 => ?_)
    have q7 : -2147483648 ≤ X4 ∧ X4 ≤ 2147483647 := r5
    exact GO.reti rfl rfl dX11_sure_19 ⟨rfl, rfl, _, rfl, r5, trivial⟩

set_option maxHeartbeats 1000000 in
theorem t_X11_drill {K : Kmap} {V : Vmap} {x : Nat} {p0 : Int} {p1 : Int} (h_x : K x = some (0, 10)) (r_p0 : ir p0) (r_p1 : ir p1) : MC mX11_drill K V [.ref x, ti p0, ti p1] (IS K (fun X V1 => True)) := by
  refine MC.start 2 (by decide +kernel) rfl rfl rfl (ls0 := [some (.ref x), some (ti p0), some (ti p1), none, none]) rfl ?_
  refine GO.aload_n dX11_drill_0 rfl rfl ?_
  refine GO.iload_n dX11_drill_1 rfl rfl ?_
  refine GO.iconst dX11_drill_2 ?_
  refine GO.callV (ci := 10) (N := mX11_placeOf) dX11_drill_3 (RX11, TX11, 20) rfl gV_RX11_169 h_x (t_X11_placeOf h_x r_p0 (ir_c rfl)) rfl [] rfl rfl (Nat.le_of_ble_eq_true rfl) rfl (k_rp (fun h3 => ?_) (fun o1 h2 h3 => ?_))
  ·
    refine GO.astore_nN (ls1 := [some (.ref x), some (ti p0), some (ti p1), some (.null), none]) dX11_drill_6 rfl rfl rfl ?_
    refine GO.aload_n dX11_drill_7 rfl rfl ?_
    refine GO.iload_n dX11_drill_8 rfl rfl ?_
    refine GO.callV (ci := 10) (N := mX11_workOf) dX11_drill_9 (RX11, TX11, 20) rfl gV_RX11_309 h_x (t_X11_workOf h_x r_p1) rfl [] rfl rfl (Nat.le_of_ble_eq_true rfl) rfl (k_rp (fun h6 => ?_) (fun o4 h5 h6 => ?_))
    ·
      refine GO.astoreN (ls1 := [some (.ref x), some (ti p0), some (ti p1), some (.null), some (.null)]) dX11_drill_12 rfl rfl ?_
      refine GO.aload_nN dX11_drill_14 rfl rfl ?_
      refine GO.ifnullN (tgt := 44) dX11_drill_15 (by decide) ?_
      refine GO.iconst dX11_drill_44 ?_
      exact GO.reti rfl rfl dX11_drill_45 ⟨rfl, _, rfl, (ir_c rfl), trivial⟩
    ·
      refine GO.astore (ls1 := [some (.ref x), some (ti p0), some (ti p1), some (.null), some (.ref o4)]) dX11_drill_12 rfl rfl ?_
      refine GO.aload_nN dX11_drill_14 rfl rfl ?_
      refine GO.ifnullN (tgt := 44) dX11_drill_15 (by decide) ?_
      refine GO.iconst dX11_drill_44 ?_
      exact GO.reti rfl rfl dX11_drill_45 ⟨rfl, _, rfl, (ir_c rfl), trivial⟩
  ·
    refine GO.astore_n (ls1 := [some (.ref x), some (ti p0), some (ti p1), some (.ref o1), none]) dX11_drill_6 rfl rfl rfl ?_
    refine GO.aload_n dX11_drill_7 rfl rfl ?_
    refine GO.iload_n dX11_drill_8 rfl rfl ?_
    refine GO.callV (ci := 10) (N := mX11_workOf) dX11_drill_9 (RX11, TX11, 20) rfl gV_RX11_309 h_x (t_X11_workOf h_x r_p1) rfl [] rfl rfl (Nat.le_of_ble_eq_true rfl) rfl (k_rp (fun h9 => ?_) (fun o7 h8 h9 => ?_))
    ·
      refine GO.astoreN (ls1 := [some (.ref x), some (ti p0), some (ti p1), some (.ref o1), some (.null)]) dX11_drill_12 rfl rfl ?_
      refine GO.aload_n dX11_drill_14 rfl rfl ?_
      refine GO.ifnull dX11_drill_15 ?_
      refine GO.aloadN dX11_drill_18 rfl ?_
      refine GO.ifnullN (tgt := 44) dX11_drill_20 (by decide) ?_
      refine GO.iconst dX11_drill_44 ?_
      exact GO.reti rfl rfl dX11_drill_45 ⟨rfl, _, rfl, (ir_c rfl), trivial⟩
    ·
      refine GO.astore (ls1 := [some (.ref x), some (ti p0), some (ti p1), some (.ref o1), some (.ref o7)]) dX11_drill_12 rfl rfl ?_
      refine GO.aload_n dX11_drill_14 rfl rfl ?_
      refine GO.ifnull dX11_drill_15 ?_
      refine GO.aload dX11_drill_18 rfl ?_
      refine GO.ifnull dX11_drill_20 ?_
      refine GO.aload dX11_drill_23 rfl ?_
      refine GO.getI h8 fl_RX11_375 rfl rfl dX11_drill_25 (fun _ _ => ?_)
      refine GO.iconst dX11_drill_28 ?_
      refine GO.icmp_ne (tgt := 44) dX11_drill_29 (by decide) vi_ir (ir_c rfl) (fun c10 => ?_) (fun c10 => ?_)
      ·
        refine GO.iconst dX11_drill_44 ?_
        exact GO.reti rfl rfl dX11_drill_45 ⟨rfl, _, rfl, (ir_c rfl), trivial⟩
      ·
        refine GO.aload dX11_drill_32 rfl ?_
        refine GO.getI h8 fl_RX11_378 rfl rfl dX11_drill_34 (fun _ _ => ?_)
        refine GO.aload_n dX11_drill_37 rfl rfl ?_
        refine GO.getI h2 fl_RX11_344 rfl rfl dX11_drill_38 (fun _ _ => ?_)
        refine GO.icmp_eq (tgt := 46) dX11_drill_41 (by decide) vi_ir vi_ir (fun c11 => ?_) (fun c11 => ?_)
        ·
          refine GO.aload_n dX11_drill_46 rfl rfl ?_
          refine GO.getR h_x fl_RX11_79 rfl rfl dX11_drill_47 (fun hv13 h12 => ?_)
          refine GO.iload_n dX11_drill_50 rfl rfl ?_
          refine GO.iload_n dX11_drill_51 rfl rfl ?_
          refine GO.iconst dX11_drill_52 ?_
          refine GO.iconst dX11_drill_53 ?_
          refine GO.iconst dX11_drill_54 ?_
          refine GO.callV (ci := 7) (N := mX8_append) dX11_drill_55 (RX8, TX8, 4) rfl gV_RX11_205 h12 (t_X8_append h12 r_p0 r_p1 (ir_c rfl) (ir_c rfl) (ir_c rfl)) rfl [] rfl rfl (Nat.le_of_ble_eq_true rfl) rfl (k_is fun X14 V18 r15 h16 hF17 => ?_)
          have q19 : -2147483648 ≤ X14 ∧ X14 ≤ 2147483647 := r15
          exact GO.reti rfl rfl dX11_drill_58 ⟨rfl, _, rfl, r15, trivial⟩
        ·
          refine GO.iconst dX11_drill_44 ?_
          exact GO.reti rfl rfl dX11_drill_45 ⟨rfl, _, rfl, (ir_c rfl), trivial⟩

set_option maxHeartbeats 1000000 in
theorem t_X11_speed {K : Kmap} {V : Vmap} {x : Nat} {p0 : Int} {p1 : Int} (h_x : K x = some (0, 10)) (r_p0 : ir p0) (r_p1 : ir p1) : MC mX11_speed K V [.ref x, ti p0, ti p1] (IS K (fun X V1 => (X = 0 ∨ X = 1) ∧ (X ≠ 0 → ((p0 = (-1) ∧ p1 ≥ 0 ∧ p1 ≤ 1000) ∨ (p0 ≥ 0 ∧ p0 ≤ 9 ∧ p1 ≥ 1 ∧ p1 ≤ 200))) ∧ (X = 0 → (p0 ≠ (-1) ∨ p1 < 0 ∨ p1 > 1000) ∧ (p0 < 0 ∨ p0 > 9 ∨ p1 < 1 ∨ p1 > 200)))) := by
  refine MC.start 0 (by decide +kernel) rfl rfl rfl (ls0 := [some (.ref x), some (ti p0), some (ti p1)]) rfl ?_
  refine GO.iload_n dX11_speed_0 rfl rfl ?_
  refine GO.iconst dX11_speed_1 ?_
  refine GO.icmp_ne (tgt := 28) dX11_speed_2 (by decide) r_p0 (ir_c rfl) (fun c1 => ?_) (fun c1 => ?_)
  ·
    refine GO.iload_n dX11_speed_28 rfl rfl ?_
    refine GO.iconst dX11_speed_29 ?_
    refine GO.bipush dX11_speed_30 rfl ?_
    refine GO.callS (N := mX11_between) dX11_speed_32 gS_RX11_112 (t_X11_between r_p0 (ir_c rfl) (ir_c rfl)) rfl [] rfl rfl (Nat.le_of_ble_eq_true rfl) rfl (k_ip fun X2 r3 h4 => ?_)
    refine GO.if_eq (tgt := 60) dX11_speed_35 (by decide) r3 (fun c5 => ?_) (fun c5 => ?_)
    ·
      have q6 := h4.2.2 (by omega)
      refine GO.iconst dX11_speed_60 ?_
      exact GO.retz rfl rfl dX11_speed_61 (Or.inl rfl) ⟨rfl, _, rfl, (ir_c rfl), ⟨Or.inl rfl, fun h => absurd rfl h, fun h => by omega⟩⟩
    ·
      have q7 := h4.2.1 (by omega)
      refine GO.iload_n dX11_speed_38 rfl rfl ?_
      refine GO.iconst dX11_speed_39 ?_
      refine GO.sipush dX11_speed_40 rfl ?_
      refine GO.callS (N := mX11_between) dX11_speed_43 gS_RX11_112 (t_X11_between r_p1 (ir_c rfl) (ir_c rfl)) rfl [] rfl rfl (Nat.le_of_ble_eq_true rfl) rfl (k_ip fun X8 r9 h10 => ?_)
      refine GO.if_eq (tgt := 60) dX11_speed_46 (by decide) r9 (fun c11 => ?_) (fun c11 => ?_)
      ·
        have q12 := h10.2.2 (by omega)
        refine GO.iconst dX11_speed_60 ?_
        exact GO.retz rfl rfl dX11_speed_61 (Or.inl rfl) ⟨rfl, _, rfl, (ir_c rfl), ⟨Or.inl rfl, fun h => absurd rfl h, fun h => by omega⟩⟩
      ·
        have q13 := h10.2.1 (by omega)
        refine GO.aload_n dX11_speed_49 rfl rfl ?_
        refine GO.getB h_x fl_RX11_94 rfl rfl dX11_speed_50 (fun n16 hv15 h14 b17 => ?_)
        refine GO.iload_n dX11_speed_53 rfl rfl ?_
        refine GO.iload_n dX11_speed_54 rfl rfl ?_
        refine GO.callS (N := mX4_put) dX11_speed_55 gS_RX11_108 (t_X4_put h14 r_p0 r_p1) rfl [] rfl rfl (Nat.le_of_ble_eq_true rfl) rfl (k_vs fun V20 h19 hF18 => ?_)
        refine GO.iconst dX11_speed_58 ?_
        exact GO.retz rfl rfl dX11_speed_59 (Or.inr rfl) ⟨rfl, _, rfl, (ir_c rfl), ⟨Or.inr rfl, fun h => by omega, fun h => absurd h (by decide)⟩⟩
  ·
    refine GO.iload_n dX11_speed_5 rfl rfl ?_
    refine GO.iconst dX11_speed_6 ?_
    refine GO.sipush dX11_speed_7 rfl ?_
    refine GO.callS (N := mX11_between) dX11_speed_10 gS_RX11_112 (t_X11_between r_p1 (ir_c rfl) (ir_c rfl)) rfl [] rfl rfl (Nat.le_of_ble_eq_true rfl) rfl (k_ip fun X21 r22 h23 => ?_)
    refine GO.if_eq (tgt := 28) dX11_speed_13 (by decide) r22 (fun c24 => ?_) (fun c24 => ?_)
    ·
      have q25 := h23.2.2 (by omega)
      refine GO.iload_n dX11_speed_28 rfl rfl ?_
      refine GO.iconst dX11_speed_29 ?_
      refine GO.bipush dX11_speed_30 rfl ?_
      refine GO.callS (N := mX11_between) dX11_speed_32 gS_RX11_112 (t_X11_between r_p0 (ir_c rfl) (ir_c rfl)) rfl [] rfl rfl (Nat.le_of_ble_eq_true rfl) rfl (k_ip fun X26 r27 h28 => ?_)
      refine GO.if_eq (tgt := 60) dX11_speed_35 (by decide) r27 (fun c29 => ?_) (fun c29 => ?_)
      ·
        have q30 := h28.2.2 (by omega)
        refine GO.iconst dX11_speed_60 ?_
        exact GO.retz rfl rfl dX11_speed_61 (Or.inl rfl) ⟨rfl, _, rfl, (ir_c rfl), ⟨Or.inl rfl, fun h => absurd rfl h, fun h => by omega⟩⟩
      ·
        have q31 := h28.2.1 (by omega)
        refine GO.iload_n dX11_speed_38 rfl rfl ?_
        refine GO.iconst dX11_speed_39 ?_
        refine GO.sipush dX11_speed_40 rfl ?_
        refine GO.callS (N := mX11_between) dX11_speed_43 gS_RX11_112 (t_X11_between r_p1 (ir_c rfl) (ir_c rfl)) rfl [] rfl rfl (Nat.le_of_ble_eq_true rfl) rfl (k_ip fun X32 r33 h34 => ?_)
        refine GO.if_eq (tgt := 60) dX11_speed_46 (by decide) r33 (fun c35 => ?_) (fun c35 => ?_)
        ·
          have q36 := h34.2.2 (by omega)
          refine GO.iconst dX11_speed_60 ?_
          exact GO.retz rfl rfl dX11_speed_61 (Or.inl rfl) ⟨rfl, _, rfl, (ir_c rfl), ⟨Or.inl rfl, fun h => absurd rfl h, fun h => by omega⟩⟩
        ·
          have q37 := h34.2.1 (by omega)
          refine GO.aload_n dX11_speed_49 rfl rfl ?_
          refine GO.getB h_x fl_RX11_94 rfl rfl dX11_speed_50 (fun n40 hv39 h38 b41 => ?_)
          refine GO.iload_n dX11_speed_53 rfl rfl ?_
          refine GO.iload_n dX11_speed_54 rfl rfl ?_
          refine GO.callS (N := mX4_put) dX11_speed_55 gS_RX11_108 (t_X4_put h38 r_p0 r_p1) rfl [] rfl rfl (Nat.le_of_ble_eq_true rfl) rfl (k_vs fun V44 h43 hF42 => ?_)
          refine GO.iconst dX11_speed_58 ?_
          exact GO.retz rfl rfl dX11_speed_59 (Or.inr rfl) ⟨rfl, _, rfl, (ir_c rfl), ⟨Or.inr rfl, fun h => by omega, fun h => absurd h (by decide)⟩⟩
    ·
      have q45 := h23.2.1 (by omega)
      refine GO.aload_n dX11_speed_16 rfl rfl ?_
      refine GO.getB h_x fl_RX11_94 rfl rfl dX11_speed_17 (fun n48 hv47 h46 b49 => ?_)
      refine GO.bipush dX11_speed_20 rfl ?_
      refine GO.iload_n dX11_speed_22 rfl rfl ?_
      refine GO.callS (N := mX4_put) dX11_speed_23 gS_RX11_108 (t_X4_put h46 (ir_c rfl) r_p1) rfl [] rfl rfl (Nat.le_of_ble_eq_true rfl) rfl (k_vs fun V52 h51 hF50 => ?_)
      refine GO.iconst dX11_speed_26 ?_
      exact GO.retz rfl rfl dX11_speed_27 (Or.inr rfl) ⟨rfl, _, rfl, (ir_c rfl), ⟨Or.inr rfl, fun h => by omega, fun h => absurd h (by decide)⟩⟩

set_option maxHeartbeats 1000000 in
theorem t_X11_isYear {K : Kmap} {V : Vmap} {p0 : Int} (r_p0 : ir p0) : MC mX11_isYear K V [ti p0] (IP K V (fun X => (X = 0 ∨ X = 1) ∧ (X ≠ 0 → True) ∧ (X = 0 → True))) := by
  refine MC.start 0 (by decide +kernel) rfl rfl rfl (ls0 := [some (ti p0)]) rfl ?_
  refine GO.iload_n dX11_isYear_0 rfl rfl ?_
  refine GO.iconst dX11_isYear_1 ?_
  refine GO.bipush dX11_isYear_2 rfl ?_
  refine GO.callS (N := mX11_between) dX11_isYear_4 gS_RX11_112 (t_X11_between r_p0 (ir_c rfl) (ir_c rfl)) rfl [] rfl rfl (Nat.le_of_ble_eq_true rfl) rfl (k_ip fun X1 r2 h3 => ?_)
  exact GO.retz rfl rfl dX11_isYear_7 (by omega) ⟨rfl, rfl, _, rfl, r2, ⟨by omega, fun _ => trivial, fun _ => trivial⟩⟩

set_option maxHeartbeats 1000000 in
theorem t_X11_birds {K : Kmap} {V : Vmap} {x : Nat} {p0 : Int} {p1 : Int} {p2 : Int} (h_x : K x = some (0, 10)) (r_p0 : ir p0) (r_p1 : ir p1) (r_p2 : ir p2) : MC mX11_birds K V [.ref x, ti p0, ti p1, ti p2] (IS K (fun X V1 => (X = 0 ∨ X = 1) ∧ (X ≠ 0 → True) ∧ (X = 0 → True))) := by
  refine MC.start 1 (by decide +kernel) rfl rfl rfl (ls0 := [some (.ref x), some (ti p0), some (ti p1), some (ti p2), none]) rfl ?_
  refine GO.aload_n dX11_birds_0 rfl rfl ?_
  refine GO.iload_n dX11_birds_1 rfl rfl ?_
  refine GO.iconst dX11_birds_2 ?_
  refine GO.callV (ci := 10) (N := mX11_placeOf) dX11_birds_3 (RX11, TX11, 20) rfl gV_RX11_169 h_x (t_X11_placeOf h_x r_p0 (ir_c rfl)) rfl [] rfl rfl (Nat.le_of_ble_eq_true rfl) rfl (k_rp (fun h3 => ?_) (fun o1 h2 h3 => ?_))
  ·
    refine GO.astoreN (ls1 := [some (.ref x), some (ti p0), some (ti p1), some (ti p2), some (.null)]) dX11_birds_6 rfl rfl ?_
    refine GO.aloadN dX11_birds_8 rfl ?_
    refine GO.ifnullN (tgt := 30) dX11_birds_10 (by decide) ?_
    refine GO.iconst dX11_birds_30 ?_
    exact GO.retz rfl rfl dX11_birds_31 (Or.inl rfl) ⟨rfl, _, rfl, (ir_c rfl), ⟨Or.inl rfl, fun _ => trivial, fun _ => trivial⟩⟩
  ·
    refine GO.astore (ls1 := [some (.ref x), some (ti p0), some (ti p1), some (ti p2), some (.ref o1)]) dX11_birds_6 rfl rfl ?_
    refine GO.aload dX11_birds_8 rfl ?_
    refine GO.ifnull dX11_birds_10 ?_
    refine GO.iload_n dX11_birds_13 rfl rfl ?_
    refine GO.callS (N := mX11_isYear) dX11_birds_14 gS_RX11_559 (t_X11_isYear r_p1) rfl [] rfl rfl (Nat.le_of_ble_eq_true rfl) rfl (k_ip fun X4 r5 h6 => ?_)
    refine GO.if_eq (tgt := 30) dX11_birds_17 (by decide) r5 (fun c7 => ?_) (fun c7 => ?_)
    ·
      refine GO.iconst dX11_birds_30 ?_
      exact GO.retz rfl rfl dX11_birds_31 (Or.inl rfl) ⟨rfl, _, rfl, (ir_c rfl), ⟨Or.inl rfl, fun _ => trivial, fun _ => trivial⟩⟩
    ·
      refine GO.iload_n dX11_birds_20 rfl rfl ?_
      refine GO.iconst dX11_birds_21 ?_
      refine GO.ldc (X := 100000) dX11_birds_22 gw_522 rfl ?_
      refine GO.callS (N := mX11_between) dX11_birds_24 gS_RX11_112 (t_X11_between r_p2 (ir_c rfl) (ir_c rfl)) rfl [] rfl rfl (Nat.le_of_ble_eq_true rfl) rfl (k_ip fun X8 r9 h10 => ?_)
      refine GO.if_ne (tgt := 32) dX11_birds_27 (by decide) r9 (fun c11 => ?_) (fun c11 => ?_)
      ·
        have q12 := h10.2.1 (by omega)
        refine GO.aload dX11_birds_32 rfl ?_
        refine GO.getNB h2 fl_RX11_491 rfl rfl dX11_birds_34 (fun hv14 => ?_) (fun n15 hv14 h13 b16 => ?_)
        ·
          refine GO.iload_n dX11_birds_37 rfl rfl ?_
          refine GO.iload_n dX11_birds_38 rfl rfl ?_
          refine GO.callS (N := mX4_put_n) dX11_birds_39 gS_RX11_108 (t_X4_put_n r_p1 r_p2) rfl [] rfl rfl (Nat.le_of_ble_eq_true rfl) rfl (k_vs fun V19 h18 hF17 => ?_)
          refine GO.iconst dX11_birds_42 ?_
          exact GO.retz rfl rfl dX11_birds_43 (Or.inr rfl) ⟨rfl, _, rfl, (ir_c rfl), ⟨Or.inr rfl, fun _ => trivial, fun _ => trivial⟩⟩
        ·
          refine GO.iload_n dX11_birds_37 rfl rfl ?_
          refine GO.iload_n dX11_birds_38 rfl rfl ?_
          refine GO.callS (N := mX4_put) dX11_birds_39 gS_RX11_108 (t_X4_put h13 r_p1 r_p2) rfl [] rfl rfl (Nat.le_of_ble_eq_true rfl) rfl (k_vs fun V22 h21 hF20 => ?_)
          refine GO.iconst dX11_birds_42 ?_
          exact GO.retz rfl rfl dX11_birds_43 (Or.inr rfl) ⟨rfl, _, rfl, (ir_c rfl), ⟨Or.inr rfl, fun _ => trivial, fun _ => trivial⟩⟩
      ·
        have q23 := h10.2.2 (by omega)
        refine GO.iconst dX11_birds_30 ?_
        exact GO.retz rfl rfl dX11_birds_31 (Or.inl rfl) ⟨rfl, _, rfl, (ir_c rfl), ⟨Or.inl rfl, fun _ => trivial, fun _ => trivial⟩⟩

set_option maxHeartbeats 1000000 in
theorem t_X11_loss {K : Kmap} {V : Vmap} {x : Nat} {p0 : Int} {p1 : Int} {p2 : Int} {p3 : Int} {p4 : Int} (h_x : K x = some (0, 10)) (r_p0 : ir p0) (r_p1 : ir p1) (r_p2 : ir p2) (r_p3 : ir p3) (r_p4 : ir p4) : MC mX11_loss K V [.ref x, ti p0, ti p1, ti p2, ti p3, ti p4] (IP K V (fun X => True)) := by
  refine MC.start 4 (by decide +kernel) rfl rfl rfl (ls0 := [some (.ref x), some (ti p0), some (ti p1), some (ti p2), some (ti p3), some (ti p4), none, none, none, none]) rfl ?_
  refine GO.aload_n dX11_loss_0 rfl rfl ?_
  refine GO.iload_n dX11_loss_1 rfl rfl ?_
  refine GO.iconst dX11_loss_2 ?_
  refine GO.callV (ci := 10) (N := mX11_placeOf) dX11_loss_3 (RX11, TX11, 20) rfl gV_RX11_169 h_x (t_X11_placeOf h_x r_p0 (ir_c rfl)) rfl [] rfl rfl (Nat.le_of_ble_eq_true rfl) rfl (k_rp (fun h3 => ?_) (fun o1 h2 h3 => ?_))
  ·
    refine GO.astoreN (ls1 := [some (.ref x), some (ti p0), some (ti p1), some (ti p2), some (ti p3), some (ti p4), some (.null), none, none, none]) dX11_loss_6 rfl rfl ?_
    refine GO.aloadN dX11_loss_8 rfl ?_
    refine GO.ifnullN (tgt := 53) dX11_loss_10 (by decide) ?_
    refine GO.ldcw (X := (-1000000)) dX11_loss_53 gw_1169 rfl ?_
    exact GO.reti rfl rfl dX11_loss_56 ⟨rfl, rfl, _, rfl, (ir_c rfl), trivial⟩
  ·
    refine GO.astore (ls1 := [some (.ref x), some (ti p0), some (ti p1), some (ti p2), some (ti p3), some (ti p4), some (.ref o1), none, none, none]) dX11_loss_6 rfl rfl ?_
    refine GO.aload dX11_loss_8 rfl ?_
    refine GO.ifnull dX11_loss_10 ?_
    refine GO.iload_n dX11_loss_13 rfl rfl ?_
    refine GO.callS (N := mX11_isYear) dX11_loss_14 gS_RX11_559 (t_X11_isYear r_p1) rfl [] rfl rfl (Nat.le_of_ble_eq_true rfl) rfl (k_ip fun X4 r5 h6 => ?_)
    refine GO.if_eq (tgt := 53) dX11_loss_17 (by decide) r5 (fun c7 => ?_) (fun c7 => ?_)
    ·
      refine GO.ldcw (X := (-1000000)) dX11_loss_53 gw_1169 rfl ?_
      exact GO.reti rfl rfl dX11_loss_56 ⟨rfl, rfl, _, rfl, (ir_c rfl), trivial⟩
    ·
      refine GO.iload_n dX11_loss_20 rfl rfl ?_
      refine GO.callS (N := mX11_isYear) dX11_loss_21 gS_RX11_559 (t_X11_isYear r_p2) rfl [] rfl rfl (Nat.le_of_ble_eq_true rfl) rfl (k_ip fun X8 r9 h10 => ?_)
      refine GO.if_eq (tgt := 53) dX11_loss_24 (by decide) r9 (fun c11 => ?_) (fun c11 => ?_)
      ·
        refine GO.ldcw (X := (-1000000)) dX11_loss_53 gw_1169 rfl ?_
        exact GO.reti rfl rfl dX11_loss_56 ⟨rfl, rfl, _, rfl, (ir_c rfl), trivial⟩
      ·
        refine GO.iload_n dX11_loss_27 rfl rfl ?_
        refine GO.iload_n dX11_loss_28 rfl rfl ?_
        refine GO.icmp_ge (tgt := 53) dX11_loss_29 (by decide) r_p1 r_p2 (fun c12 => ?_) (fun c12 => ?_)
        ·
          refine GO.ldcw (X := (-1000000)) dX11_loss_53 gw_1169 rfl ?_
          exact GO.reti rfl rfl dX11_loss_56 ⟨rfl, rfl, _, rfl, (ir_c rfl), trivial⟩
        ·
          refine GO.iload dX11_loss_32 rfl ?_
          refine GO.iconst dX11_loss_34 ?_
          refine GO.bipush dX11_loss_35 rfl ?_
          refine GO.callS (N := mX11_between) dX11_loss_37 gS_RX11_112 (t_X11_between r_p3 (ir_c rfl) (ir_c rfl)) rfl [] rfl rfl (Nat.le_of_ble_eq_true rfl) rfl (k_ip fun X13 r14 h15 => ?_)
          refine GO.if_eq (tgt := 53) dX11_loss_40 (by decide) r14 (fun c16 => ?_) (fun c16 => ?_)
          ·
            have q17 := h15.2.2 (by omega)
            refine GO.ldcw (X := (-1000000)) dX11_loss_53 gw_1169 rfl ?_
            exact GO.reti rfl rfl dX11_loss_56 ⟨rfl, rfl, _, rfl, (ir_c rfl), trivial⟩
          ·
            have q18 := h15.2.1 (by omega)
            refine GO.iload dX11_loss_43 rfl ?_
            refine GO.iconst dX11_loss_45 ?_
            refine GO.iconst dX11_loss_46 ?_
            refine GO.callS (N := mX11_between) dX11_loss_47 gS_RX11_112 (t_X11_between r_p4 (ir_c rfl) (ir_c rfl)) rfl [] rfl rfl (Nat.le_of_ble_eq_true rfl) rfl (k_ip fun X19 r20 h21 => ?_)
            refine GO.if_ne (tgt := 57) dX11_loss_50 (by decide) r20 (fun c22 => ?_) (fun c22 => ?_)
            ·
              have q23 := h21.2.1 (by omega)
              refine GO.aload dX11_loss_57 rfl ?_
              refine GO.getNB h2 fl_RX11_491 rfl rfl dX11_loss_59 (fun hv25 => ?_) (fun n26 hv25 h24 b27 => ?_)
              ·
                refine GO.iload_n dX11_loss_62 rfl rfl ?_
                refine GO.callS (N := mX4_get_n) dX11_loss_63 gS_RX11_253 (t_X4_get_n r_p1) rfl [] rfl rfl (Nat.le_of_ble_eq_true rfl) rfl (k_ip fun X28 r29 h30 => ?_)
                refine GO.istore (ls1 := [some (.ref x), some (ti p0), some (ti p1), some (ti p2), some (ti p3), some (ti p4), some (.ref o1), some (ti X28), none, none]) dX11_loss_66 rfl rfl ?_
                refine GO.aload dX11_loss_68 rfl ?_
                refine GO.getRaw h2 fl_RX11_491 hv25 dX11_loss_70 ?_
                refine GO.iload_n dX11_loss_73 rfl rfl ?_
                refine GO.callS (N := mX4_get_n) dX11_loss_74 gS_RX11_253 (t_X4_get_n r_p2) rfl [] rfl rfl (Nat.le_of_ble_eq_true rfl) rfl (k_ip fun X33 r34 h35 => ?_)
                refine GO.istore (ls1 := [some (.ref x), some (ti p0), some (ti p1), some (ti p2), some (ti p3), some (ti p4), some (.ref o1), some (ti X28), some (ti X33), none]) dX11_loss_77 rfl rfl ?_
                refine GO.iload dX11_loss_79 rfl ?_
                refine GO.iconst dX11_loss_81 ?_
                refine GO.icmp_eq (tgt := 91) dX11_loss_82 (by decide) r29 (ir_c rfl) (fun c36 => ?_) (fun c36 => ?_)
                ·
                  refine GO.ldcw (X := (-1000000)) dX11_loss_91 gw_1169 rfl ?_
                  exact GO.reti rfl rfl dX11_loss_94 ⟨rfl, rfl, _, rfl, (ir_c rfl), trivial⟩
                ·
                  refine GO.iload dX11_loss_85 rfl ?_
                  refine GO.iconst dX11_loss_87 ?_
                  refine GO.icmp_ne (tgt := 95) dX11_loss_88 (by decide) r34 (ir_c rfl) (fun c37 => ?_) (fun c37 => ?_)
                  ·
                    refine GO.iload dX11_loss_95 rfl ?_
                    refine GO.iload dX11_loss_97 rfl ?_
                    refine GO.imul dX11_loss_99 ?_
                    refine GO.norm (fun z38 r39 _ => ?_)
                    refine GO.bipush dX11_loss_100 rfl ?_
                    refine GO.iadd dX11_loss_102 ?_
                    refine GO.norm (fun z40 r41 _ => ?_)
                    refine GO.bipush dX11_loss_103 rfl ?_
                    refine GO.idiv dX11_loss_105 (ir_c rfl) (by omega) ?_
                    refine GO.iload dX11_loss_106 rfl ?_
                    refine GO.iload dX11_loss_108 rfl ?_
                    refine GO.imul dX11_loss_110 ?_
                    refine GO.norm (fun z42 r43 _ => ?_)
                    refine GO.bipush dX11_loss_111 rfl ?_
                    refine GO.iadd dX11_loss_113 ?_
                    refine GO.norm (fun z44 r45 _ => ?_)
                    refine GO.bipush dX11_loss_114 rfl ?_
                    refine GO.idiv dX11_loss_116 (ir_c rfl) (by omega) ?_
                    refine GO.iadd dX11_loss_117 ?_
                    refine GO.norm (fun z46 r47 _ => ?_)
                    refine GO.istore (ls1 := [some (.ref x), some (ti p0), some (ti p1), some (ti p2), some (ti p3), some (ti p4), some (.ref o1), some (ti X28), some (ti X33), some (ti z46)]) dX11_loss_118 rfl rfl ?_
                    refine GO.iload dX11_loss_120 rfl ?_
                    refine GO.iload dX11_loss_122 rfl ?_
                    refine GO.isub dX11_loss_124 ?_
                    refine GO.norm (fun z48 r49 _ => ?_)
                    refine GO.iload dX11_loss_125 rfl ?_
                    refine GO.if_ne (tgt := 136) dX11_loss_127 (by decide) r_p4 (fun c50 => ?_) (fun c50 => ?_)
                    ·
                      refine GO.iload dX11_loss_136 rfl ?_
                      refine GO.iadd dX11_loss_138 ?_
                      refine GO.norm (fun z51 r52 _ => ?_)
                      have q53 : -2147483648 ≤ z51 ∧ z51 ≤ 2147483647 := r52
                      exact GO.reti rfl rfl dX11_loss_139 ⟨rfl, rfl, _, rfl, r52, trivial⟩
                    ·
                      refine GO.iload dX11_loss_130 rfl ?_
                      refine GO.ineg dX11_loss_132 ?_
                      refine GO.norm (fun z54 r55 _ => ?_)
                      refine GO.goto (tgt := 138) dX11_loss_133 (by decide) ?_
                      refine GO.iadd dX11_loss_138 ?_
                      refine GO.norm (fun z56 r57 _ => ?_)
                      have q58 : -2147483648 ≤ z56 ∧ z56 ≤ 2147483647 := r57
                      exact GO.reti rfl rfl dX11_loss_139 ⟨rfl, rfl, _, rfl, r57, trivial⟩
                  ·
                    refine GO.ldcw (X := (-1000000)) dX11_loss_91 gw_1169 rfl ?_
                    exact GO.reti rfl rfl dX11_loss_94 ⟨rfl, rfl, _, rfl, (ir_c rfl), trivial⟩
              ·
                refine GO.iload_n dX11_loss_62 rfl rfl ?_
                refine GO.callS (N := mX4_get) dX11_loss_63 gS_RX11_253 (t_X4_get rfl h24 r_p1) rfl [] rfl rfl (Nat.le_of_ble_eq_true rfl) rfl (k_ip fun X59 r60 h61 => ?_)
                refine GO.istore (ls1 := [some (.ref x), some (ti p0), some (ti p1), some (ti p2), some (ti p3), some (ti p4), some (.ref o1), some (ti X59), none, none]) dX11_loss_66 rfl rfl ?_
                refine GO.aload dX11_loss_68 rfl ?_
                refine GO.getRaw h2 fl_RX11_491 hv25 dX11_loss_70 ?_
                refine GO.iload_n dX11_loss_73 rfl rfl ?_
                refine GO.callS (N := mX4_get) dX11_loss_74 gS_RX11_253 (t_X4_get rfl h24 r_p2) rfl [] rfl rfl (Nat.le_of_ble_eq_true rfl) rfl (k_ip fun X64 r65 h66 => ?_)
                refine GO.istore (ls1 := [some (.ref x), some (ti p0), some (ti p1), some (ti p2), some (ti p3), some (ti p4), some (.ref o1), some (ti X59), some (ti X64), none]) dX11_loss_77 rfl rfl ?_
                refine GO.iload dX11_loss_79 rfl ?_
                refine GO.iconst dX11_loss_81 ?_
                refine GO.icmp_eq (tgt := 91) dX11_loss_82 (by decide) r60 (ir_c rfl) (fun c67 => ?_) (fun c67 => ?_)
                ·
                  refine GO.ldcw (X := (-1000000)) dX11_loss_91 gw_1169 rfl ?_
                  exact GO.reti rfl rfl dX11_loss_94 ⟨rfl, rfl, _, rfl, (ir_c rfl), trivial⟩
                ·
                  refine GO.iload dX11_loss_85 rfl ?_
                  refine GO.iconst dX11_loss_87 ?_
                  refine GO.icmp_ne (tgt := 95) dX11_loss_88 (by decide) r65 (ir_c rfl) (fun c68 => ?_) (fun c68 => ?_)
                  ·
                    refine GO.iload dX11_loss_95 rfl ?_
                    refine GO.iload dX11_loss_97 rfl ?_
                    refine GO.imul dX11_loss_99 ?_
                    refine GO.norm (fun z69 r70 _ => ?_)
                    refine GO.bipush dX11_loss_100 rfl ?_
                    refine GO.iadd dX11_loss_102 ?_
                    refine GO.norm (fun z71 r72 _ => ?_)
                    refine GO.bipush dX11_loss_103 rfl ?_
                    refine GO.idiv dX11_loss_105 (ir_c rfl) (by omega) ?_
                    refine GO.iload dX11_loss_106 rfl ?_
                    refine GO.iload dX11_loss_108 rfl ?_
                    refine GO.imul dX11_loss_110 ?_
                    refine GO.norm (fun z73 r74 _ => ?_)
                    refine GO.bipush dX11_loss_111 rfl ?_
                    refine GO.iadd dX11_loss_113 ?_
                    refine GO.norm (fun z75 r76 _ => ?_)
                    refine GO.bipush dX11_loss_114 rfl ?_
                    refine GO.idiv dX11_loss_116 (ir_c rfl) (by omega) ?_
                    refine GO.iadd dX11_loss_117 ?_
                    refine GO.norm (fun z77 r78 _ => ?_)
                    refine GO.istore (ls1 := [some (.ref x), some (ti p0), some (ti p1), some (ti p2), some (ti p3), some (ti p4), some (.ref o1), some (ti X59), some (ti X64), some (ti z77)]) dX11_loss_118 rfl rfl ?_
                    refine GO.iload dX11_loss_120 rfl ?_
                    refine GO.iload dX11_loss_122 rfl ?_
                    refine GO.isub dX11_loss_124 ?_
                    refine GO.norm (fun z79 r80 _ => ?_)
                    refine GO.iload dX11_loss_125 rfl ?_
                    refine GO.if_ne (tgt := 136) dX11_loss_127 (by decide) r_p4 (fun c81 => ?_) (fun c81 => ?_)
                    ·
                      refine GO.iload dX11_loss_136 rfl ?_
                      refine GO.iadd dX11_loss_138 ?_
                      refine GO.norm (fun z82 r83 _ => ?_)
                      have q84 : -2147483648 ≤ z82 ∧ z82 ≤ 2147483647 := r83
                      exact GO.reti rfl rfl dX11_loss_139 ⟨rfl, rfl, _, rfl, r83, trivial⟩
                    ·
                      refine GO.iload dX11_loss_130 rfl ?_
                      refine GO.ineg dX11_loss_132 ?_
                      refine GO.norm (fun z85 r86 _ => ?_)
                      refine GO.goto (tgt := 138) dX11_loss_133 (by decide) ?_
                      refine GO.iadd dX11_loss_138 ?_
                      refine GO.norm (fun z87 r88 _ => ?_)
                      have q89 : -2147483648 ≤ z87 ∧ z87 ≤ 2147483647 := r88
                      exact GO.reti rfl rfl dX11_loss_139 ⟨rfl, rfl, _, rfl, r88, trivial⟩
                  ·
                    refine GO.ldcw (X := (-1000000)) dX11_loss_91 gw_1169 rfl ?_
                    exact GO.reti rfl rfl dX11_loss_94 ⟨rfl, rfl, _, rfl, (ir_c rfl), trivial⟩
            ·
              have q90 := h21.2.2 (by omega)
              refine GO.ldcw (X := (-1000000)) dX11_loss_53 gw_1169 rfl ?_
              exact GO.reti rfl rfl dX11_loss_56 ⟨rfl, rfl, _, rfl, (ir_c rfl), trivial⟩

set_option maxHeartbeats 1000000 in
theorem t_X11_noise {K : Kmap} {V : Vmap} {x : Nat} {p0 : Int} {p1 : Int} (h_x : K x = some (0, 10)) (r_p0 : ir p0) (r_p1 : ir p1) : MC mX11_noise K V [.ref x, ti p0, ti p1] (IP K V (fun X => True)) := by
  refine MC.start 1 (by decide +kernel) rfl rfl rfl (ls0 := [some (.ref x), some (ti p0), some (ti p1), none]) rfl ?_
  refine GO.aload_n dX11_noise_0 rfl rfl ?_
  refine GO.iload_n dX11_noise_1 rfl rfl ?_
  refine GO.iconst dX11_noise_2 ?_
  refine GO.callV (ci := 10) (N := mX11_placeOf) dX11_noise_3 (RX11, TX11, 20) rfl gV_RX11_169 h_x (t_X11_placeOf h_x r_p0 (ir_c rfl)) rfl [] rfl rfl (Nat.le_of_ble_eq_true rfl) rfl (k_rp (fun h3 => ?_) (fun o1 h2 h3 => ?_))
  ·
    refine GO.astore_nN (ls1 := [some (.ref x), some (ti p0), some (ti p1), some (.null)]) dX11_noise_6 rfl rfl rfl ?_
    refine GO.aload_nN dX11_noise_7 rfl rfl ?_
    refine GO.ifnullN (tgt := 18) dX11_noise_8 (by decide) ?_
    refine GO.iconst dX11_noise_18 ?_
    refine GO.goto (tgt := 30) dX11_noise_19 (by decide) ?_
    exact GO.reti rfl rfl dX11_noise_30 ⟨rfl, rfl, _, rfl, (ir_c rfl), trivial⟩
  ·
    refine GO.astore_n (ls1 := [some (.ref x), some (ti p0), some (ti p1), some (.ref o1)]) dX11_noise_6 rfl rfl rfl ?_
    refine GO.aload_n dX11_noise_7 rfl rfl ?_
    refine GO.ifnull dX11_noise_8 ?_
    refine GO.iload_n dX11_noise_11 rfl rfl ?_
    refine GO.callS (N := mX11_isYear) dX11_noise_12 gS_RX11_559 (t_X11_isYear r_p1) rfl [] rfl rfl (Nat.le_of_ble_eq_true rfl) rfl (k_ip fun X4 r5 h6 => ?_)
    refine GO.if_ne (tgt := 22) dX11_noise_15 (by decide) r5 (fun c7 => ?_) (fun c7 => ?_)
    ·
      refine GO.aload_n dX11_noise_22 rfl rfl ?_
      refine GO.getNB h2 fl_RX11_473 rfl rfl dX11_noise_23 (fun hv9 => ?_) (fun n10 hv9 h8 b11 => ?_)
      ·
        refine GO.iload_n dX11_noise_26 rfl rfl ?_
        refine GO.callS (N := mX4_get_n) dX11_noise_27 gS_RX11_253 (t_X4_get_n r_p1) rfl [] rfl rfl (Nat.le_of_ble_eq_true rfl) rfl (k_ip fun X12 r13 h14 => ?_)
        have q15 : -2147483648 ≤ X12 ∧ X12 ≤ 2147483647 := r13
        exact GO.reti rfl rfl dX11_noise_30 ⟨rfl, rfl, _, rfl, r13, trivial⟩
      ·
        refine GO.iload_n dX11_noise_26 rfl rfl ?_
        refine GO.callS (N := mX4_get) dX11_noise_27 gS_RX11_253 (t_X4_get rfl h8 r_p1) rfl [] rfl rfl (Nat.le_of_ble_eq_true rfl) rfl (k_ip fun X16 r17 h18 => ?_)
        have q19 : -2147483648 ≤ X16 ∧ X16 ≤ 2147483647 := r17
        exact GO.reti rfl rfl dX11_noise_30 ⟨rfl, rfl, _, rfl, r17, trivial⟩
    ·
      refine GO.iconst dX11_noise_18 ?_
      refine GO.goto (tgt := 30) dX11_noise_19 (by decide) ?_
      exact GO.reti rfl rfl dX11_noise_30 ⟨rfl, rfl, _, rfl, (ir_c rfl), trivial⟩
