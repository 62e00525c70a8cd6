def mX11_comeHome : MRec := (RX11, cX11_comeHome, 2, (none : Option Jvm.ClassFile.FieldType), yX11_comeHome, 1, 22, 0, 0, 7588550360256754183279148073529370729071901715047420004889895914891409605993168896)
def mX11_passShip : MRec := (RX11, cX11_passShip, 2, (none : Option Jvm.ClassFile.FieldType), yX11_passShip, 5, 114, 0, 0, 11382825540385131274918722110294056093607852572571130007334856194762155921848139776)
def mX8_get_k27 : MRec := (RX8, cX8_get, 5, (some .int), yX8_get, 0, 0, 0, 0, 0)
def mX11_passSledge : MRec := (RX11, cX11_passSledge, 4, (none : Option Jvm.ClassFile.FieldType), yX11_passSledge, 3, 66, 0, 0, 2707685248164858261307045101702230179137145589010246234446675648723114194433302001571876721008493811625625829997090814574985216)
def mX11_passShip_n : MRec := (RX11, cX11_passShip, 2, (none : Option Jvm.ClassFile.FieldType), yX11_passShip, 0, 0, 0, 0, 0)
def mX11_day : MRec := (RX11, cX11_day, 2, (some .int), yX11_day, 7, 175, 0, 0, 13539045980795032164596742929112431618535567047881583924977817960384122470242996497994438717261286281520709074119879490440527873)
def mX11_sound : MRec := (RX11, cX11_sound, 5, (some .boolean), yX11_sound, 3, 73, 0, 0, 40131652080904949243476790488282231640246122763238325954424140190648896440865526195785026639619810363502319100491144716629504315406428504948246801194450135957054982084640921181024257015111651255738366427136)
def mX11_sure : MRec := (RX11, cX11_sure, 3, (some .int), yX11_sure, 2, 48, 0, 0, 0)
def mX8_isFull_k29 : MRec := (RX8, cX8_isFull, 1, (some .boolean), yX8_isFull, 0, 0, 0, 0, 0)
def mX8_append_k29 : MRec := (RX8, cX8_append, 7, (some .int), yX8_append, 1, 25, 0, 0, 38272525864510487788655081260950309410329935801733327822136058989190002872678789786522025301547572669963237823776112959608485250695053631971510744383637413717184212385591140385319216930056100865114112)
def mX11_drill : MRec := (RX11, cX11_drill, 5, (some .int), yX11_drill, 2, 51, 0, 0, 38272525864510487788655081260950309410329935801733327822136058989190002872678789786522025301547572669963237823776112959608485250695053631971510744383637413717184212385591140385319216930056100865114112)
def mX4_put_t145 : MRec := (RX4, cX4_put, 3, (none : Option Jvm.ClassFile.FieldType), yX4_put, 0, 0, 0, 0, 169230328010303641331690318856389386196071598838855992136870091590247882556495704531248437872567112920983350278405979725889536)
def mX11_speed : MRec := (RX11, cX11_speed, 3, (some .boolean), yX11_speed, 1, 22, 0, 0, 169230328010303641331690318856389386196071598838855992136870091590247882556495704531248437872567112920983350278405979725889536)
def mX11_isYear : MRec := (RX11, cX11_isYear, 1, (some .boolean), yX11_isYear, 1, 22, 0, 0, 0)
def mX11_birds : MRec := (RX11, cX11_birds, 5, (some .boolean), yX11_birds, 2, 44, 0, 0, 3794275180128377091639574036764685364535950857523710002444946112771297432041422848)
set_option maxHeartbeats 1000000 in
theorem t_X11_comeHome {K : Kmap} {V : Vmap} {x : Nat} {p0 : Nat} (h_x : K x = some (0, 10)) (h_p0 : K p0 = some (0, 6)) : MC mX11_comeHome K V [.ref x, .ref p0] (VS K (fun V1 => (True))) := by
  refine MC.start 0 (by decide +kernel) rfl rfl rfl (ls0 := [some (.ref x), some (.ref p0)]) rfl ?_
  refine GO.aload_n dX11_comeHome_0 rfl rfl ?_
  refine GO.iconst dX11_comeHome_1 ?_
  refine GO.aload_n dX11_comeHome_2 rfl rfl ?_
  refine GO.getI h_p0 fl_RX11_552 rfl rfl dX11_comeHome_3 (fun _ _ => ?_)
  refine GO.callV (ci := 10) (N := mX11_tally) dX11_comeHome_6 (RX11, TX11, 20) rfl gV_RX11_192 h_x (t_X11_tally h_x (ir_c rfl) vi_ir) rfl [] rfl rfl (Nat.le_of_ble_eq_true rfl) rfl (k_vs fun V3 h2 hF1 => ?_)
  refine GO.aload_n dX11_comeHome_9 rfl rfl ?_
  refine GO.bipush dX11_comeHome_10 rfl ?_
  refine GO.aload_n dX11_comeHome_12 rfl rfl ?_
  refine GO.getI h_p0 fl_RX11_553 rfl rfl dX11_comeHome_13 (fun _ _ => ?_)
  refine GO.callV (ci := 10) (N := mX11_tally) dX11_comeHome_16 (RX11, TX11, 20) rfl gV_RX11_192 h_x (t_X11_tally h_x (ir_c rfl) vi_ir) rfl [] rfl rfl (Nat.le_of_ble_eq_true rfl) rfl (k_vs fun V6 h5 hF4 => ?_)
  refine GO.aload_n dX11_comeHome_19 rfl rfl ?_
  refine GO.iconst dX11_comeHome_20 ?_
  refine GO.putI h_p0 fp_RX11_552 rfl (by decide +kernel) (ir_c rfl) (by decide) (by decide) dX11_comeHome_21 (fun V8 e7 => ?_)
  refine GO.aload_n dX11_comeHome_24 rfl rfl ?_
  refine GO.iconst dX11_comeHome_25 ?_
  refine GO.putI h_p0 fp_RX11_553 rfl (by decide +kernel) (ir_c rfl) (by decide) (by decide) dX11_comeHome_26 (fun V10 e9 => ?_)
  refine GO.aload_n dX11_comeHome_29 rfl rfl ?_
  refine GO.iconst dX11_comeHome_30 ?_
  refine GO.putI h_p0 fp_RX11_410 rfl (by decide +kernel) (ir_c rfl) (by decide) (by decide) dX11_comeHome_31 (fun V12 e11 => ?_)
  exact GO.retv rfl rfl dX11_comeHome_34 ⟨rfl, rfl, trivial⟩

set_option maxHeartbeats 1000000 in
theorem t_X11_passShip {K : Kmap} {V : Vmap} {x : Nat} {p0 : Nat} (h_x : K x = some (0, 10)) (h_p0 : K p0 = some (0, 6)) : MC mX11_passShip K V [.ref x, .ref p0] (VS K (fun V1 => (True))) := by
  refine MC.start 0 (by decide +kernel) rfl rfl rfl (ls0 := [some (.ref x), some (.ref p0)]) rfl ?_
  refine GO.aload_n dX11_passShip_0 rfl rfl ?_
  refine GO.ifnonnull (tgt := 5) dX11_passShip_1 (by decide) ?_
  refine GO.aload_n dX11_passShip_5 rfl rfl ?_
  refine GO.getI h_p0 fl_RX11_410 rfl rfl dX11_passShip_6 (fun _ _ => ?_)
  refine GO.iconst dX11_passShip_9 ?_
  refine GO.icmp_eq (tgt := 35) dX11_passShip_10 (by decide) vi_ir (ir_c rfl) (fun c1 => ?_) (fun c1 => ?_)
  ·
    refine GO.aload_n dX11_passShip_35 rfl rfl ?_
    refine GO.aload_n dX11_passShip_36 rfl rfl ?_
    refine GO.callV (ci := 10) (N := mX11_meetIce) dX11_passShip_37 (RX11, TX11, 20) rfl gV_RX11_525 h_x (t_X11_meetIce h_x h_p0) rfl [] rfl rfl (Nat.le_of_ble_eq_true rfl) rfl (k_vs fun V4 h3 hF2 => ?_)
    refine GO.goto (tgt := 70) dX11_passShip_40 (by decide) ?_
    exact GO.retv rfl rfl dX11_passShip_70 ⟨rfl, rfl, trivial⟩
  ·
    refine GO.aload_n dX11_passShip_13 rfl rfl ?_
    refine GO.getI h_p0 fl_RX11_410 rfl rfl dX11_passShip_14 (fun _ _ => ?_)
    refine GO.iconst dX11_passShip_17 ?_
    have hj14 : GO mX11_passShip K V (VS K (fun V1 => (True))) K V 0 0 43 [some (.ref x), some (.ref p0)] [] := by
      skip
      refine GO.aload_n dX11_passShip_43 rfl rfl ?_
      refine GO.getI h_p0 fl_RX11_410 rfl rfl dX11_passShip_44 (fun _ _ => ?_)
      refine GO.iconst dX11_passShip_47 ?_
      refine GO.icmp_ne (tgt := 70) dX11_passShip_48 (by decide) vi_ir (ir_c rfl) (fun c15 => ?_) (fun c15 => ?_)
      ·
        exact GO.retv rfl rfl dX11_passShip_70 ⟨rfl, rfl, trivial⟩
      ·
        refine GO.aload_n dX11_passShip_51 rfl rfl ?_
        refine GO.getI h_p0 fl_RX11_522 rfl rfl dX11_passShip_52 (fun _ _ => ?_)
        refine GO.aload_n dX11_passShip_55 rfl rfl ?_
        refine GO.getR h_x fl_RX11_12 rfl rfl dX11_passShip_56 (fun hv17 h16 => ?_)
        refine GO.getI h16 fl_RX11_145 rfl rfl dX11_passShip_59 (fun l18 u19 => ?_)
        refine GO.icmp_ne (tgt := 70) dX11_passShip_62 (by decide) vi_ir vi_ir (fun c20 => ?_) (fun c20 => ?_)
        ·
          exact GO.retv rfl rfl dX11_passShip_70 ⟨rfl, rfl, trivial⟩
        ·
          refine GO.aload_n dX11_passShip_65 rfl rfl ?_
          refine GO.aload_n dX11_passShip_66 rfl rfl ?_
          refine GO.callV (ci := 10) (N := mX11_comeHome) dX11_passShip_67 (RX11, TX11, 20) rfl gV_RX11_528 h_x (t_X11_comeHome h_x h_p0) rfl [] rfl rfl (Nat.le_of_ble_eq_true rfl) rfl (k_vs fun V23 h22 hF21 => ?_)
          exact GO.retv rfl rfl dX11_passShip_70 ⟨rfl, rfl, trivial⟩
    refine GO.icmp_ne (tgt := 43) dX11_passShip_18 (by decide) vi_ir (ir_c rfl) (fun c24 => ?_) (fun c24 => ?_)
    ·
      exact hj14 
    ·
      refine GO.aload_n dX11_passShip_21 rfl rfl ?_
      refine GO.getI h_p0 fl_RX11_522 rfl rfl dX11_passShip_22 (fun _ _ => ?_)
      refine GO.aload_n dX11_passShip_25 rfl rfl ?_
      refine GO.getR h_x fl_RX11_12 rfl rfl dX11_passShip_26 (fun hv26 h25 => ?_)
      refine GO.getI h25 fl_RX11_145 rfl rfl dX11_passShip_29 (fun l27 u28 => ?_)
      refine GO.icmp_ne (tgt := 43) dX11_passShip_32 (by decide) vi_ir vi_ir (fun c29 => ?_) (fun c29 => ?_)
      ·
        exact hj14 
      ·
        refine GO.aload_n dX11_passShip_35 rfl rfl ?_
        refine GO.aload_n dX11_passShip_36 rfl rfl ?_
        refine GO.callV (ci := 10) (N := mX11_meetIce) dX11_passShip_37 (RX11, TX11, 20) rfl gV_RX11_525 h_x (t_X11_meetIce h_x h_p0) rfl [] rfl rfl (Nat.le_of_ble_eq_true rfl) rfl (k_vs fun V32 h31 hF30 => ?_)
        refine GO.goto (tgt := 70) dX11_passShip_40 (by decide) ?_
        exact GO.retv rfl rfl dX11_passShip_70 ⟨rfl, rfl, trivial⟩

set_option maxHeartbeats 1000000 in
theorem t_X8_get_k27 {K : Kmap} {V : Vmap} {x : Nat} {p0 : Int} {p1 : Int} (h_x : K x = some (0, 27)) (r_p0 : ir p0) (r_p1 : ir p1) : MC mX8_get_k27 K V [.ref x, ti p0, ti p1] (IP K V (fun X => True)) := by
  refine MC.start 2 (by decide +kernel) rfl rfl rfl (ls0 := [some (.ref x), some (ti p0), some (ti p1), none, none]) rfl ?_
  refine GO.iload_n dX8_get_0 rfl rfl ?_
  refine GO.aload_n dX8_get_1 rfl rfl ?_
  refine GO.getI h_x fl_RX8_15_k27 rfl rfl dX8_get_2 (fun l1 u2 => ?_)
  refine GO.imul dX8_get_5 ?_
  refine GO.norm (fun z3 r4 hn5 => ?_)
  refine GO.iload_n dX8_get_6 rfl rfl ?_
  refine GO.iadd dX8_get_7 ?_
  refine GO.norm (fun z6 r7 hn8 => ?_)
  refine GO.istore_n (ls1 := [some (.ref x), some (ti p0), some (ti p1), some (ti z6), none]) dX8_get_8 rfl rfl rfl ?_
  refine GO.iload_n dX8_get_9 rfl rfl ?_
  have hj18 : ∀ (z17 : Int), ∀ (l19 : 0 ≤ z17), ∀ (u20 : z17 ≤ 1), GO mX8_get_k27 K V (IP K V (fun X => True)) K V 0 0 38 [some (.ref x), some (ti p0), some (ti p1), some (ti z6), none] [ti z17] := by
    intro z17 l19 u20
    have r21 : ir z17 := ⟨by omega, by omega⟩
    refine GO.istore (ls1 := [some (.ref x), some (ti p0), some (ti p1), some (ti z6), some (ti z17)]) dX8_get_38 rfl rfl ?_
    refine GO.iload dX8_get_40 rfl ?_
    refine GO.if_eq (tgt := 67) dX8_get_42 (by decide) r21 (fun c22 => ?_) (fun c22 => ?_)
    ·
      refine GO.iconst dX8_get_67 ?_
      exact GO.reti rfl rfl dX8_get_68 ⟨rfl, rfl, _, rfl, (ir_c rfl), trivial⟩
    ·
      refine GO.iload_n dX8_get_45 rfl rfl ?_
      refine GO.if_lt (tgt := 67) dX8_get_46 (by decide) r7 (fun c23 => ?_) (fun c23 => ?_)
      ·
        refine GO.iconst dX8_get_67 ?_
        exact GO.reti rfl rfl dX8_get_68 ⟨rfl, rfl, _, rfl, (ir_c rfl), trivial⟩
      ·
        refine GO.iload_n dX8_get_49 rfl rfl ?_
        refine GO.aload_n dX8_get_50 rfl rfl ?_
        refine GO.getA (n := 200) h_x fl_RX8_27_k27 rfl rfl rfl rfl dX8_get_51 (fun hv25 h24 => ?_)
        refine GO.alen h24 dX8_get_54 (fun h26 => ?_)
        refine GO.icmp_ge (tgt := 67) dX8_get_55 (by decide) r7 ⟨by omega, by omega⟩ (fun c27 => ?_) (fun c27 => ?_)
        ·
          refine GO.iconst dX8_get_67 ?_
          exact GO.reti rfl rfl dX8_get_68 ⟨rfl, rfl, _, rfl, (ir_c rfl), trivial⟩
        ·
          refine GO.aload_n dX8_get_58 rfl rfl ?_
          refine GO.getRaw h_x fl_RX8_27_k27 hv25 dX8_get_59 ?_
          refine GO.iload_n dX8_get_62 rfl rfl ?_
          have q30 : -2147483648 ≤ z6 ∧ z6 ≤ 2147483647 := r7
          refine GO.iald (t := 149) rfl rfl h24 r7 (by omega) (by omega) dX8_get_63 (fun _ _ => ?_)
          refine GO.goto (tgt := 68) dX8_get_64 (by decide) ?_
          have q31 : -2147483648 ≤ vi V (vq V x 2) (z6).toNat ∧ vi V (vq V x 2) (z6).toNat ≤ 2147483647 := vi_ir
          exact GO.reti rfl rfl dX8_get_68 ⟨rfl, rfl, _, rfl, vi_ir, trivial⟩
  have hj40 : GO mX8_get_k27 K V (IP K V (fun X => True)) K V 0 0 37 [some (.ref x), some (ti p0), some (ti p1), some (ti z6), none] [] := by
    skip
    refine GO.iconst dX8_get_37 ?_
    exact hj18 0 (by omega) (by omega)
  refine GO.if_lt (tgt := 37) dX8_get_10 (by decide) r_p0 (fun c41 => ?_) (fun c41 => ?_)
  ·
    exact hj40 
  ·
    refine GO.iload_n dX8_get_13 rfl rfl ?_
    refine GO.aload_n dX8_get_14 rfl rfl ?_
    refine GO.getI h_x fl_RX8_9_k27 rfl rfl dX8_get_15 (fun l42 u43 => ?_)
    refine GO.icmp_ge (tgt := 37) dX8_get_18 (by decide) r_p0 vi_ir (fun c44 => ?_) (fun c44 => ?_)
    ·
      exact hj40 
    ·
      refine GO.iload_n dX8_get_21 rfl rfl ?_
      refine GO.if_lt (tgt := 37) dX8_get_22 (by decide) r_p1 (fun c45 => ?_) (fun c45 => ?_)
      ·
        exact hj40 
      ·
        refine GO.iload_n dX8_get_25 rfl rfl ?_
        refine GO.aload_n dX8_get_26 rfl rfl ?_
        refine GO.getI h_x fl_RX8_15_k27 rfl rfl dX8_get_27 (fun l46 u47 => ?_)
        refine GO.icmp_ge (tgt := 37) dX8_get_30 (by decide) r_p1 vi_ir (fun c48 => ?_) (fun c48 => ?_)
        ·
          exact hj40 
        ·
          refine GO.iconst dX8_get_33 ?_
          refine GO.goto (tgt := 38) dX8_get_34 (by decide) ?_
          exact hj18 1 (by omega) (by omega)

set_option maxHeartbeats 1000000 in
theorem t_X11_passSledge {K : Kmap} {V : Vmap} {x : Nat} {p0 : Int} (h_x : K x = some (0, 10)) (r_p0 : ir p0) : MC mX11_passSledge K V [.ref x, ti p0] (VS K (fun V1 => (True))) := by
  refine MC.start 2 (by decide +kernel) rfl rfl rfl (ls0 := [some (.ref x), some (ti p0), none, none]) rfl ?_
  refine GO.aload_n dX11_passSledge_0 rfl rfl ?_
  refine GO.getR h_x fl_RX11_72 rfl rfl dX11_passSledge_1 (fun hv2 h1 => ?_)
  refine GO.iload_n dX11_passSledge_4 rfl rfl ?_
  refine GO.iconst dX11_passSledge_5 ?_
  refine GO.callV (ci := 27) (N := mX8_get_k27) dX11_passSledge_6 (RX8, TX8, 4) rfl gV_RX11_209 h1 (t_X8_get_k27 h1 r_p0 (ir_c rfl)) rfl [] rfl rfl (Nat.le_of_ble_eq_true rfl) rfl (k_ip fun X3 r4 h5 => ?_)
  refine GO.if_eq (tgt := 31) dX11_passSledge_9 (by decide) r4 (fun c6 => ?_) (fun c6 => ?_)
  ·
    exact GO.retv rfl rfl dX11_passSledge_31 ⟨rfl, rfl, trivial⟩
  ·
    refine GO.aload_n dX11_passSledge_12 rfl rfl ?_
    refine GO.getRaw h_x fl_RX11_72 hv2 dX11_passSledge_13 ?_
    refine GO.iload_n dX11_passSledge_16 rfl rfl ?_
    refine GO.iconst dX11_passSledge_17 ?_
    refine GO.callV (ci := 27) (N := mX8_get_k27) dX11_passSledge_18 (RX8, TX8, 4) rfl gV_RX11_209 h1 (t_X8_get_k27 h1 r_p0 (ir_c rfl)) rfl [] rfl rfl (Nat.le_of_ble_eq_true rfl) rfl (k_ip fun X9 r10 h11 => ?_)
    refine GO.aload_n dX11_passSledge_21 rfl rfl ?_
    refine GO.getR h_x fl_RX11_12 rfl rfl dX11_passSledge_22 (fun hv13 h12 => ?_)
    refine GO.getI h12 fl_RX11_145 rfl rfl dX11_passSledge_25 (fun l14 u15 => ?_)
    refine GO.icmp_eq (tgt := 32) dX11_passSledge_28 (by decide) r10 vi_ir (fun c16 => ?_) (fun c16 => ?_)
    ·
      refine GO.aload_n dX11_passSledge_32 rfl rfl ?_
      refine GO.getRaw h_x fl_RX11_72 hv2 dX11_passSledge_33 ?_
      refine GO.iload_n dX11_passSledge_36 rfl rfl ?_
      refine GO.iconst dX11_passSledge_37 ?_
      refine GO.iconst dX11_passSledge_38 ?_
      refine GO.callV (ci := 27) (N := mX8_put_k27) dX11_passSledge_39 (RX8, TX8, 4) rfl gV_RX11_485 h1 (t_X8_put_k27 h1 r_p0 (ir_c rfl) (ir_c rfl)) rfl [] rfl rfl (Nat.le_of_ble_eq_true rfl) rfl (k_vs fun V21 h20 hF19 => ?_)
      refine GO.aload_n dX11_passSledge_42 rfl rfl ?_
      refine GO.getRaw h_x fl_RX11_72 (Eq.trans (hF19 _ _ _ h_x h_x (by decide +kernel)) hv2) dX11_passSledge_43 ?_
      refine GO.iload_n dX11_passSledge_46 rfl rfl ?_
      refine GO.iconst dX11_passSledge_47 ?_
      refine GO.callV (ci := 27) (N := mX8_get_k27) dX11_passSledge_48 (RX8, TX8, 4) rfl gV_RX11_209 h1 (t_X8_get_k27 h1 r_p0 (ir_c rfl)) rfl [] rfl rfl (Nat.le_of_ble_eq_true rfl) rfl (k_ip fun X24 r25 h26 => ?_)
      refine GO.istore_n (ls1 := [some (.ref x), some (ti p0), some (ti X24), none]) dX11_passSledge_51 rfl rfl rfl ?_
      refine GO.aload_n dX11_passSledge_52 rfl rfl ?_
      refine GO.aload_n dX11_passSledge_53 rfl rfl ?_
      refine GO.getRaw h_x fl_RX11_72 (Eq.trans (hF19 _ _ _ h_x h_x (by decide +kernel)) hv2) dX11_passSledge_54 ?_
      refine GO.iload_n dX11_passSledge_57 rfl rfl ?_
      refine GO.iconst dX11_passSledge_58 ?_
      refine GO.callV (ci := 27) (N := mX8_get_k27) dX11_passSledge_59 (RX8, TX8, 4) rfl gV_RX11_209 h1 (t_X8_get_k27 h1 r_p0 (ir_c rfl)) rfl [.ref x] rfl rfl (Nat.le_of_ble_eq_true rfl) rfl (k_ip fun X29 r30 h31 => ?_)
      refine GO.callV (ci := 10) (N := mX11_standingStation) dX11_passSledge_62 (RX11, TX11, 20) rfl gV_RX11_195 h_x (t_X11_standingStation h_x r30) rfl [] rfl rfl (Nat.le_of_ble_eq_true rfl) rfl (k_rp (fun h34 => ?_) (fun o32 h33 h34 => ?_))
      ·
        refine GO.astore_nN (ls1 := [some (.ref x), some (ti p0), some (ti X24), some (.null)]) dX11_passSledge_65 rfl rfl rfl ?_
        refine GO.aload_nN dX11_passSledge_66 rfl rfl ?_
        refine GO.ifnullN (tgt := 99) dX11_passSledge_67 (by decide) ?_
        refine GO.aload_n dX11_passSledge_99 rfl rfl ?_
        refine GO.iconst dX11_passSledge_100 ?_
        refine GO.iload_n dX11_passSledge_101 rfl rfl ?_
        refine GO.callV (ci := 10) (N := mX11_tally) dX11_passSledge_102 (RX11, TX11, 20) rfl gV_RX11_192 h_x (t_X11_tally h_x (ir_c rfl) r25) rfl [] rfl rfl (Nat.le_of_ble_eq_true rfl) rfl (k_vs fun V37 h36 hF35 => ?_)
        exact GO.retv rfl rfl dX11_passSledge_105 ⟨rfl, rfl, trivial⟩
      ·
        refine GO.astore_n (ls1 := [some (.ref x), some (ti p0), some (ti X24), some (.ref o32)]) dX11_passSledge_65 rfl rfl rfl ?_
        refine GO.aload_n dX11_passSledge_66 rfl rfl ?_
        refine GO.ifnull dX11_passSledge_67 ?_
        refine GO.aload_n dX11_passSledge_70 rfl rfl ?_
        refine GO.getI h33 fl_RX11_344 rfl rfl dX11_passSledge_71 (fun _ _ => ?_)
        refine GO.aload_n dX11_passSledge_74 rfl rfl ?_
        refine GO.getRaw h_x fl_RX11_72 (Eq.trans (hF19 _ _ _ h_x h_x (by decide +kernel)) hv2) dX11_passSledge_75 ?_
        refine GO.iload_n dX11_passSledge_78 rfl rfl ?_
        refine GO.iconst dX11_passSledge_79 ?_
        refine GO.callV (ci := 27) (N := mX8_get_k27) dX11_passSledge_80 (RX8, TX8, 4) rfl gV_RX11_209 h1 (t_X8_get_k27 h1 r_p0 (ir_c rfl)) rfl [ti (vi V21 o32 2)] rfl rfl (Nat.le_of_ble_eq_true rfl) rfl (k_ip fun X40 r41 h42 => ?_)
        refine GO.icmp_ne (tgt := 99) dX11_passSledge_83 (by decide) vi_ir r41 (fun c43 => ?_) (fun c43 => ?_)
        ·
          refine GO.aload_n dX11_passSledge_99 rfl rfl ?_
          refine GO.iconst dX11_passSledge_100 ?_
          refine GO.iload_n dX11_passSledge_101 rfl rfl ?_
          refine GO.callV (ci := 10) (N := mX11_tally) dX11_passSledge_102 (RX11, TX11, 20) rfl gV_RX11_192 h_x (t_X11_tally h_x (ir_c rfl) r25) rfl [] rfl rfl (Nat.le_of_ble_eq_true rfl) rfl (k_vs fun V46 h45 hF44 => ?_)
          exact GO.retv rfl rfl dX11_passSledge_105 ⟨rfl, rfl, trivial⟩
        ·
          refine GO.aload_n dX11_passSledge_86 rfl rfl ?_
          refine GO.dup dX11_passSledge_87 rfl ?_
          refine GO.getI h33 fl_RX11_186 rfl rfl dX11_passSledge_88 (fun _ _ => ?_)
          refine GO.iload_n dX11_passSledge_91 rfl rfl ?_
          refine GO.iadd dX11_passSledge_92 ?_
          refine GO.norm (fun z47 r48 hn49 => ?_)
          refine GO.putI h33 fp_RX11_186 rfl (by decide +kernel) r48 (r48).1 (r48).2 dX11_passSledge_93 (fun V51 e50 => ?_)
          refine GO.goto (tgt := 105) dX11_passSledge_96 (by decide) ?_
          exact GO.retv rfl rfl dX11_passSledge_105 ⟨rfl, rfl, trivial⟩
    ·
      exact GO.retv rfl rfl dX11_passSledge_31 ⟨rfl, rfl, trivial⟩

set_option maxHeartbeats 1000000 in
theorem t_X11_passShip_n {K : Kmap} {V : Vmap} {x : Nat} (h_x : K x = some (0, 10)) : MC mX11_passShip_n K V [.ref x, .null] (VS K (fun V1 => (True))) := by
  refine MC.start 0 (by decide +kernel) rfl rfl rfl (ls0 := [some (.ref x), some (.null)]) rfl ?_
  refine GO.aload_nN dX11_passShip_0 rfl rfl ?_
  refine GO.ifnonnullN dX11_passShip_1 ?_
  exact GO.retv rfl rfl dX11_passShip_4 ⟨rfl, rfl, trivial⟩

set_option maxHeartbeats 1000000 in
theorem t_X11_day {K : Kmap} {V : Vmap} {x : Nat} (h_x : K x = some (0, 10)) (w_0 : CWI K V x) : MC mX11_day K V [.ref x] (IS K (fun X V1 => (X ≥ (-2147483648) ∧ X ≤ 2147483647) ∧ (DYC V V1 x X) ∧ (CWI K V1 x))) := by
  refine MC.start 1 (by decide +kernel) rfl rfl rfl (ls0 := [some (.ref x), none]) rfl ?_
  refine GO.useWT (fun hW_0 => ?_)
  refine GO.aload_n dX11_day_0 rfl rfl ?_
  refine GO.getR h_x fl_RX11_12 rfl rfl dX11_day_1 (fun hv2 h1 => ?_)
  refine GO.getI h1 fl_RX11_145 rfl rfl dX11_day_4 (fun l3 u4 => ?_)
  refine GO.sipush dX11_day_7 rfl ?_
  refine GO.icmp_lt (tgt := 15) dX11_day_10 (by decide) vi_ir (ir_c rfl) (fun c5 => ?_) (fun c5 => ?_)
  ·
    have hT : K (vq V x 0) = some (0, 0) := by assumption
    have hlt : vi V (vq V x 0) 0 < 3599 := by omega
    refine GO.aload_n dX11_day_15 rfl rfl ?_
    refine GO.getRaw h_x fl_RX11_12 hv2 dX11_day_16 ?_
    refine GO.dup dX11_day_19 rfl ?_
    refine GO.getI h1 fl_RX11_145 rfl rfl dX11_day_20 (fun l8 u9 => ?_)
    refine GO.iconst dX11_day_23 ?_
    refine GO.iadd dX11_day_24 ?_
    refine GO.putI h1 fp_RX11_145 rfl (by decide +kernel) ⟨by omega, by omega⟩ (by omega) (by omega) dX11_day_25 (fun V11 e10 => ?_)
    refine GO.aload_n dX11_day_28 rfl rfl ?_
    refine GO.getR h_x fl_RX11_26 rfl rfl dX11_day_29 (fun hv13 h12 => ?_)
    have hdp : DYI V V11 x := dyi_put h_x hT hlt (by assumption)
    refine GO.useWT (fun hWa => ?_)
    refine GO.callV (ci := 5) (N := mX6_forget) dX11_day_32 (RX6, TX6, 10) rfl gV_RX11_435 h12 (t_X6_forget h12) rfl [] rfl rfl (Nat.le_of_ble_eq_true rfl) rfl (k_vs fun V16 h15 hF14 => ?_)
    have hc0 := CWI.fr (CWI.put (kd := (0, 0)) (j := 0) w_0 (by assumption) e10 hW_0 h_x (by decide +kernel) (by decide +kernel) (by decide +kernel) (by decide +kernel)) hF14 ext.rf hWa h_x (by decide +kernel) (by decide +kernel) (by decide +kernel)
    refine GO.iconst dX11_day_35 ?_
    refine GO.istore_n (ls1 := [some (.ref x), some (ti 0)]) dX11_day_36 rfl rfl rfl ?_
    refine GO.loop1 (fun i17 W => 0 ≤ i17 ∧ i17 ≤ 100 ∧ (DYI V W x) ∧ (CWI K W x) ∧ True) (fun i17 => [some (.ref x), some (ti i17)]) (fun i17 W => (2147483647 - i17).toNat) 0 ⟨by omega, by omega, (by first | exact dyi_fr (by assumption) (by assumption) h_x hT (by decide +kernel) (by decide +kernel)), (by first | exact w_0 | exact hc0), trivial⟩ rfl (fun i17 Wi17 hp100297 ih100296 => ?_)
    obtain ⟨l_i17, u_i17, hdy, hcl, -⟩ := hp100297
    have r_i17 : ir i17 := ⟨by omega, by omega⟩
    show GO mX11_day K V (IS K (fun X V1 => (X ≥ (-2147483648) ∧ X ≤ 2147483647) ∧ (DYC V V1 x X) ∧ (CWI K V1 x))) K Wi17 0 0 37 [some (.ref x), some (ti i17)] []
    refine GO.useWT (fun hWl => ?_)
    refine GO.iload_n dX11_day_37 rfl rfl ?_
    refine GO.aload_n dX11_day_38 rfl rfl ?_
    refine GO.getI h_x fl_RX11_55 rfl rfl dX11_day_39 (fun l100298 u100299 => ?_)
    refine GO.icmp_ge (tgt := 56) dX11_day_42 (by decide) r_i17 vi_ir (fun c100300 => ?_) (fun c100300 => ?_)
    ·
      refine GO.aload_n dX11_day_56 rfl rfl ?_
      refine GO.callV (ci := 10) (N := mX11_admitParties) dX11_day_57 (RX11, TX11, 20) rfl gV_RX11_439 h_x (t_X11_admitParties h_x (hcl)) rfl [] rfl rfl (Nat.le_of_ble_eq_true rfl) rfl (k_vs fun V100303 h100302 hF100301 => ?_)
      have raw_admitParties := h100302.2
      have rw57 := h100302.2
      refine GO.iconst dX11_day_60 ?_
      refine GO.istore_n (ls1 := [some (.ref x), some (ti 0)]) dX11_day_61 rfl rfl rfl ?_
      refine GO.loop1 (fun i100304 W => 0 ≤ i100304 ∧ i100304 ≤ 60 ∧ (DYI V W x) ∧ (CWI K W x) ∧ True) (fun i100304 => [some (.ref x), some (ti i100304)]) (fun i100304 W => (2147483647 - i100304).toNat) 0 ⟨by omega, by omega, (by first | exact hdy | exact dyi_fr (by assumption) (by assumption) h_x hT (by decide +kernel) (by decide +kernel)), (by first | exact w_0 | exact hc0 | exact hcl | exact rw57 | exact CWI.fr hcl (by assumption) ext.rf hWl h_x (by decide +kernel) (by decide +kernel) (by decide +kernel) | exact CWI.fr hcl (by assumption) ext.rf hWl h_x (by decide +kernel) (by decide +kernel) (by decide +kernel) | exact CWI.fr hcl (by assumption) ext.rf hWl h_x (by decide +kernel) (by decide +kernel) (by decide +kernel)), trivial⟩ rfl (fun i100304 Wi100304 hp110323 ih110322 => ?_)
      obtain ⟨l_i100304, u_i100304, hdy, hcl, -⟩ := hp110323
      have r_i100304 : ir i100304 := ⟨by omega, by omega⟩
      show GO mX11_day K V (IS K (fun X V1 => (X ≥ (-2147483648) ∧ X ≤ 2147483647) ∧ (DYC V V1 x X) ∧ (CWI K V1 x))) K Wi100304 0 0 62 [some (.ref x), some (ti i100304)] []
      refine GO.useWT (fun hWl => ?_)
      refine GO.iload_n dX11_day_62 rfl rfl ?_
      refine GO.aload_n dX11_day_63 rfl rfl ?_
      refine GO.getI h_x fl_RX11_46 rfl rfl dX11_day_64 (fun l110324 u110325 => ?_)
      refine GO.icmp_ge (tgt := 81) dX11_day_67 (by decide) r_i100304 vi_ir (fun c110326 => ?_) (fun c110326 => ?_)
      ·
        refine GO.iconst dX11_day_81 ?_
        refine GO.istore_n (ls1 := [some (.ref x), some (ti 0)]) dX11_day_82 rfl rfl rfl ?_
        refine GO.loop1 (fun i110327 W => 0 ≤ i110327 ∧ i110327 ≤ 10 ∧ (DYI V W x) ∧ (CWI K W x) ∧ True) (fun i110327 => [some (.ref x), some (ti i110327)]) (fun i110327 W => (2147483647 - i110327).toNat) 0 ⟨by omega, by omega, (by first | exact hdy | exact dyi_fr (by assumption) (by assumption) h_x hT (by decide +kernel) (by decide +kernel)), (by first | exact w_0 | exact hc0 | exact hcl | exact rw57 | exact CWI.fr hcl (by assumption) ext.rf hWl h_x (by decide +kernel) (by decide +kernel) (by decide +kernel) | exact CWI.fr hcl (by assumption) ext.rf hWl h_x (by decide +kernel) (by decide +kernel) (by decide +kernel) | exact CWI.fr hcl (by assumption) ext.rf hWl h_x (by decide +kernel) (by decide +kernel) (by decide +kernel)), trivial⟩ rfl (fun i110327 Wi110327 hp111295 ih111294 => ?_)
        obtain ⟨l_i110327, u_i110327, hdy, hcl, -⟩ := hp111295
        have r_i110327 : ir i110327 := ⟨by omega, by omega⟩
        show GO mX11_day K V (IS K (fun X V1 => (X ≥ (-2147483648) ∧ X ≤ 2147483647) ∧ (DYC V V1 x X) ∧ (CWI K V1 x))) K Wi110327 0 0 83 [some (.ref x), some (ti i110327)] []
        refine GO.useWT (fun hWl => ?_)
        refine GO.iload_n dX11_day_83 rfl rfl ?_
        refine GO.aload_n dX11_day_84 rfl rfl ?_
        refine GO.getI h_x fl_RX11_64 rfl rfl dX11_day_85 (fun l111296 u111297 => ?_)
        refine GO.icmp_ge (tgt := 106) dX11_day_88 (by decide) r_i110327 vi_ir (fun c111298 => ?_) (fun c111298 => ?_)
        ·
          refine GO.iconst dX11_day_106 ?_
          refine GO.istore_n (ls1 := [some (.ref x), some (ti 0)]) dX11_day_107 rfl rfl rfl ?_
          refine GO.loop1 (fun i111299 W => 0 ≤ i111299 ∧ i111299 ≤ 40 ∧ (DYI V W x) ∧ (CWI K W x) ∧ True) (fun i111299 => [some (.ref x), some (ti i111299)]) (fun i111299 W => (2147483647 - i111299).toNat) 0 ⟨by omega, by omega, (by first | exact hdy | exact dyi_fr (by assumption) (by assumption) h_x hT (by decide +kernel) (by decide +kernel)), (by first | exact w_0 | exact hc0 | exact hcl | exact rw57 | exact CWI.fr hcl (by assumption) ext.rf hWl h_x (by decide +kernel) (by decide +kernel) (by decide +kernel) | exact CWI.fr hcl (by assumption) ext.rf hWl h_x (by decide +kernel) (by decide +kernel) (by decide +kernel) | exact CWI.fr hcl (by assumption) ext.rf hWl h_x (by decide +kernel) (by decide +kernel) (by decide +kernel)), trivial⟩ rfl (fun i111299 Wi111299 hp111409 ih111408 => ?_)
          obtain ⟨l_i111299, u_i111299, hdy, hcl, -⟩ := hp111409
          have r_i111299 : ir i111299 := ⟨by omega, by omega⟩
          show GO mX11_day K V (IS K (fun X V1 => (X ≥ (-2147483648) ∧ X ≤ 2147483647) ∧ (DYC V V1 x X) ∧ (CWI K V1 x))) K Wi111299 0 0 108 [some (.ref x), some (ti i111299)] []
          refine GO.useWT (fun hWl => ?_)
          refine GO.iload_n dX11_day_108 rfl rfl ?_
          refine GO.aload_n dX11_day_109 rfl rfl ?_
          refine GO.getR h_x fl_RX11_72 rfl rfl dX11_day_110 (fun hv111411 h111410 => ?_)
          refine GO.getI h111410 fl_RX11_199_k27 rfl rfl dX11_day_113 (fun l111412 u111413 => ?_)
          refine GO.icmp_ge (tgt := 130) dX11_day_116 (by decide) r_i111299 vi_ir (fun c111414 => ?_) (fun c111414 => ?_)
          ·
            refine GO.aload_n dX11_day_130 rfl rfl ?_
            refine GO.getR h_x fl_RX11_12 rfl rfl dX11_day_131 (fun hv111416 h111415 => ?_)
            refine GO.getI h111415 fl_RX11_145 rfl rfl dX11_day_134 (fun l111417 u111418 => ?_)
            exact GO.reti rfl rfl dX11_day_137 ⟨rfl, _, rfl, vi_ir, ⟨(by first | exact trivial | omega), (by first | exact dyc_0 (by omega) | exact dyc_1 hdy hlt), (by first | exact w_0 | exact hc0 | exact hcl | exact rw57 | exact CWI.fr hcl (by assumption) ext.rf hWl h_x (by decide +kernel) (by decide +kernel) (by decide +kernel) | exact CWI.fr hcl (by assumption) ext.rf hWl h_x (by decide +kernel) (by decide +kernel) (by decide +kernel) | exact CWI.fr hcl (by assumption) ext.rf hWl h_x (by decide +kernel) (by decide +kernel) (by decide +kernel))⟩⟩
          ·
            refine GO.aload_n dX11_day_119 rfl rfl ?_
            refine GO.iload_n dX11_day_120 rfl rfl ?_
            refine GO.callV (ci := 10) (N := mX11_passSledge) dX11_day_121 (RX11, TX11, 20) rfl gV_RX11_449 h_x (t_X11_passSledge h_x r_i111299) rfl [] rfl rfl (Nat.le_of_ble_eq_true rfl) rfl (k_vs fun V111421 h111420 hF111419 => ?_)
            refine GO.iinc (X := i111299) (n := 1) (Y := i111299 + 1) (ls1 := [some (.ref x), some (ti (i111299 + 1))]) dX11_day_124 rfl rfl rfl rfl ?_
            refine GO.goto (tgt := 108) dX11_day_127 (by decide) ?_
            exact ih111408 (i111299 + 1) V111421 ⟨by omega, by omega, (by first | exact hdy | exact dyi_fr (by assumption) (by assumption) h_x hT (by decide +kernel) (by decide +kernel)), (by first | exact w_0 | exact hc0 | exact hcl | exact rw57 | exact CWI.fr hcl (by assumption) ext.rf hWl h_x (by decide +kernel) (by decide +kernel) (by decide +kernel) | exact CWI.fr hcl (by assumption) ext.rf hWl h_x (by decide +kernel) (by decide +kernel) (by decide +kernel) | exact CWI.fr hcl hF111419 ext.rf hWl h_x (by decide +kernel) (by decide +kernel) (by decide +kernel)), trivial⟩ (by show (2147483647 - (i111299 + 1)).toNat < (2147483647 - i111299).toNat; omega)
        ·
          refine GO.aload_n dX11_day_91 rfl rfl ?_
          refine GO.aload_n dX11_day_92 rfl rfl ?_
          refine GO.iload_n dX11_day_93 rfl rfl ?_
          refine GO.callV (ci := 10) (N := mX11_shipOf) dX11_day_94 (RX11, TX11, 20) rfl gV_RX11_403 h_x (t_X11_shipOf h_x r_i110327) rfl [.ref x] rfl rfl (Nat.le_of_ble_eq_true rfl) rfl (k_rp (fun h111424 => ?_) (fun o111422 h111423 h111424 => ?_))
          ·
            have rwn94 := h111424.2
            have hn111425 : SN Wi110327 x → i110327 < 0 ∨ vi Wi110327 x 10 ≤ i110327 := h111424.2
            refine GO.callV (ci := 10) (N := mX11_passShip_n) dX11_day_97 (RX11, TX11, 20) rfl gV_RX11_445 h_x (t_X11_passShip_n h_x) rfl [] rfl rfl (Nat.le_of_ble_eq_true rfl) rfl (k_vs fun V111428 h111427 hF111426 => ?_)
            refine GO.iinc (X := i110327) (n := 1) (Y := i110327 + 1) (ls1 := [some (.ref x), some (ti (i110327 + 1))]) dX11_day_100 rfl rfl rfl rfl ?_
            refine GO.goto (tgt := 83) dX11_day_103 (by decide) ?_
            exact ih111294 (i110327 + 1) V111428 ⟨by omega, by omega, (by first | exact hdy | exact dyi_fr (by assumption) (by assumption) h_x hT (by decide +kernel) (by decide +kernel)), (by first | exact w_0 | exact hc0 | exact hcl | exact rw57 | exact CWI.fr hcl (by assumption) ext.rf hWl h_x (by decide +kernel) (by decide +kernel) (by decide +kernel) | exact CWI.fr hcl hF111426 ext.rf hWl h_x (by decide +kernel) (by decide +kernel) (by decide +kernel) | exact CWI.fr hcl (by assumption) ext.rf hWl h_x (by decide +kernel) (by decide +kernel) (by decide +kernel)), trivial⟩ (by show (2147483647 - (i110327 + 1)).toNat < (2147483647 - i110327).toNat; omega)
          ·
            have hp111429 : i110327 ≥ 0 ∧ i110327 < vi Wi110327 x 10 := h111424.1
            have rwp94 := h111424.2
            have hq111430 : o111422 = vq Wi110327 (vq Wi110327 x 9) (i110327).toNat := h111424.2
            refine GO.callV (ci := 10) (N := mX11_passShip) dX11_day_97 (RX11, TX11, 20) rfl gV_RX11_445 h_x (t_X11_passShip h_x h111423) rfl [] rfl rfl (Nat.le_of_ble_eq_true rfl) rfl (k_vs fun V111433 h111432 hF111431 => ?_)
            refine GO.iinc (X := i110327) (n := 1) (Y := i110327 + 1) (ls1 := [some (.ref x), some (ti (i110327 + 1))]) dX11_day_100 rfl rfl rfl rfl ?_
            refine GO.goto (tgt := 83) dX11_day_103 (by decide) ?_
            exact ih111294 (i110327 + 1) V111433 ⟨by omega, by omega, (by first | exact hdy | exact dyi_fr (by assumption) (by assumption) h_x hT (by decide +kernel) (by decide +kernel)), (by first | exact w_0 | exact hc0 | exact hcl | exact rw57 | exact CWI.fr hcl (by assumption) ext.rf hWl h_x (by decide +kernel) (by decide +kernel) (by decide +kernel) | exact CWI.fr hcl hF111431 ext.rf hWl h_x (by decide +kernel) (by decide +kernel) (by decide +kernel) | exact CWI.fr hcl (by assumption) ext.rf hWl h_x (by decide +kernel) (by decide +kernel) (by decide +kernel)), trivial⟩ (by show (2147483647 - (i110327 + 1)).toNat < (2147483647 - i110327).toNat; omega)
      ·
        refine GO.aload_n dX11_day_70 rfl rfl ?_
        refine GO.iload_n dX11_day_71 rfl rfl ?_
        refine GO.callV (ci := 10) (N := mX11_passStation) dX11_day_72 (RX11, TX11, 20) rfl gV_RX11_442 h_x (t_X11_passStation h_x r_i100304) rfl [] rfl rfl (Nat.le_of_ble_eq_true rfl) rfl (k_vs fun V111436 h111435 hF111434 => ?_)
        refine GO.iinc (X := i100304) (n := 1) (Y := i100304 + 1) (ls1 := [some (.ref x), some (ti (i100304 + 1))]) dX11_day_75 rfl rfl rfl rfl ?_
        refine GO.goto (tgt := 62) dX11_day_78 (by decide) ?_
        exact ih110322 (i100304 + 1) V111436 ⟨by omega, by omega, (by first | exact hdy | exact dyi_fr (by assumption) (by assumption) h_x hT (by decide +kernel) (by decide +kernel)), (by first | exact w_0 | exact hc0 | exact hcl | exact rw57 | exact CWI.fr hcl hF111434 ext.rf hWl h_x (by decide +kernel) (by decide +kernel) (by decide +kernel) | exact CWI.fr hcl (by assumption) ext.rf hWl h_x (by decide +kernel) (by decide +kernel) (by decide +kernel) | exact CWI.fr hcl (by assumption) ext.rf hWl h_x (by decide +kernel) (by decide +kernel) (by decide +kernel)), trivial⟩ (by show (2147483647 - (i100304 + 1)).toNat < (2147483647 - i100304).toNat; omega)
    ·
      refine GO.aload_n dX11_day_45 rfl rfl ?_
      refine GO.iload_n dX11_day_46 rfl rfl ?_
      refine GO.callV (ci := 10) (N := mX11_passWork) dX11_day_47 (RX11, TX11, 20) rfl gV_RX11_436 h_x (t_X11_passWork h_x r_i17 (hcl)) rfl [] rfl rfl (Nat.le_of_ble_eq_true rfl) rfl (k_vs fun V111439 h111438 hF111437 => ?_)
      have raw_passWork := h111438.2
      have rw47 := h111438.2
      refine GO.iinc (X := i17) (n := 1) (Y := i17 + 1) (ls1 := [some (.ref x), some (ti (i17 + 1))]) dX11_day_50 rfl rfl rfl rfl ?_
      refine GO.goto (tgt := 37) dX11_day_53 (by decide) ?_
      exact ih100296 (i17 + 1) V111439 ⟨by omega, by omega, (by first | exact hdy | exact dyi_fr (by assumption) (by assumption) h_x hT (by decide +kernel) (by decide +kernel)), (by first | exact w_0 | exact hc0 | exact hcl | exact rw47 | exact CWI.fr hcl (by assumption) ext.rf hWl h_x (by decide +kernel) (by decide +kernel) (by decide +kernel) | exact CWI.fr hcl (by assumption) ext.rf hWl h_x (by decide +kernel) (by decide +kernel) (by decide +kernel) | exact CWI.fr hcl (by assumption) ext.rf hWl h_x (by decide +kernel) (by decide +kernel) (by decide +kernel)), trivial⟩ (by show (2147483647 - (i17 + 1)).toNat < (2147483647 - i17).toNat; omega)
  ·
    refine GO.iconst dX11_day_13 ?_
    exact GO.reti rfl rfl dX11_day_14 ⟨rfl, _, rfl, (ir_c rfl), ⟨(by first | exact trivial | omega), (by first | exact dyc_0 (by omega)), (by first | exact w_0)⟩⟩

set_option maxHeartbeats 1000000 in
theorem t_X11_sound {K : Kmap} {V : Vmap} {x : Nat} {p0 : Int} {p1 : Int} {p2 : Int} (h_x : K x = some (0, 10)) (r_p0 : ir p0) (r_p1 : ir p1) (r_p2 : ir p2) : MC mX11_sound K V [.ref x, ti p0, ti p1, ti p2] (IS K (fun X V1 => (X = 0 ∨ X = 1) ∧ (X ≠ 0 → True) ∧ (X = 0 → True))) := by
  refine MC.start 1 (by decide +kernel) rfl rfl rfl (ls0 := [some (.ref x), some (ti p0), some (ti p1), some (ti p2), none]) rfl ?_
  refine GO.aload_n dX11_sound_0 rfl rfl ?_
  refine GO.iload_n dX11_sound_1 rfl rfl ?_
  refine GO.iconst dX11_sound_2 ?_
  refine GO.callV (ci := 10) (N := mX11_placeOf) dX11_sound_3 (RX11, TX11, 20) rfl gV_RX11_169 h_x (t_X11_placeOf h_x r_p0 (ir_c rfl)) rfl [] rfl rfl (Nat.le_of_ble_eq_true rfl) rfl (k_rp (fun h3 => ?_) (fun o1 h2 h3 => ?_))
  ·
    refine GO.astoreN (ls1 := [some (.ref x), some (ti p0), some (ti p1), some (ti p2), some (.null)]) dX11_sound_6 rfl rfl ?_
    refine GO.aloadN dX11_sound_8 rfl ?_
    refine GO.ifnullN (tgt := 35) dX11_sound_10 (by decide) ?_
    refine GO.iconst dX11_sound_35 ?_
    exact GO.retz rfl rfl dX11_sound_36 (Or.inl rfl) ⟨rfl, _, rfl, (ir_c rfl), ⟨Or.inl rfl, fun _ => trivial, fun _ => trivial⟩⟩
  ·
    refine GO.astore (ls1 := [some (.ref x), some (ti p0), some (ti p1), some (ti p2), some (.ref o1)]) dX11_sound_6 rfl rfl ?_
    refine GO.aload dX11_sound_8 rfl ?_
    refine GO.ifnull dX11_sound_10 ?_
    refine GO.iload_n dX11_sound_13 rfl rfl ?_
    refine GO.iconst dX11_sound_14 ?_
    refine GO.sipush dX11_sound_15 rfl ?_
    refine GO.callS (N := mX11_between) dX11_sound_18 gS_RX11_112 (t_X11_between r_p1 (ir_c rfl) (ir_c rfl)) rfl [] rfl rfl (Nat.le_of_ble_eq_true rfl) rfl (k_ip fun X4 r5 h6 => ?_)
    refine GO.if_eq (tgt := 35) dX11_sound_21 (by decide) r5 (fun c7 => ?_) (fun c7 => ?_)
    ·
      have q8 := h6.2.2 (by omega)
      refine GO.iconst dX11_sound_35 ?_
      exact GO.retz rfl rfl dX11_sound_36 (Or.inl rfl) ⟨rfl, _, rfl, (ir_c rfl), ⟨Or.inl rfl, fun _ => trivial, fun _ => trivial⟩⟩
    ·
      have q9 := h6.2.1 (by omega)
      refine GO.iload_n dX11_sound_24 rfl rfl ?_
      refine GO.iconst dX11_sound_25 ?_
      refine GO.sipush dX11_sound_26 rfl ?_
      refine GO.callS (N := mX11_between) dX11_sound_29 gS_RX11_112 (t_X11_between r_p2 (ir_c rfl) (ir_c rfl)) rfl [] rfl rfl (Nat.le_of_ble_eq_true rfl) rfl (k_ip fun X10 r11 h12 => ?_)
      refine GO.if_ne (tgt := 37) dX11_sound_32 (by decide) r11 (fun c13 => ?_) (fun c13 => ?_)
      ·
        have q14 := h12.2.1 (by omega)
        refine GO.aload dX11_sound_37 rfl ?_
        refine GO.iload_n dX11_sound_39 rfl rfl ?_
        refine GO.iload_n dX11_sound_40 rfl rfl ?_
        refine GO.callV (ci := 3) (N := mX3_addSounding) dX11_sound_41 (RX3, TX3, 16) rfl gV_RX11_556 h2 (t_X3_addSounding h2 r_p1 r_p2) rfl [] rfl rfl (Nat.le_of_ble_eq_true rfl) rfl (k_is fun X15 V19 r16 h17 hF18 => ?_)
        exact GO.retz rfl rfl dX11_sound_44 (by omega) ⟨rfl, _, rfl, r16, ⟨by omega, fun _ => trivial, fun _ => trivial⟩⟩
      ·
        have q20 := h12.2.2 (by omega)
        refine GO.iconst dX11_sound_35 ?_
        exact GO.retz rfl rfl dX11_sound_36 (Or.inl rfl) ⟨rfl, _, rfl, (ir_c rfl), ⟨Or.inl rfl, fun _ => trivial, fun _ => trivial⟩⟩

set_option maxHeartbeats 1000000 in
theorem t_X11_sure {K : Kmap} {V : Vmap} {x : Nat} {p0 : Int} (h_x : K x = some (0, 10)) (r_p0 : ir p0) : MC mX11_sure K V [.ref x, ti p0] (IP K V (fun X => True)) := by
  refine MC.start 1 (by decide +kernel) rfl rfl rfl (ls0 := [some (.ref x), some (ti p0), none]) rfl ?_
  refine GO.aload_n dX11_sure_0 rfl rfl ?_
  refine GO.iload_n dX11_sure_1 rfl rfl ?_
  refine GO.iconst dX11_sure_2 ?_
  refine GO.callV (ci := 10) (N := mX11_placeOf) dX11_sure_3 (RX11, TX11, 20) rfl gV_RX11_169 h_x (t_X11_placeOf h_x r_p0 (ir_c rfl)) rfl [] rfl rfl (Nat.le_of_ble_eq_true rfl) rfl (k_rp (fun h3 => ?_) (fun o1 h2 h3 => ?_))
  ·
    refine GO.astore_nN (ls1 := [some (.ref x), some (ti p0), some (.null)]) dX11_sure_6 rfl rfl rfl ?_
    refine GO.aload_nN dX11_sure_7 rfl rfl ?_
    refine GO.ifnonnullN dX11_sure_8 ?_
    refine GO.iconst dX11_sure_11 ?_
    refine GO.goto (tgt := 19) dX11_sure_12 (by decide) ?_
    exact GO.reti rfl rfl dX11_sure_19 ⟨rfl, rfl, _, rfl, (ir_c rfl), trivial⟩
  ·
    refine GO.astore_n (ls1 := [some (.ref x), some (ti p0), some (.ref o1)]) dX11_sure_6 rfl rfl rfl ?_
    refine GO.aload_n dX11_sure_7 rfl rfl ?_
    refine GO.ifnonnull (tgt := 15) dX11_sure_8 (by decide) ?_
    refine GO.aload_n dX11_sure_15 rfl rfl ?_
    refine GO.callV (ci := 3) (N := mX3_sureDepth) dX11_sure_16 (RX3, TX3, 16) rfl gV_RX11_482 h2 (t_X3_sureDepth h2) rfl [] rfl rfl (Nat.le_of_ble_eq_true rfl) rfl (k_ip fun X4 r5 h6 => ?_)
    have q7 : -2147483648 ≤ X4 ∧ X4 ≤ 2147483647 := r5
    exact GO.reti rfl rfl dX11_sure_19 ⟨rfl, rfl, _, rfl, r5, trivial⟩

set_option maxHeartbeats 1000000 in
theorem t_X8_isFull_k29 {K : Kmap} {V : Vmap} {x : Nat} (h_x : K x = some (0, 29)) : MC mX8_isFull_k29 K V [.ref x] (IP K V (fun X => (X = 0 ∨ X = 1) ∧ (X ≠ 0 → vi V x 3 ≥ 10) ∧ (X = 0 → vi V x 3 ≤ 9))) := by
  refine MC.start 0 (by decide +kernel) rfl rfl rfl (ls0 := [some (.ref x)]) rfl ?_
  refine GO.aload_n dX8_isFull_0 rfl rfl ?_
  refine GO.getI h_x fl_RX8_9_k29 rfl rfl dX8_isFull_1 (fun l1 u2 => ?_)
  refine GO.aload_n dX8_isFull_4 rfl rfl ?_
  refine GO.getI h_x fl_RX8_18_k29 rfl rfl dX8_isFull_5 (fun l3 u4 => ?_)
  refine GO.icmp_lt (tgt := 15) dX8_isFull_8 (by decide) vi_ir vi_ir (fun c5 => ?_) (fun c5 => ?_)
  ·
    refine GO.iconst dX8_isFull_15 ?_
    exact GO.retz rfl rfl dX8_isFull_16 (Or.inl rfl) ⟨rfl, rfl, _, rfl, (ir_c rfl), ⟨Or.inl rfl, fun h => absurd rfl h, fun h => by omega⟩⟩
  ·
    refine GO.iconst dX8_isFull_11 ?_
    refine GO.goto (tgt := 16) dX8_isFull_12 (by decide) ?_
    exact GO.retz rfl rfl dX8_isFull_16 (Or.inr rfl) ⟨rfl, rfl, _, rfl, (ir_c rfl), ⟨Or.inr rfl, fun h => by omega, fun h => absurd h (by decide)⟩⟩

set_option maxHeartbeats 1000000 in
theorem t_X8_append_k29 {K : Kmap} {V : Vmap} {x : Nat} {p0 : Int} {p1 : Int} {p2 : Int} {p3 : Int} {p4 : Int} (h_x : K x = some (0, 29)) (r_p0 : ir p0) (r_p1 : ir p1) (r_p2 : ir p2) (r_p3 : ir p3) (r_p4 : ir p4) : MC mX8_append_k29 K V [.ref x, ti p0, ti p1, ti p2, ti p3, ti p4] (IS K (fun X V1 => True)) := by
  refine MC.start 1 (by decide +kernel) rfl rfl rfl (ls0 := [some (.ref x), some (ti p0), some (ti p1), some (ti p2), some (ti p3), some (ti p4), none]) rfl ?_
  refine GO.aload_n dX8_append_0 rfl rfl ?_
  refine GO.callV (ci := 29) (N := mX8_isFull_k29) dX8_append_1 (RX8, TX8, 4) rfl gV_RX8_31 h_x (t_X8_isFull_k29 h_x) rfl [] rfl rfl (Nat.le_of_ble_eq_true rfl) rfl (k_ip fun X1 r2 h3 => ?_)
  refine GO.if_eq (tgt := 9) dX8_append_4 (by decide) r2 (fun c4 => ?_) (fun c4 => ?_)
  ·
    have q5 := h3.2.2 (by omega)
    refine GO.aload_n dX8_append_9 rfl rfl ?_
    refine GO.getI h_x fl_RX8_9_k29 rfl rfl dX8_append_10 (fun l6 u7 => ?_)
    refine GO.name (fun z8 hz9 => ?_)
    have r10 : ir z8 := hz9 ▸ vi_ir
    refine GO.istore (ls1 := [some (.ref x), some (ti p0), some (ti p1), some (ti p2), some (ti p3), some (ti p4), some (ti z8)]) dX8_append_13 rfl rfl ?_
    refine GO.aload_n dX8_append_15 rfl rfl ?_
    refine GO.dup dX8_append_16 rfl ?_
    refine GO.getI h_x fl_RX8_9_k29 rfl rfl dX8_append_17 (fun l11 u12 => ?_)
    refine GO.iconst dX8_append_20 ?_
    refine GO.iadd dX8_append_21 ?_
    have q14 : -2147483648 ≤ vi V x 3 ∧ vi V x 3 ≤ 2147483647 := vi_ir
    have q15 : -2147483648 ≤ z8 ∧ z8 ≤ 2147483647 := r10
    refine GO.putI h_x fp_RX8_9_k29 rfl (by decide +kernel) ⟨by omega, by omega⟩ (by omega) (by omega) dX8_append_22 (fun V16 e13 => ?_)
    refine GO.aload_n dX8_append_25 rfl rfl ?_
    refine GO.iload dX8_append_26 rfl ?_
    refine GO.iconst dX8_append_28 ?_
    refine GO.iload_n dX8_append_29 rfl rfl ?_
    refine GO.callV (ci := 29) (N := mX8_put_k29) dX8_append_30 (RX8, TX8, 4) rfl gV_RX8_35 h_x (t_X8_put_k29 h_x r10 (ir_c rfl) r_p0) rfl [] rfl rfl (Nat.le_of_ble_eq_true rfl) rfl (k_vs fun V19 h18 hF17 => ?_)
    refine GO.aload_n dX8_append_33 rfl rfl ?_
    refine GO.iload dX8_append_34 rfl ?_
    refine GO.iconst dX8_append_36 ?_
    refine GO.iload_n dX8_append_37 rfl rfl ?_
    refine GO.callV (ci := 29) (N := mX8_put_k29) dX8_append_38 (RX8, TX8, 4) rfl gV_RX8_35 h_x (t_X8_put_k29 h_x r10 (ir_c rfl) r_p1) rfl [] rfl rfl (Nat.le_of_ble_eq_true rfl) rfl (k_vs fun V22 h21 hF20 => ?_)
    refine GO.aload_n dX8_append_41 rfl rfl ?_
    refine GO.iload dX8_append_42 rfl ?_
    refine GO.iconst dX8_append_44 ?_
    refine GO.iload_n dX8_append_45 rfl rfl ?_
    refine GO.callV (ci := 29) (N := mX8_put_k29) dX8_append_46 (RX8, TX8, 4) rfl gV_RX8_35 h_x (t_X8_put_k29 h_x r10 (ir_c rfl) r_p2) rfl [] rfl rfl (Nat.le_of_ble_eq_true rfl) rfl (k_vs fun V25 h24 hF23 => ?_)
    refine GO.aload_n dX8_append_49 rfl rfl ?_
    refine GO.iload dX8_append_50 rfl ?_
    refine GO.iconst dX8_append_52 ?_
    refine GO.iload dX8_append_53 rfl ?_
    refine GO.callV (ci := 29) (N := mX8_put_k29) dX8_append_55 (RX8, TX8, 4) rfl gV_RX8_35 h_x (t_X8_put_k29 h_x r10 (ir_c rfl) r_p3) rfl [] rfl rfl (Nat.le_of_ble_eq_true rfl) rfl (k_vs fun V28 h27 hF26 => ?_)
    refine GO.aload_n dX8_append_58 rfl rfl ?_
    refine GO.iload dX8_append_59 rfl ?_
    refine GO.iconst dX8_append_61 ?_
    refine GO.iload dX8_append_62 rfl ?_
    refine GO.callV (ci := 29) (N := mX8_put_k29) dX8_append_64 (RX8, TX8, 4) rfl gV_RX8_35 h_x (t_X8_put_k29 h_x r10 (ir_c rfl) r_p4) rfl [] rfl rfl (Nat.le_of_ble_eq_true rfl) rfl (k_vs fun V31 h30 hF29 => ?_)
    refine GO.iload dX8_append_67 rfl ?_
    exact GO.reti rfl rfl dX8_append_69 ⟨rfl, _, rfl, r10, trivial⟩
  ·
    have q32 := h3.2.1 (by omega)
    refine GO.iconst dX8_append_7 ?_
    exact GO.reti rfl rfl dX8_append_8 ⟨rfl, _, rfl, (ir_c rfl), trivial⟩

set_option maxHeartbeats 1000000 in
theorem t_X11_drill {K : Kmap} {V : Vmap} {x : Nat} {p0 : Int} {p1 : Int} (h_x : K x = some (0, 10)) (r_p0 : ir p0) (r_p1 : ir p1) : MC mX11_drill K V [.ref x, ti p0, ti p1] (IS K (fun X V1 => True)) := by
  refine MC.start 2 (by decide +kernel) rfl rfl rfl (ls0 := [some (.ref x), some (ti p0), some (ti p1), none, none]) rfl ?_
  refine GO.aload_n dX11_drill_0 rfl rfl ?_
  refine GO.iload_n dX11_drill_1 rfl rfl ?_
  refine GO.iconst dX11_drill_2 ?_
  refine GO.callV (ci := 10) (N := mX11_placeOf) dX11_drill_3 (RX11, TX11, 20) rfl gV_RX11_169 h_x (t_X11_placeOf h_x r_p0 (ir_c rfl)) rfl [] rfl rfl (Nat.le_of_ble_eq_true rfl) rfl (k_rp (fun h3 => ?_) (fun o1 h2 h3 => ?_))
  ·
    refine GO.astore_nN (ls1 := [some (.ref x), some (ti p0), some (ti p1), some (.null), none]) dX11_drill_6 rfl rfl rfl ?_
    refine GO.aload_n dX11_drill_7 rfl rfl ?_
    refine GO.iload_n dX11_drill_8 rfl rfl ?_
    refine GO.callV (ci := 10) (N := mX11_workOf) dX11_drill_9 (RX11, TX11, 20) rfl gV_RX11_309 h_x (t_X11_workOf h_x r_p1) rfl [] rfl rfl (Nat.le_of_ble_eq_true rfl) rfl (k_rp (fun h6 => ?_) (fun o4 h5 h6 => ?_))
    ·
      refine GO.astoreN (ls1 := [some (.ref x), some (ti p0), some (ti p1), some (.null), some (.null)]) dX11_drill_12 rfl rfl ?_
      refine GO.aload_nN dX11_drill_14 rfl rfl ?_
      refine GO.ifnullN (tgt := 44) dX11_drill_15 (by decide) ?_
      refine GO.iconst dX11_drill_44 ?_
      exact GO.reti rfl rfl dX11_drill_45 ⟨rfl, _, rfl, (ir_c rfl), trivial⟩
    ·
      refine GO.astore (ls1 := [some (.ref x), some (ti p0), some (ti p1), some (.null), some (.ref o4)]) dX11_drill_12 rfl rfl ?_
      refine GO.aload_nN dX11_drill_14 rfl rfl ?_
      refine GO.ifnullN (tgt := 44) dX11_drill_15 (by decide) ?_
      refine GO.iconst dX11_drill_44 ?_
      exact GO.reti rfl rfl dX11_drill_45 ⟨rfl, _, rfl, (ir_c rfl), trivial⟩
  ·
    refine GO.astore_n (ls1 := [some (.ref x), some (ti p0), some (ti p1), some (.ref o1), none]) dX11_drill_6 rfl rfl rfl ?_
    refine GO.aload_n dX11_drill_7 rfl rfl ?_
    refine GO.iload_n dX11_drill_8 rfl rfl ?_
    refine GO.callV (ci := 10) (N := mX11_workOf) dX11_drill_9 (RX11, TX11, 20) rfl gV_RX11_309 h_x (t_X11_workOf h_x r_p1) rfl [] rfl rfl (Nat.le_of_ble_eq_true rfl) rfl (k_rp (fun h9 => ?_) (fun o7 h8 h9 => ?_))
    ·
      refine GO.astoreN (ls1 := [some (.ref x), some (ti p0), some (ti p1), some (.ref o1), some (.null)]) dX11_drill_12 rfl rfl ?_
      refine GO.aload_n dX11_drill_14 rfl rfl ?_
      refine GO.ifnull dX11_drill_15 ?_
      refine GO.aloadN dX11_drill_18 rfl ?_
      refine GO.ifnullN (tgt := 44) dX11_drill_20 (by decide) ?_
      refine GO.iconst dX11_drill_44 ?_
      exact GO.reti rfl rfl dX11_drill_45 ⟨rfl, _, rfl, (ir_c rfl), trivial⟩
    ·
      refine GO.astore (ls1 := [some (.ref x), some (ti p0), some (ti p1), some (.ref o1), some (.ref o7)]) dX11_drill_12 rfl rfl ?_
      refine GO.aload_n dX11_drill_14 rfl rfl ?_
      refine GO.ifnull dX11_drill_15 ?_
      refine GO.aload dX11_drill_18 rfl ?_
      refine GO.ifnull dX11_drill_20 ?_
      refine GO.aload dX11_drill_23 rfl ?_
      refine GO.getI h8 fl_RX11_375 rfl rfl dX11_drill_25 (fun _ _ => ?_)
      refine GO.iconst dX11_drill_28 ?_
      refine GO.icmp_ne (tgt := 44) dX11_drill_29 (by decide) vi_ir (ir_c rfl) (fun c10 => ?_) (fun c10 => ?_)
      ·
        refine GO.iconst dX11_drill_44 ?_
        exact GO.reti rfl rfl dX11_drill_45 ⟨rfl, _, rfl, (ir_c rfl), trivial⟩
      ·
        refine GO.aload dX11_drill_32 rfl ?_
        refine GO.getI h8 fl_RX11_378 rfl rfl dX11_drill_34 (fun _ _ => ?_)
        refine GO.aload_n dX11_drill_37 rfl rfl ?_
        refine GO.getI h2 fl_RX11_344 rfl rfl dX11_drill_38 (fun _ _ => ?_)
        refine GO.icmp_eq (tgt := 46) dX11_drill_41 (by decide) vi_ir vi_ir (fun c11 => ?_) (fun c11 => ?_)
        ·
          refine GO.aload_n dX11_drill_46 rfl rfl ?_
          refine GO.getR h_x fl_RX11_79 rfl rfl dX11_drill_47 (fun hv13 h12 => ?_)
          refine GO.iload_n dX11_drill_50 rfl rfl ?_
          refine GO.iload_n dX11_drill_51 rfl rfl ?_
          refine GO.iconst dX11_drill_52 ?_
          refine GO.iconst dX11_drill_53 ?_
          refine GO.iconst dX11_drill_54 ?_
          refine GO.callV (ci := 29) (N := mX8_append_k29) dX11_drill_55 (RX8, TX8, 4) rfl gV_RX11_205 h12 (t_X8_append_k29 h12 r_p0 r_p1 (ir_c rfl) (ir_c rfl) (ir_c rfl)) rfl [] rfl rfl (Nat.le_of_ble_eq_true rfl) rfl (k_is fun X14 V18 r15 h16 hF17 => ?_)
          have q19 : -2147483648 ≤ X14 ∧ X14 ≤ 2147483647 := r15
          exact GO.reti rfl rfl dX11_drill_58 ⟨rfl, _, rfl, r15, trivial⟩
        ·
          refine GO.iconst dX11_drill_44 ?_
          exact GO.reti rfl rfl dX11_drill_45 ⟨rfl, _, rfl, (ir_c rfl), trivial⟩

set_option maxHeartbeats 1000000 in
theorem t_X4_put_t145 {K : Kmap} {V : Vmap} {p0 n_p0 : Nat} {p1 : Int} {p2 : Int} (h_p0 : K p0 = some (146, n_p0)) (r_p1 : ir p1) (r_p2 : ir p2) : MC mX4_put_t145 K V [.ref p0, ti p1, ti p2] (VS K (fun V1 => (True) ∧ (V1 = rpv V p0 n_p0 p1 p2))) := by
  refine MC.start 0 (by decide +kernel) rfl rfl rfl (ls0 := [some (.ref p0), some (ti p1), some (ti p2)]) rfl ?_
  refine GO.aload_n dX4_put_0 rfl rfl ?_
  refine GO.ifnull dX4_put_1 ?_
  refine GO.iload_n dX4_put_4 rfl rfl ?_
  refine GO.if_lt (tgt := 18) dX4_put_5 (by decide) r_p1 (fun c1 => ?_) (fun c1 => ?_)
  ·
    exact GO.retv rfl rfl dX4_put_18 ⟨rfl, rfl, ⟨trivial, (by first | exact rpv_in (by assumption) (by omega) (by omega) | exact rpv_out (by omega))⟩⟩
  ·
    refine GO.iload_n dX4_put_8 rfl rfl ?_
    refine GO.aload_n dX4_put_9 rfl rfl ?_
    refine GO.alen h_p0 dX4_put_10 (fun h2 => ?_)
    refine GO.icmp_ge (tgt := 18) dX4_put_11 (by decide) r_p1 ⟨by omega, by omega⟩ (fun c3 => ?_) (fun c3 => ?_)
    ·
      exact GO.retv rfl rfl dX4_put_18 ⟨rfl, rfl, ⟨trivial, (by first | exact rpv_in (by assumption) (by omega) (by omega) | exact rpv_out (by omega))⟩⟩
    ·
      refine GO.aload_n dX4_put_14 rfl rfl ?_
      refine GO.iload_n dX4_put_15 rfl rfl ?_
      refine GO.iload_n dX4_put_16 rfl rfl ?_
      have q4 : -2147483648 ≤ p1 ∧ p1 ≤ 2147483647 := r_p1
      refine GO.iast (t := 145) rfl rfl (by decide +kernel) h_p0 r_p1 (by omega) (by omega) r_p2 (r_p2).1 (r_p2).2 dX4_put_17 (fun V6 e5 => ?_)
      exact GO.retv rfl rfl dX4_put_18 ⟨rfl, rfl, ⟨trivial, (by first | exact rpv_in (by assumption) (by omega) (by omega) | exact rpv_out (by omega))⟩⟩

set_option maxHeartbeats 1000000 in
theorem t_X11_speed {K : Kmap} {V : Vmap} {x : Nat} {p0 : Int} {p1 : Int} (h_x : K x = some (0, 10)) (r_p0 : ir p0) (r_p1 : ir p1) : MC mX11_speed K V [.ref x, ti p0, ti p1] (IS K (fun X V1 => (X = 0 ∨ X = 1) ∧ (X ≠ 0 → ((p0 = (-1) ∧ p1 ≥ 0 ∧ p1 ≤ 1000) ∨ (p0 ≥ 0 ∧ p0 ≤ 9 ∧ p1 ≥ 1 ∧ p1 ≤ 200))) ∧ (X = 0 → (p0 ≠ (-1) ∨ p1 < 0 ∨ p1 > 1000) ∧ (p0 < 0 ∨ p0 > 9 ∨ p1 < 1 ∨ p1 > 200)))) := by
  refine MC.start 0 (by decide +kernel) rfl rfl rfl (ls0 := [some (.ref x), some (ti p0), some (ti p1)]) rfl ?_
  refine GO.iload_n dX11_speed_0 rfl rfl ?_
  refine GO.iconst dX11_speed_1 ?_
  refine GO.icmp_ne (tgt := 28) dX11_speed_2 (by decide) r_p0 (ir_c rfl) (fun c1 => ?_) (fun c1 => ?_)
  ·
    refine GO.iload_n dX11_speed_28 rfl rfl ?_
    refine GO.iconst dX11_speed_29 ?_
    refine GO.bipush dX11_speed_30 rfl ?_
    refine GO.callS (N := mX11_between) dX11_speed_32 gS_RX11_112 (t_X11_between r_p0 (ir_c rfl) (ir_c rfl)) rfl [] rfl rfl (Nat.le_of_ble_eq_true rfl) rfl (k_ip fun X2 r3 h4 => ?_)
    refine GO.if_eq (tgt := 60) dX11_speed_35 (by decide) r3 (fun c5 => ?_) (fun c5 => ?_)
    ·
      have q6 := h4.2.2 (by omega)
      refine GO.iconst dX11_speed_60 ?_
      exact GO.retz rfl rfl dX11_speed_61 (Or.inl rfl) ⟨rfl, _, rfl, (ir_c rfl), ⟨Or.inl rfl, fun h => absurd rfl h, fun h => by omega⟩⟩
    ·
      have q7 := h4.2.1 (by omega)
      refine GO.iload_n dX11_speed_38 rfl rfl ?_
      refine GO.iconst dX11_speed_39 ?_
      refine GO.sipush dX11_speed_40 rfl ?_
      refine GO.callS (N := mX11_between) dX11_speed_43 gS_RX11_112 (t_X11_between r_p1 (ir_c rfl) (ir_c rfl)) rfl [] rfl rfl (Nat.le_of_ble_eq_true rfl) rfl (k_ip fun X8 r9 h10 => ?_)
      refine GO.if_eq (tgt := 60) dX11_speed_46 (by decide) r9 (fun c11 => ?_) (fun c11 => ?_)
      ·
        have q12 := h10.2.2 (by omega)
        refine GO.iconst dX11_speed_60 ?_
        exact GO.retz rfl rfl dX11_speed_61 (Or.inl rfl) ⟨rfl, _, rfl, (ir_c rfl), ⟨Or.inl rfl, fun h => absurd rfl h, fun h => by omega⟩⟩
      ·
        have q13 := h10.2.1 (by omega)
        refine GO.aload_n dX11_speed_49 rfl rfl ?_
        refine GO.getA (n := 11) h_x fl_RX11_94 rfl rfl rfl rfl dX11_speed_50 (fun hv15 h14 => ?_)
        refine GO.iload_n dX11_speed_53 rfl rfl ?_
        refine GO.iload_n dX11_speed_54 rfl rfl ?_
        refine GO.callS (N := mX4_put_t145) dX11_speed_55 gS_RX11_108 (t_X4_put_t145 h14 r_p0 r_p1) rfl [] rfl rfl (Nat.le_of_ble_eq_true rfl) rfl (k_vs fun V18 h17 hF16 => ?_)
        have raw_put := h17.2
        have rw55 := h17.2
        refine GO.iconst dX11_speed_58 ?_
        exact GO.retz rfl rfl dX11_speed_59 (Or.inr rfl) ⟨rfl, _, rfl, (ir_c rfl), ⟨Or.inr rfl, fun h => by omega, fun h => absurd h (by decide)⟩⟩
  ·
    refine GO.iload_n dX11_speed_5 rfl rfl ?_
    refine GO.iconst dX11_speed_6 ?_
    refine GO.sipush dX11_speed_7 rfl ?_
    refine GO.callS (N := mX11_between) dX11_speed_10 gS_RX11_112 (t_X11_between r_p1 (ir_c rfl) (ir_c rfl)) rfl [] rfl rfl (Nat.le_of_ble_eq_true rfl) rfl (k_ip fun X19 r20 h21 => ?_)
    refine GO.if_eq (tgt := 28) dX11_speed_13 (by decide) r20 (fun c22 => ?_) (fun c22 => ?_)
    ·
      have q23 := h21.2.2 (by omega)
      refine GO.iload_n dX11_speed_28 rfl rfl ?_
      refine GO.iconst dX11_speed_29 ?_
      refine GO.bipush dX11_speed_30 rfl ?_
      refine GO.callS (N := mX11_between) dX11_speed_32 gS_RX11_112 (t_X11_between r_p0 (ir_c rfl) (ir_c rfl)) rfl [] rfl rfl (Nat.le_of_ble_eq_true rfl) rfl (k_ip fun X24 r25 h26 => ?_)
      refine GO.if_eq (tgt := 60) dX11_speed_35 (by decide) r25 (fun c27 => ?_) (fun c27 => ?_)
      ·
        have q28 := h26.2.2 (by omega)
        refine GO.iconst dX11_speed_60 ?_
        exact GO.retz rfl rfl dX11_speed_61 (Or.inl rfl) ⟨rfl, _, rfl, (ir_c rfl), ⟨Or.inl rfl, fun h => absurd rfl h, fun h => by omega⟩⟩
      ·
        have q29 := h26.2.1 (by omega)
        refine GO.iload_n dX11_speed_38 rfl rfl ?_
        refine GO.iconst dX11_speed_39 ?_
        refine GO.sipush dX11_speed_40 rfl ?_
        refine GO.callS (N := mX11_between) dX11_speed_43 gS_RX11_112 (t_X11_between r_p1 (ir_c rfl) (ir_c rfl)) rfl [] rfl rfl (Nat.le_of_ble_eq_true rfl) rfl (k_ip fun X30 r31 h32 => ?_)
        refine GO.if_eq (tgt := 60) dX11_speed_46 (by decide) r31 (fun c33 => ?_) (fun c33 => ?_)
        ·
          have q34 := h32.2.2 (by omega)
          refine GO.iconst dX11_speed_60 ?_
          exact GO.retz rfl rfl dX11_speed_61 (Or.inl rfl) ⟨rfl, _, rfl, (ir_c rfl), ⟨Or.inl rfl, fun h => absurd rfl h, fun h => by omega⟩⟩
        ·
          have q35 := h32.2.1 (by omega)
          refine GO.aload_n dX11_speed_49 rfl rfl ?_
          refine GO.getA (n := 11) h_x fl_RX11_94 rfl rfl rfl rfl dX11_speed_50 (fun hv37 h36 => ?_)
          refine GO.iload_n dX11_speed_53 rfl rfl ?_
          refine GO.iload_n dX11_speed_54 rfl rfl ?_
          refine GO.callS (N := mX4_put_t145) dX11_speed_55 gS_RX11_108 (t_X4_put_t145 h36 r_p0 r_p1) rfl [] rfl rfl (Nat.le_of_ble_eq_true rfl) rfl (k_vs fun V40 h39 hF38 => ?_)
          have raw_put := h39.2
          have rw55 := h39.2
          refine GO.iconst dX11_speed_58 ?_
          exact GO.retz rfl rfl dX11_speed_59 (Or.inr rfl) ⟨rfl, _, rfl, (ir_c rfl), ⟨Or.inr rfl, fun h => by omega, fun h => absurd h (by decide)⟩⟩
    ·
      have q41 := h21.2.1 (by omega)
      refine GO.aload_n dX11_speed_16 rfl rfl ?_
      refine GO.getA (n := 11) h_x fl_RX11_94 rfl rfl rfl rfl dX11_speed_17 (fun hv43 h42 => ?_)
      refine GO.bipush dX11_speed_20 rfl ?_
      refine GO.iload_n dX11_speed_22 rfl rfl ?_
      refine GO.callS (N := mX4_put_t145) dX11_speed_23 gS_RX11_108 (t_X4_put_t145 h42 (ir_c rfl) r_p1) rfl [] rfl rfl (Nat.le_of_ble_eq_true rfl) rfl (k_vs fun V46 h45 hF44 => ?_)
      have raw_put := h45.2
      have rw23 := h45.2
      refine GO.iconst dX11_speed_26 ?_
      exact GO.retz rfl rfl dX11_speed_27 (Or.inr rfl) ⟨rfl, _, rfl, (ir_c rfl), ⟨Or.inr rfl, fun h => by omega, fun h => absurd h (by decide)⟩⟩

set_option maxHeartbeats 1000000 in
theorem t_X11_isYear {K : Kmap} {V : Vmap} {p0 : Int} (r_p0 : ir p0) : MC mX11_isYear K V [ti p0] (IP K V (fun X => (X = 0 ∨ X = 1) ∧ (X ≠ 0 → True) ∧ (X = 0 → True))) := by
  refine MC.start 0 (by decide +kernel) rfl rfl rfl (ls0 := [some (ti p0)]) rfl ?_
  refine GO.iload_n dX11_isYear_0 rfl rfl ?_
  refine GO.iconst dX11_isYear_1 ?_
  refine GO.bipush dX11_isYear_2 rfl ?_
  refine GO.callS (N := mX11_between) dX11_isYear_4 gS_RX11_112 (t_X11_between r_p0 (ir_c rfl) (ir_c rfl)) rfl [] rfl rfl (Nat.le_of_ble_eq_true rfl) rfl (k_ip fun X1 r2 h3 => ?_)
  exact GO.retz rfl rfl dX11_isYear_7 (by omega) ⟨rfl, rfl, _, rfl, r2, ⟨by omega, fun _ => trivial, fun _ => trivial⟩⟩

set_option maxHeartbeats 1000000 in
theorem t_X11_birds {K : Kmap} {V : Vmap} {x : Nat} {p0 : Int} {p1 : Int} {p2 : Int} (h_x : K x = some (0, 10)) (r_p0 : ir p0) (r_p1 : ir p1) (r_p2 : ir p2) : MC mX11_birds K V [.ref x, ti p0, ti p1, ti p2] (IS K (fun X V1 => (X = 0 ∨ X = 1) ∧ (X ≠ 0 → True) ∧ (X = 0 → True))) := by
  refine MC.start 1 (by decide +kernel) rfl rfl rfl (ls0 := [some (.ref x), some (ti p0), some (ti p1), some (ti p2), none]) rfl ?_
  refine GO.aload_n dX11_birds_0 rfl rfl ?_
  refine GO.iload_n dX11_birds_1 rfl rfl ?_
  refine GO.iconst dX11_birds_2 ?_
  refine GO.callV (ci := 10) (N := mX11_placeOf) dX11_birds_3 (RX11, TX11, 20) rfl gV_RX11_169 h_x (t_X11_placeOf h_x r_p0 (ir_c rfl)) rfl [] rfl rfl (Nat.le_of_ble_eq_true rfl) rfl (k_rp (fun h3 => ?_) (fun o1 h2 h3 => ?_))
  ·
    refine GO.astoreN (ls1 := [some (.ref x), some (ti p0), some (ti p1), some (ti p2), some (.null)]) dX11_birds_6 rfl rfl ?_
    refine GO.aloadN dX11_birds_8 rfl ?_
    refine GO.ifnullN (tgt := 30) dX11_birds_10 (by decide) ?_
    refine GO.iconst dX11_birds_30 ?_
    exact GO.retz rfl rfl dX11_birds_31 (Or.inl rfl) ⟨rfl, _, rfl, (ir_c rfl), ⟨Or.inl rfl, fun _ => trivial, fun _ => trivial⟩⟩
  ·
    refine GO.astore (ls1 := [some (.ref x), some (ti p0), some (ti p1), some (ti p2), some (.ref o1)]) dX11_birds_6 rfl rfl ?_
    refine GO.aload dX11_birds_8 rfl ?_
    refine GO.ifnull dX11_birds_10 ?_
    refine GO.iload_n dX11_birds_13 rfl rfl ?_
    refine GO.callS (N := mX11_isYear) dX11_birds_14 gS_RX11_559 (t_X11_isYear r_p1) rfl [] rfl rfl (Nat.le_of_ble_eq_true rfl) rfl (k_ip fun X4 r5 h6 => ?_)
    refine GO.if_eq (tgt := 30) dX11_birds_17 (by decide) r5 (fun c7 => ?_) (fun c7 => ?_)
    ·
      refine GO.iconst dX11_birds_30 ?_
      exact GO.retz rfl rfl dX11_birds_31 (Or.inl rfl) ⟨rfl, _, rfl, (ir_c rfl), ⟨Or.inl rfl, fun _ => trivial, fun _ => trivial⟩⟩
    ·
      refine GO.iload_n dX11_birds_20 rfl rfl ?_
      refine GO.iconst dX11_birds_21 ?_
      refine GO.ldc (X := 100000) dX11_birds_22 gw_522 rfl ?_
      refine GO.callS (N := mX11_between) dX11_birds_24 gS_RX11_112 (t_X11_between r_p2 (ir_c rfl) (ir_c rfl)) rfl [] rfl rfl (Nat.le_of_ble_eq_true rfl) rfl (k_ip fun X8 r9 h10 => ?_)
      refine GO.if_ne (tgt := 32) dX11_birds_27 (by decide) r9 (fun c11 => ?_) (fun c11 => ?_)
      ·
        have q12 := h10.2.1 (by omega)
        refine GO.aload dX11_birds_32 rfl ?_
        refine GO.getNB h2 fl_RX11_491 rfl rfl dX11_birds_34 (fun hv14 => ?_) (fun n15 hv14 h13 b16 => ?_)
        ·
          refine GO.iload_n dX11_birds_37 rfl rfl ?_
          refine GO.iload_n dX11_birds_38 rfl rfl ?_
          refine GO.callS (N := mX4_put_n) dX11_birds_39 gS_RX11_108 (t_X4_put_n r_p1 r_p2) rfl [] rfl rfl (Nat.le_of_ble_eq_true rfl) rfl (k_vs fun V19 h18 hF17 => ?_)
          refine GO.iconst dX11_birds_42 ?_
          exact GO.retz rfl rfl dX11_birds_43 (Or.inr rfl) ⟨rfl, _, rfl, (ir_c rfl), ⟨Or.inr rfl, fun _ => trivial, fun _ => trivial⟩⟩
        ·
          refine GO.iload_n dX11_birds_37 rfl rfl ?_
          refine GO.iload_n dX11_birds_38 rfl rfl ?_
          refine GO.callS (N := mX4_put) dX11_birds_39 gS_RX11_108 (t_X4_put h13 r_p1 r_p2) rfl [] rfl rfl (Nat.le_of_ble_eq_true rfl) rfl (k_vs fun V22 h21 hF20 => ?_)
          have raw_put := h21.2
          have rw39 := h21.2
          refine GO.iconst dX11_birds_42 ?_
          exact GO.retz rfl rfl dX11_birds_43 (Or.inr rfl) ⟨rfl, _, rfl, (ir_c rfl), ⟨Or.inr rfl, fun _ => trivial, fun _ => trivial⟩⟩
      ·
        have q23 := h10.2.2 (by omega)
        refine GO.iconst dX11_birds_30 ?_
        exact GO.retz rfl rfl dX11_birds_31 (Or.inl rfl) ⟨rfl, _, rfl, (ir_c rfl), ⟨Or.inl rfl, fun _ => trivial, fun _ => trivial⟩⟩
