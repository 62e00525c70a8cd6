def mX11_reading : MRec := (RX11, cX11_reading, 8, (some .int), yX11_reading, 35, 834, 5, 288, 2674790287618908970575186125392847621252543516457015279293849869129407894769787886859863143994015595466847410027245875741695027709390423829988355131477483245848968945024968647663661704915641758098697224192)
def mX11_isDay : MRec := (RX11, cX11_isDay, 1, (some .boolean), yX11_isDay, 1, 22, 0, 0, 0)
def mJ6_bitCount_0f7a4 : MRec := (RJ6, cJ6_bitCount_0f7a4, 1, (some .int), yJ6_bitCount_0f7a4, 0, 0, 0, 0, 0)
def mX11_counts : MRec := (RX11, cX11_counts, 5, (some .int), yX11_counts, 5, 127, 0, 0, 123947994148171612303484120256144569967825878055802728615871649113951085856808377342222976957446615908923352254691881254912)
def mX11_number : MRec := (RX11, cX11_number, 6, (some .int), yX11_number, 5, 127, 0, 0, 123947994148171612303484120256144569967825878055802728615871649113951085856808377342222976957446615908923352254691881254912)
def mX11_decides : MRec := (RX11, cX11_decides, 4, (some .int), yX11_decides, 2, 42, 0, 0, 0)
def mX11_work : MRec := (RX11, cX11_work, 9, (some .int), yX11_work, 2, 37, 1, 15, 2124551971267068394758352826209874509318372470908127692797776552801614239443408970956650009060917142918390929473202137926319055703550692287938934796583951825385615572996070517136949248)
def mX11_workOf : MRec := (RX11, cX11_workOf, 2, (some (.object "IceTreaty$Work")), yX11_workOf, 0, 0, 0, 0, 0)
def mX11_tell : MRec := (RX11, cX11_tell, 4, (some .boolean), yX11_tell, 1, 21, 0, 0, 29710560942849126597578981376)
set_option maxHeartbeats 1000000 in
theorem t_X11_reading {K : Kmap} {V : Vmap} {x : Nat} {p0 : Int} {p1 : Int} {p2 : Int} {p3 : Int} (h_x : K x = some (0, 10)) (r_p0 : ir p0) (r_p1 : ir p1) (r_p2 : ir p2) (r_p3 : ir p3) : MC mX11_reading K V [.ref x, ti p0, ti p1, ti p2, ti p3] (IX (fun X K1 V1 => (X ≥ (-2147483648) ∧ X ≤ 2147483647) ∧ (CRX K K1 V V1 x p0 p1 p2 p3 X))) := by
  refine MC.start 3 (by decide +kernel) rfl rfl rfl (ls0 := [some (.ref x), some (ti p0), some (ti p1), some (ti p2), some (ti p3), none, none, none]) rfl ?_
  refine GO.useWT (fun hW_0 => ?_)
  refine GO.aload_n dX11_reading_0 rfl rfl ?_
  refine GO.getR h_x fl_RX11_19 rfl rfl dX11_reading_1 (fun hv2 h1 => ?_)
  refine GO.iload_n dX11_reading_4 rfl rfl ?_
  refine GO.callV (ci := 1) (N := mX1_textOf) dX11_reading_5 (RX1, TX1, 13) rfl gV_RX11_246 h1 (t_X1_textOf h1 r_p1) rfl [] rfl rfl (Nat.le_of_ble_eq_true rfl) rfl (k_rp (fun h5 => ?_) (fun o3 h4 h5 => ?_))
  ·
    have rwn5 := h5.2
    have hn6 : TNL V (vq V x 1) → p1 < 0 ∨ vi V (vq V x 1) 1 ≤ p1 := h5.2
    refine GO.astoreN (ls1 := [some (.ref x), some (ti p0), some (ti p1), some (ti p2), some (ti p3), some (.null), none, none]) dX11_reading_8 rfl rfl ?_
    refine GO.aload_n dX11_reading_10 rfl rfl ?_
    refine GO.iload_n dX11_reading_11 rfl rfl ?_
    refine GO.callV (ci := 10) (N := mX11_partyOf) dX11_reading_12 (RX11, TX11, 20) rfl gV_RX11_151 h_x (t_X11_partyOf h_x r_p0) rfl [] rfl rfl (Nat.le_of_ble_eq_true rfl) rfl (k_rp (fun h9 => ?_) (fun o7 h8 h9 => ?_))
    ·
      have rwn12 := h9.2
      have hn10 : PN V x → p0 < 0 ∨ vi V x 4 ≤ p0 := h9.2
      refine GO.ifnullN (tgt := 32) dX11_reading_15 (by decide) ?_
      refine GO.iconst dX11_reading_32 ?_
      exact GO.reti rfl rfl dX11_reading_33 ⟨_, rfl, (ir_c rfl), ⟨(by first | exact trivial | omega), (by first | exact CRX.no (fun hp _ _ => RDC.np rwn12 hp) rfl | exact CRX.no (fun _ _ hL => RDC.nt rwn5 hL) rfl | exact CRX.no (fun _ _ _ => RDC.nn (by unfold rdN lwO tpN tpO; omega)) rfl)⟩⟩
    ·
      have hp11 : p0 ≥ 0 ∧ p0 < vi V x 4 := h9.1
      have rwp12 := h9.2
      have hq12 : o7 = vq V (vq V x 3) (p0).toNat := h9.2
      refine GO.ifnull dX11_reading_15 ?_
      refine GO.aloadN dX11_reading_18 rfl ?_
      refine GO.ifnullN (tgt := 32) dX11_reading_20 (by decide) ?_
      refine GO.iconst dX11_reading_32 ?_
      exact GO.reti rfl rfl dX11_reading_33 ⟨_, rfl, (ir_c rfl), ⟨(by first | exact trivial | omega), (by first | exact CRX.no (fun _ _ hL => RDC.nt rwn5 hL) rfl | exact CRX.no (fun _ _ _ => RDC.nn (by unfold rdN lwO tpN tpO; omega)) rfl)⟩⟩
  ·
    have hp13 : p1 ≥ 0 ∧ p1 < vi V (vq V x 1) 1 := h5.1
    have rwp5 := h5.2
    have hq14 : o3 = vq V (vq V (vq V x 1) 0) (p1).toNat := h5.2
    refine GO.astore (ls1 := [some (.ref x), some (ti p0), some (ti p1), some (ti p2), some (ti p3), some (.ref o3), none, none]) dX11_reading_8 rfl rfl ?_
    refine GO.aload_n dX11_reading_10 rfl rfl ?_
    refine GO.iload_n dX11_reading_11 rfl rfl ?_
    refine GO.callV (ci := 10) (N := mX11_partyOf) dX11_reading_12 (RX11, TX11, 20) rfl gV_RX11_151 h_x (t_X11_partyOf h_x r_p0) rfl [] rfl rfl (Nat.le_of_ble_eq_true rfl) rfl (k_rp (fun h17 => ?_) (fun o15 h16 h17 => ?_))
    ·
      have rwn12 := h17.2
      have hn18 : PN V x → p0 < 0 ∨ vi V x 4 ≤ p0 := h17.2
      refine GO.ifnullN (tgt := 32) dX11_reading_15 (by decide) ?_
      refine GO.iconst dX11_reading_32 ?_
      exact GO.reti rfl rfl dX11_reading_33 ⟨_, rfl, (ir_c rfl), ⟨(by first | exact trivial | omega), (by first | exact CRX.no (fun hp _ _ => RDC.np rwn12 hp) rfl | exact CRX.no (fun _ _ _ => RDC.nn (by unfold rdN lwO tpN tpO; omega)) rfl)⟩⟩
    ·
      have hp19 : p0 ≥ 0 ∧ p0 < vi V x 4 := h17.1
      have rwp12 := h17.2
      have hq20 : o15 = vq V (vq V x 3) (p0).toNat := h17.2
      refine GO.ifnull dX11_reading_15 ?_
      refine GO.aload dX11_reading_18 rfl ?_
      refine GO.ifnull dX11_reading_20 ?_
      refine GO.aload dX11_reading_23 rfl ?_
      refine GO.iload_n dX11_reading_25 rfl rfl ?_
      refine GO.callV (ci := 8) (N := mX9_hasCondition) dX11_reading_26 (RX9, TX9, 5) rfl gV_RX11_259 h4 (t_X9_hasCondition h4 r_p2) rfl [] rfl rfl (Nat.le_of_ble_eq_true rfl) rfl (k_ip fun X21 r22 h23 => ?_)
      have raw_hasCondition := h23.2.2.2
      have rw26 := h23.2.2.2
      refine GO.if_ne (tgt := 34) dX11_reading_29 (by decide) r22 (fun c24 => ?_) (fun c24 => ?_)
      ·
        refine GO.iload dX11_reading_34 rfl ?_
        refine GO.iconst dX11_reading_36 ?_
        refine GO.bipush dX11_reading_37 rfl ?_
        refine GO.callS (N := mX11_between) dX11_reading_39 gS_RX11_112 (t_X11_between r_p3 (ir_c rfl) (ir_c rfl)) rfl [] rfl rfl (Nat.le_of_ble_eq_true rfl) rfl (k_ip fun X25 r26 h27 => ?_)
        refine GO.if_eq (tgt := 70) dX11_reading_42 (by decide) r26 (fun c28 => ?_) (fun c28 => ?_)
        ·
          have q29 := h27.2.2 (by omega)
          refine GO.iconst dX11_reading_70 ?_
          exact GO.reti rfl rfl dX11_reading_71 ⟨_, rfl, (ir_c rfl), ⟨(by first | exact trivial | omega), (by first | exact CRX.no (fun _ _ hL => RDC.nc hL (by omega) (by omega) rwp5 rw26 (by omega)) rfl | exact CRX.no (fun _ _ _ => RDC.nn (by unfold rdN lwO tpN tpO; omega)) rfl)⟩⟩
        ·
          have q30 := h27.2.1 (by omega)
          refine GO.aload_n dX11_reading_45 rfl rfl ?_
          refine GO.getRaw h_x fl_RX11_19 hv2 dX11_reading_46 ?_
          refine GO.getR h1 fl_RX11_262 rfl rfl dX11_reading_49 (fun hv34 h33 => ?_)
          refine GO.callV (ci := 32) (N := mX8_isFull_k32) dX11_reading_52 (RX8, TX8, 4) rfl gV_RX11_265 h33 (t_X8_isFull_k32 h33) rfl [] rfl rfl (Nat.le_of_ble_eq_true rfl) rfl (k_ip fun X35 r36 h37 => ?_)
          refine GO.if_ne (tgt := 70) dX11_reading_55 (by decide) r36 (fun c38 => ?_) (fun c38 => ?_)
          ·
            have q39 := h37.2.1 (by omega)
            refine GO.iconst dX11_reading_70 ?_
            exact GO.reti rfl rfl dX11_reading_71 ⟨_, rfl, (ir_c rfl), ⟨(by first | exact trivial | omega), (by first | exact CRX.no (fun _ _ hL => RDC.nc hL (by omega) (by omega) rwp5 rw26 (by omega)) rfl | exact CRX.no (fun _ _ _ => RDC.nn (by unfold rdN lwO tpN tpO; omega)) rfl)⟩⟩
          ·
            have q40 := h37.2.2 (by omega)
            refine GO.iload dX11_reading_58 rfl ?_
            refine GO.aload_n dX11_reading_60 rfl rfl ?_
            refine GO.getR h_x fl_RX11_91 rfl rfl dX11_reading_61 (fun hv42 h41 => ?_)
            refine GO.getI h41 fl_RX11_199_k31 rfl rfl dX11_reading_64 (fun l43 u44 => ?_)
            refine GO.icmp_le (tgt := 72) dX11_reading_67 (by decide) r_p3 vi_ir (fun c45 => ?_) (fun c45 => ?_)
            ·
              have hrc : ∀ L, CTS K V x L → RDC V x L p0 p1 p2 p3 := fun L hL => ⟨by omega, by omega, (hL.cond (by omega) (by omega) rwp5 rw26).mp (by omega), by omega, by omega, by unfold rdN lwO; omega, by unfold tpN tpO; omega⟩
              refine GO.new (ci := 20) (RX9, TX9, 5) tyX9 rfl rfl lays_8 tyX9_ok gw_570 gw_571 gw_11 rfl rfl dX11_reading_72 (fun o46 K47 V53 hq48 hK49 hE50 h51 _ hV52 => ?_)
              have h54 := hE50.obj (by decide) h_x
              have h55 := hE50.obj (by decide) h4
              refine GO.dup dX11_reading_75 rfl ?_
              refine GO.iconst dX11_reading_76 ?_
              refine GO.iconst dX11_reading_77 ?_
              refine GO.iload dX11_reading_78 rfl ?_
              refine GO.iconst dX11_reading_80 ?_
              have q56 : -2147483648 ≤ p3 ∧ p3 ≤ 2147483647 := r_p3
              refine GO.callI (N := mX9_init) dX11_reading_81 gI_RX11_221 rfl (t_X9_init h51 (ir_c rfl) (ir_c rfl) r_p3 (ir_c rfl) (by omega) (by omega) (by omega) (by omega)) rfl [.ref o46] rfl rfl (Nat.le_of_ble_eq_true rfl) rfl (k_vx fun K59 V61 h60 hE58 hF57 => ?_)
              have h62 := hE58.obj (by decide) h54
              have h63 := hE58.obj (by decide) h55
              have h64 := h60.1.1
              have ir0_81 := h60.1.2
              refine GO.astore (ls1 := [some (.ref x), some (ti p0), some (ti p1), some (ti p2), some (ti p3), some (.ref o3), some (.ref o46), none]) dX11_reading_84 rfl rfl ?_
              refine GO.new (ci := 16) (RX5, TX5, 7) tyX5 rfl rfl lays_4 tyX5_ok gw_599 gw_600 gw_12 rfl rfl dX11_reading_86 (fun o65 K66 V72 hq67 hK68 hE69 h70 _ hV71 => ?_)
              have h73 := hE69.obj (by decide) h62
              have h74 := hE69.obj (by decide) h63
              have h75 := hE69.obj (by decide) h64
              refine GO.dup dX11_reading_89 rfl ?_
              refine GO.aload_n dX11_reading_90 rfl rfl ?_
              refine GO.getR h73 fl_RX11_91 rfl rfl dX11_reading_91 (fun hv77 h76 => ?_)
              refine GO.getA (n := 400) h76 fl_RX11_226_k31 rfl rfl rfl rfl dX11_reading_94 (fun hv79 h78 => ?_)
              refine GO.iload dX11_reading_97 rfl ?_
              refine GO.aload dX11_reading_99 rfl ?_
              refine GO.callI (N := mX5_init_t153) dX11_reading_101 gI_RX11_229 rfl (t_X5_init_t153 h70 h78 r_p3 h75) rfl [.ref o65] rfl rfl (Nat.le_of_ble_eq_true rfl) rfl (k_vx fun K82 V84 h83 hE81 hF80 => ?_)
              have h85 := hE81.obj (by decide) h73
              have h86 := hE81.obj (by decide) h74
              have h87 := hE81.obj (by decide) h75
              have h88 := h83.1.1
              have ir0_101 := h83.1.2.2
              have q89 : vi V84 o65 4 = 0 := h83.1.2.1
              refine GO.astore (ls1 := [some (.ref x), some (ti p0), some (ti p1), some (ti p2), some (ti p3), some (.ref o3), some (.ref o46), some (.ref o65)]) dX11_reading_104 rfl rfl ?_
              have hrdy := RDY.mk hq48 hE50 hV52 ir0_81 h60.1.1 hE58 hF57 hq67 hE69 hV71 h83.1.1 hE81 hF80 (by decide +kernel) (by decide +kernel) (by decide +kernel) (by decide +kernel) (by decide +kernel)
              have hrny := RNY.mk hq48 hE50 hV52 hE58 hF57 hq67 hE69 hV71 hE81 hF80 (by decide +kernel) (by decide +kernel)
              have hsrc := SRC.mk h_x hW_0 hq48 hE50 hV52 hE58 hF57 hq67 hV71 (by decide +kernel)
              refine GO.useWT (fun hW1 => ?_)
              refine GO.aload dX11_reading_106 rfl ?_
              refine GO.callV (ci := 4) (N := mX5_writeReading) dX11_reading_108 (RX5, TX5, 7) rfl gV_RX11_269 h88 (t_X5_writeReading h88 (by omega)) rfl [] rfl rfl (Nat.le_of_ble_eq_true rfl) rfl (k_vs fun V92 h91 hF90 => ?_)
              have raw_writeReading := h91.2
              have rw108 := h91.2
              refine GO.aload_n dX11_reading_111 rfl rfl ?_
              refine GO.getR h85 fl_RX11_91 rfl rfl dX11_reading_112 (fun hv94 h93 => ?_)
              refine GO.iconst dX11_reading_115 ?_
              refine GO.putI h93 fp_RX11_199_k31 rfl (by decide +kernel) (ir_c rfl) (by decide) (by decide) dX11_reading_116 (fun V96 e95 => ?_)
              refine GO.aload dX11_reading_119 rfl ?_
              refine GO.getI h88 fl_RX11_235 rfl rfl dX11_reading_121 (fun _ _ => ?_)
              refine GO.if_eq (tgt := 133) dX11_reading_124 (by decide) vi_ir (fun c97 => ?_) (fun c97 => ?_)
              ·
                refine GO.aload_n dX11_reading_133 rfl rfl ?_
                refine GO.getR h85 fl_RX11_19 rfl rfl dX11_reading_134 (fun hv99 h98 => ?_)
                refine GO.iload_n dX11_reading_137 rfl rfl ?_
                refine GO.iload_n dX11_reading_138 rfl rfl ?_
                refine GO.iload_n dX11_reading_139 rfl rfl ?_
                refine GO.aload dX11_reading_140 rfl ?_
                refine GO.callV (ci := 1) (N := mX1_addReading) dX11_reading_142 (RX1, TX1, 13) rfl gV_RX11_272 h98 (t_X1_addReading h98 r_p0 r_p1 r_p2 h87) rfl [] rfl rfl (Nat.le_of_ble_eq_true rfl) rfl (k_vs fun V102 h101 hF100 => ?_)
                have raw_addReading := h101.2
                have rw142 := h101.2
                refine GO.iconst dX11_reading_145 ?_
                exact GO.reti rfl rfl dX11_reading_146 ⟨_, rfl, (ir_c rfl), ⟨(by first | exact trivial | omega), (by first | exact CRX.no (fun _ _ hL => RDC.nc hL (by omega) (by omega) rwp5 rw26 (by omega)) rfl | exact CRX.no (fun _ _ _ => RDC.nn (by unfold rdN lwO tpN tpO; omega)) rfl | exact CRX.ok h_x hW_0 hrc hrdy hrny ir0_101 hsrc hW1 rw108 e95 (by omega) rw142 hF100 (by decide +kernel) (by decide +kernel) (by decide +kernel) rfl)⟩⟩
              ·
                refine GO.aload dX11_reading_127 rfl ?_
                refine GO.callV (ci := 4) (N := mX5_faultAnswer) dX11_reading_129 (RX5, TX5, 7) rfl gV_RX11_238 h88 (t_X5_faultAnswer h88) rfl [] rfl rfl (Nat.le_of_ble_eq_true rfl) rfl (k_ip fun X103 r104 h105 => ?_)
                have raw_faultAnswer := h105.2
                have rw129 := h105.2
                exact GO.reti rfl rfl dX11_reading_132 ⟨_, rfl, r104, ⟨(by first | exact trivial | omega), (by first | exact CRX.no (fun _ _ hL => RDC.nc hL (by omega) (by omega) rwp5 rw26 (by omega)) rfl | exact CRX.no (fun _ _ _ => RDC.nn (by unfold rdN lwO tpN tpO; omega)) rfl | exact CRX.er h_x hW_0 hrc hrdy hrny ir0_101 hsrc hW1 rw108 e95 (by omega) rw129)⟩⟩
            ·
              refine GO.iconst dX11_reading_70 ?_
              exact GO.reti rfl rfl dX11_reading_71 ⟨_, rfl, (ir_c rfl), ⟨(by first | exact trivial | omega), (by first | exact CRX.no (fun _ _ hL => RDC.nc hL (by omega) (by omega) rwp5 rw26 (by omega)) rfl | exact CRX.no (fun _ _ _ => RDC.nn (by unfold rdN lwO tpN tpO; omega)) rfl)⟩⟩
      ·
        refine GO.iconst dX11_reading_32 ?_
        exact GO.reti rfl rfl dX11_reading_33 ⟨_, rfl, (ir_c rfl), ⟨(by first | exact trivial | omega), (by first | exact CRX.no (fun _ _ hL => RDC.nc hL (by omega) (by omega) rwp5 rw26 (by omega)) rfl | exact CRX.no (fun _ _ _ => RDC.nn (by unfold rdN lwO tpN tpO; omega)) rfl)⟩⟩

set_option maxHeartbeats 1000000 in
theorem t_X11_isDay {K : Kmap} {V : Vmap} {p0 : Int} (r_p0 : ir p0) : MC mX11_isDay K V [ti p0] (IP K V (fun X => (X = 0 ∨ X = 1) ∧ (X ≠ 0 → p0 ≥ 0 ∧ p0 ≤ 3599) ∧ (X = 0 → (p0 < 0 ∨ p0 > 3599)))) := by
  refine MC.start 0 (by decide +kernel) rfl rfl rfl (ls0 := [some (ti p0)]) rfl ?_
  refine GO.iload_n dX11_isDay_0 rfl rfl ?_
  refine GO.iconst dX11_isDay_1 ?_
  refine GO.sipush dX11_isDay_2 rfl ?_
  refine GO.callS (N := mX11_between) dX11_isDay_5 gS_RX11_112 (t_X11_between r_p0 (ir_c rfl) (ir_c rfl)) rfl [] rfl rfl (Nat.le_of_ble_eq_true rfl) rfl (k_ip fun X1 r2 h3 => ?_)
  exact GO.retz rfl rfl dX11_isDay_8 (by omega) ⟨rfl, rfl, _, rfl, r2, ⟨by omega, fun h => by omega, fun h => by omega⟩⟩

set_option maxHeartbeats 1000000 in
theorem t_J6_bitCount_0f7a4 {K : Kmap} {V : Vmap} {p0 : Int} (r_p0 : ir p0) : MC mJ6_bitCount_0f7a4 K V [ti p0] (IP K V (fun X => (X ≥ (-2147483648) ∧ X ≤ 2147483647) ∧ (BCP p0 X))) := by
  refine MC.start 0 (by decide +kernel) rfl rfl rfl (ls0 := [some (ti p0)]) rfl ?_
  refine GO.iload_n dJ6_bitCount_0f7a4_0 rfl rfl ?_
  refine GO.iload_n dJ6_bitCount_0f7a4_1 rfl rfl ?_
  refine GO.iconst dJ6_bitCount_0f7a4_2 ?_
  refine GO.iushr dJ6_bitCount_0f7a4_3 ?_
  refine GO.ldcw (X := 1431655765) dJ6_bitCount_0f7a4_4 gw_855 rfl ?_
  refine GO.iand dJ6_bitCount_0f7a4_7 ?_
  refine GO.isub dJ6_bitCount_0f7a4_8 ?_
  refine GO.norm (fun z1 r2 hn3 => ?_)
  refine GO.istore_n (ls1 := [some (ti z1)]) dJ6_bitCount_0f7a4_9 rfl rfl rfl ?_
  refine GO.iload_n dJ6_bitCount_0f7a4_10 rfl rfl ?_
  refine GO.ldcw (X := 858993459) dJ6_bitCount_0f7a4_11 gw_856 rfl ?_
  refine GO.iand dJ6_bitCount_0f7a4_14 ?_
  refine GO.iload_n dJ6_bitCount_0f7a4_15 rfl rfl ?_
  refine GO.iconst dJ6_bitCount_0f7a4_16 ?_
  refine GO.iushr dJ6_bitCount_0f7a4_17 ?_
  refine GO.ldcw (X := 858993459) dJ6_bitCount_0f7a4_18 gw_856 rfl ?_
  refine GO.iand dJ6_bitCount_0f7a4_21 ?_
  refine GO.iadd dJ6_bitCount_0f7a4_22 ?_
  refine GO.norm (fun z4 r5 hn6 => ?_)
  refine GO.istore_n (ls1 := [some (ti z4)]) dJ6_bitCount_0f7a4_23 rfl rfl rfl ?_
  refine GO.iload_n dJ6_bitCount_0f7a4_24 rfl rfl ?_
  refine GO.iload_n dJ6_bitCount_0f7a4_25 rfl rfl ?_
  refine GO.iconst dJ6_bitCount_0f7a4_26 ?_
  refine GO.iushr dJ6_bitCount_0f7a4_27 ?_
  refine GO.iadd dJ6_bitCount_0f7a4_28 ?_
  refine GO.norm (fun z7 r8 hn9 => ?_)
  refine GO.ldcw (X := 252645135) dJ6_bitCount_0f7a4_29 gw_857 rfl ?_
  refine GO.iand dJ6_bitCount_0f7a4_32 ?_
  refine GO.name (fun z10 hz11 => ?_)
  have r12 : ir z10 := hz11 ▸ wand_ir
  refine GO.istore_n (ls1 := [some (ti z10)]) dJ6_bitCount_0f7a4_33 rfl rfl rfl ?_
  refine GO.iload_n dJ6_bitCount_0f7a4_34 rfl rfl ?_
  refine GO.iload_n dJ6_bitCount_0f7a4_35 rfl rfl ?_
  refine GO.bipush dJ6_bitCount_0f7a4_36 rfl ?_
  refine GO.iushr dJ6_bitCount_0f7a4_38 ?_
  refine GO.iadd dJ6_bitCount_0f7a4_39 ?_
  refine GO.norm (fun z13 r14 hn15 => ?_)
  refine GO.istore_n (ls1 := [some (ti z13)]) dJ6_bitCount_0f7a4_40 rfl rfl rfl ?_
  refine GO.iload_n dJ6_bitCount_0f7a4_41 rfl rfl ?_
  refine GO.iload_n dJ6_bitCount_0f7a4_42 rfl rfl ?_
  refine GO.bipush dJ6_bitCount_0f7a4_43 rfl ?_
  refine GO.iushr dJ6_bitCount_0f7a4_45 ?_
  refine GO.iadd dJ6_bitCount_0f7a4_46 ?_
  refine GO.norm (fun z16 r17 hn18 => ?_)
  refine GO.istore_n (ls1 := [some (ti z16)]) dJ6_bitCount_0f7a4_47 rfl rfl rfl ?_
  refine GO.iload_n dJ6_bitCount_0f7a4_48 rfl rfl ?_
  refine GO.bipush dJ6_bitCount_0f7a4_49 rfl ?_
  refine GO.iand dJ6_bitCount_0f7a4_51 ?_
  have q19 : -2147483648 ≤ wand z16 63 ∧ wand z16 63 ≤ 2147483647 := wand_ir
  exact GO.reti rfl rfl dJ6_bitCount_0f7a4_52 ⟨rfl, rfl, _, rfl, wand_ir, ⟨(by first | exact trivial | omega), BCP.mk (by assumption) (by assumption) (by assumption) (by assumption) (by assumption) (by assumption)⟩⟩

set_option maxHeartbeats 1000000 in
theorem t_X11_counts {K : Kmap} {V : Vmap} {x : Nat} {p0 : Int} {p1 : Int} {p2 : Int} (h_x : K x = some (0, 10)) (r_p0 : ir p0) (r_p1 : ir p1) (r_p2 : ir p2) (w_0 : CWI K V x) : MC mX11_counts K V [.ref x, ti p0, ti p1, ti p2] (IS K (fun X V1 => (X ≥ (-2147483648) ∧ X ≤ 2147483647) ∧ (COX K V x p0 p1 p2 X) ∧ (CWI K V1 x))) := by
  refine MC.start 1 (by decide +kernel) rfl rfl rfl (ls0 := [some (.ref x), some (ti p0), some (ti p1), some (ti p2), none]) rfl ?_
  refine GO.useWT (fun hW_0 => ?_)
  have hl20 := (hW_0.int (show K (vq V x 1) = some (0, 1) from (hW_0.ref h_x (j := 1) (Nat.le_of_ble_eq_true rfl) rfl).2) (j := 1) (Nat.le_of_ble_eq_true rfl) rfl).2
  refine GO.aload_n dX11_counts_0 rfl rfl ?_
  refine GO.iload_n dX11_counts_1 rfl rfl ?_
  refine GO.callV (ci := 10) (N := mX11_partyOf) dX11_counts_2 (RX11, TX11, 20) rfl gV_RX11_151 h_x (t_X11_partyOf h_x r_p1) rfl [] rfl rfl (Nat.le_of_ble_eq_true rfl) rfl (k_rp (fun h3 => ?_) (fun o1 h2 h3 => ?_))
  ·
    have rwn2 := h3.2
    have hn4 : PN V x → p1 < 0 ∨ vi V x 4 ≤ p1 := h3.2
    refine GO.astoreN (ls1 := [some (.ref x), some (ti p0), some (ti p1), some (ti p2), some (.null)]) dX11_counts_5 rfl rfl ?_
    refine GO.aloadN dX11_counts_7 rfl ?_
    refine GO.ifnullN (tgt := 30) dX11_counts_9 (by decide) ?_
    refine GO.iconst dX11_counts_30 ?_
    exact GO.reti rfl rfl dX11_counts_31 ⟨rfl, _, rfl, (ir_c rfl), ⟨(by first | exact trivial | omega), (by first | exact COX.no (by have h9 := rwn2 w_0.1; omega) rfl | exact COX.no (by omega) rfl), (by first | exact w_0)⟩⟩
  ·
    have hp5 : p1 ≥ 0 ∧ p1 < vi V x 4 := h3.1
    have rwp2 := h3.2
    have hq6 : o1 = vq V (vq V x 3) (p1).toNat := h3.2
    refine GO.astore (ls1 := [some (.ref x), some (ti p0), some (ti p1), some (ti p2), some (.ref o1)]) dX11_counts_5 rfl rfl ?_
    refine GO.aload dX11_counts_7 rfl ?_
    refine GO.ifnull dX11_counts_9 ?_
    refine GO.aload_n dX11_counts_12 rfl rfl ?_
    refine GO.getR h_x fl_RX11_19 rfl rfl dX11_counts_13 (fun hv8 h7 => ?_)
    refine GO.iload_n dX11_counts_16 rfl rfl ?_
    refine GO.callV (ci := 1) (N := mX1_textOf) dX11_counts_17 (RX1, TX1, 13) rfl gV_RX11_246 h7 (t_X1_textOf h7 r_p0) rfl [] rfl rfl (Nat.le_of_ble_eq_true rfl) rfl (k_rp (fun h11 => ?_) (fun o9 h10 h11 => ?_))
    ·
      have rwn17 := h11.2
      have hn12 : TNL V (vq V x 1) → p0 < 0 ∨ vi V (vq V x 1) 1 ≤ p0 := h11.2
      refine GO.ifnullN (tgt := 30) dX11_counts_20 (by decide) ?_
      refine GO.iconst dX11_counts_30 ?_
      exact GO.reti rfl rfl dX11_counts_31 ⟨rfl, _, rfl, (ir_c rfl), ⟨(by first | exact trivial | omega), (by first | exact COX.nt rwn17 rfl | exact COX.no (by omega) rfl), (by first | exact w_0)⟩⟩
    ·
      have hp13 : p0 ≥ 0 ∧ p0 < vi V (vq V x 1) 1 := h11.1
      have rwp17 := h11.2
      have hq14 : o9 = vq V (vq V (vq V x 1) 0) (p0).toNat := h11.2
      refine GO.ifnull dX11_counts_20 ?_
      refine GO.iload_n dX11_counts_23 rfl rfl ?_
      refine GO.callS (N := mX11_isDay) dX11_counts_24 gS_RX11_276 (t_X11_isDay r_p2) rfl [] rfl rfl (Nat.le_of_ble_eq_true rfl) rfl (k_ip fun X15 r16 h17 => ?_)
      refine GO.if_ne (tgt := 32) dX11_counts_27 (by decide) r16 (fun c18 => ?_) (fun c18 => ?_)
      ·
        have q19 := h17.2.1 (by omega)
        refine GO.aload_n dX11_counts_32 rfl rfl ?_
        refine GO.getRaw h_x fl_RX11_19 hv8 dX11_counts_33 ?_
        refine GO.iload_n dX11_counts_36 rfl rfl ?_
        refine GO.aload dX11_counts_37 rfl ?_
        refine GO.iload_n dX11_counts_39 rfl rfl ?_
        refine GO.callV (ci := 1) (N := mX1_weigh) dX11_counts_40 (RX1, TX1, 13) rfl gV_RX11_279 h7 (t_X1_weigh h7 r_p1 h2 r_p2) rfl [] rfl rfl (Nat.le_of_ble_eq_true rfl) rfl (k_vs fun V24 h23 hF22 => ?_)
        have raw_weigh := h23.2
        have rw40 := h23.2
        have hcw := CWI.weigh w_0 rw40 rfl rwp2 ⟨by omega, by omega⟩ hF22 hW_0 h_x (by decide +kernel) (by decide +kernel)
        refine GO.aload_n dX11_counts_43 rfl rfl ?_
        refine GO.getRaw h_x fl_RX11_19 (Eq.trans (hF22 _ _ _ h_x h_x (by decide +kernel)) hv8) dX11_counts_44 ?_
        refine GO.getA (n := 20) h7 fl_RX11_283 rfl rfl rfl rfl dX11_counts_47 (fun hv28 h27 => ?_)
        refine GO.iload_n dX11_counts_50 rfl rfl ?_
        refine GO.callS (N := mX4_get) dX11_counts_51 gS_RX11_253 (t_X4_get rfl h27 r_p0) rfl [] rfl rfl (Nat.le_of_ble_eq_true rfl) rfl (k_ip fun X29 r30 h31 => ?_)
        have raw_get := h31.2
        have rw51 := h31.2
        refine GO.callS (N := mJ6_bitCount_0f7a4) dX11_counts_54 gS_RX11_286 (t_J6_bitCount_0f7a4 r30) rfl [] rfl rfl (Nat.le_of_ble_eq_true rfl) rfl (k_ip fun X32 r33 h34 => ?_)
        have raw_bitCount := h34.2
        have rw54 := h34.2
        exact GO.reti rfl rfl dX11_counts_57 ⟨rfl, _, rfl, r33, ⟨(by first | exact trivial | omega), (by first | exact COX.no (by omega) rfl | exact COX.ok (hcw.2 (by omega)) ⟨by omega, by omega⟩ ⟨by omega, by omega⟩ (by omega) (by omega) (by omega) rw51 rw54), (by first | exact w_0 | exact hcw.1)⟩⟩
      ·
        have q35 := h17.2.2 (by omega)
        refine GO.iconst dX11_counts_30 ?_
        exact GO.reti rfl rfl dX11_counts_31 ⟨rfl, _, rfl, (ir_c rfl), ⟨(by first | exact trivial | omega), (by first | exact COX.no (by omega) rfl), (by first | exact w_0)⟩⟩

set_option maxHeartbeats 1000000 in
theorem t_X11_number {K : Kmap} {V : Vmap} {x : Nat} {p0 : Int} {p1 : Int} {p2 : Int} (h_x : K x = some (0, 10)) (r_p0 : ir p0) (r_p1 : ir p1) (r_p2 : ir p2) (w_0 : CWI K V x) : MC mX11_number K V [.ref x, ti p0, ti p1, ti p2] (IS K (fun X V1 => (X ≥ (-2147483648) ∧ X ≤ 2147483647) ∧ (NBX K V x p0 p1 p2 X) ∧ (CWI K V1 x))) := by
  refine MC.start 2 (by decide +kernel) rfl rfl rfl (ls0 := [some (.ref x), some (ti p0), some (ti p1), some (ti p2), none, none]) rfl ?_
  refine GO.useWT (fun hW_0 => ?_)
  refine GO.aload_n dX11_number_0 rfl rfl ?_
  refine GO.iload_n dX11_number_1 rfl rfl ?_
  refine GO.callV (ci := 10) (N := mX11_partyOf) dX11_number_2 (RX11, TX11, 20) rfl gV_RX11_151 h_x (t_X11_partyOf h_x r_p1) rfl [] rfl rfl (Nat.le_of_ble_eq_true rfl) rfl (k_rp (fun h3 => ?_) (fun o1 h2 h3 => ?_))
  ·
    have rwn2 := h3.2
    have hn4 : PN V x → p1 < 0 ∨ vi V x 4 ≤ p1 := h3.2
    refine GO.astoreN (ls1 := [some (.ref x), some (ti p0), some (ti p1), some (ti p2), some (.null), none]) dX11_number_5 rfl rfl ?_
    refine GO.iload_n dX11_number_7 rfl rfl ?_
    refine GO.bipush dX11_number_8 rfl ?_
    refine GO.bipush dX11_number_10 rfl ?_
    refine GO.callS (N := mX11_between) dX11_number_12 gS_RX11_112 (t_X11_between r_p0 (ir_c rfl) (ir_c rfl)) rfl [] rfl rfl (Nat.le_of_ble_eq_true rfl) rfl (k_ip fun X5 r6 h7 => ?_)
    refine GO.istore (ls1 := [some (.ref x), some (ti p0), some (ti p1), some (ti p2), some (.null), some (ti X5)]) dX11_number_15 rfl rfl ?_
    refine GO.aloadN dX11_number_17 rfl ?_
    refine GO.ifnullN (tgt := 43) dX11_number_19 (by decide) ?_
    refine GO.iconst dX11_number_43 ?_
    exact GO.reti rfl rfl dX11_number_44 ⟨rfl, _, rfl, (ir_c rfl), ⟨(by first | exact trivial | omega), (by first | exact NBX.no (by have h9 := rwn2 w_0.1; omega) rfl | exact NBX.no (by omega) rfl), (by first | exact w_0)⟩⟩
  ·
    have hp8 : p1 ≥ 0 ∧ p1 < vi V x 4 := h3.1
    have rwp2 := h3.2
    have hq9 : o1 = vq V (vq V x 3) (p1).toNat := h3.2
    refine GO.astore (ls1 := [some (.ref x), some (ti p0), some (ti p1), some (ti p2), some (.ref o1), none]) dX11_number_5 rfl rfl ?_
    refine GO.iload_n dX11_number_7 rfl rfl ?_
    refine GO.bipush dX11_number_8 rfl ?_
    refine GO.bipush dX11_number_10 rfl ?_
    refine GO.callS (N := mX11_between) dX11_number_12 gS_RX11_112 (t_X11_between r_p0 (ir_c rfl) (ir_c rfl)) rfl [] rfl rfl (Nat.le_of_ble_eq_true rfl) rfl (k_ip fun X10 r11 h12 => ?_)
    refine GO.istore (ls1 := [some (.ref x), some (ti p0), some (ti p1), some (ti p2), some (.ref o1), some (ti X10)]) dX11_number_15 rfl rfl ?_
    refine GO.aload dX11_number_17 rfl ?_
    refine GO.ifnull dX11_number_19 ?_
    refine GO.iload_n dX11_number_22 rfl rfl ?_
    refine GO.callS (N := mX11_isDay) dX11_number_23 gS_RX11_276 (t_X11_isDay r_p2) rfl [] rfl rfl (Nat.le_of_ble_eq_true rfl) rfl (k_ip fun X13 r14 h15 => ?_)
    refine GO.if_eq (tgt := 43) dX11_number_26 (by decide) r14 (fun c16 => ?_) (fun c16 => ?_)
    ·
      have q17 := h15.2.2 (by omega)
      refine GO.iconst dX11_number_43 ?_
      exact GO.reti rfl rfl dX11_number_44 ⟨rfl, _, rfl, (ir_c rfl), ⟨(by first | exact trivial | omega), (by first | exact NBX.no (by omega) rfl), (by first | exact w_0)⟩⟩
    ·
      have q18 := h15.2.1 (by omega)
      refine GO.iload_n dX11_number_29 rfl rfl ?_
      refine GO.iconst dX11_number_30 ?_
      refine GO.iconst dX11_number_31 ?_
      refine GO.callS (N := mX11_between) dX11_number_32 gS_RX11_112 (t_X11_between r_p0 (ir_c rfl) (ir_c rfl)) rfl [] rfl rfl (Nat.le_of_ble_eq_true rfl) rfl (k_ip fun X19 r20 h21 => ?_)
      refine GO.if_ne (tgt := 45) dX11_number_35 (by decide) r20 (fun c22 => ?_) (fun c22 => ?_)
      ·
        have q23 := h21.2.1 (by omega)
        refine GO.aload_n dX11_number_45 rfl rfl ?_
        refine GO.getR h_x fl_RX11_19 rfl rfl dX11_number_46 (fun hv25 h24 => ?_)
        refine GO.iload_n dX11_number_49 rfl rfl ?_
        refine GO.aload dX11_number_50 rfl ?_
        refine GO.iload_n dX11_number_52 rfl rfl ?_
        refine GO.callV (ci := 1) (N := mX1_weigh) dX11_number_53 (RX1, TX1, 13) rfl gV_RX11_279 h24 (t_X1_weigh h24 r_p1 h2 r_p2) rfl [] rfl rfl (Nat.le_of_ble_eq_true rfl) rfl (k_vs fun V28 h27 hF26 => ?_)
        have raw_weigh := h27.2
        have rw53 := h27.2
        have hcw := CWI.weigh w_0 rw53 rfl rwp2 ⟨by omega, by omega⟩ hF26 hW_0 h_x (by decide +kernel) (by decide +kernel)
        refine GO.iload dX11_number_56 rfl ?_
        refine GO.if_eq (tgt := 83) dX11_number_58 (by decide) r11 (fun c29 => ?_) (fun c29 => ?_)
        ·
          have q30 := h12.2.2 (by omega)
          refine GO.iload_n dX11_number_83 rfl rfl ?_
          have q31 : -2147483648 ≤ p0 ∧ p0 ≤ 2147483647 := r_p0
          rcases (show (p0 < 0 ∨ 2 < p0) ∨ p0 = 0 ∨ p0 = 1 ∨ p0 = 2 by omega) with c32 | c32 | c32 | c32
          ·
            refine GO.tableOut (tgt := 156) dX11_number_84 r_p0 c32 (by decide) ?_
            refine GO.aload_n dX11_number_156 rfl rfl ?_
            refine GO.getRaw h_x fl_RX11_19 (Eq.trans (hF26 _ _ _ h_x h_x (by decide +kernel)) hv25) dX11_number_157 ?_
            refine GO.bipush dX11_number_160 rfl ?_
            refine GO.iconst dX11_number_162 ?_
            refine GO.iconst dX11_number_163 ?_
            refine GO.callV (ci := 1) (N := mX1_numberOf) dX11_number_164 (RX1, TX1, 13) rfl gV_RX11_292 h24 (t_X1_numberOf h24 (ir_c rfl) (ir_c rfl) (ir_c rfl)) rfl [] rfl rfl (Nat.le_of_ble_eq_true rfl) rfl (k_ip fun X35 r36 h37 => ?_)
            have raw_numberOf := h37.2
            have rw164 := h37.2
            refine GO.iconst dX11_number_167 ?_
            refine GO.icmp_ne (tgt := 175) dX11_number_168 (by decide) r36 (ir_c rfl) (fun c38 => ?_) (fun c38 => ?_)
            ·
              refine GO.iconst dX11_number_175 ?_
              exact GO.reti rfl rfl dX11_number_176 ⟨rfl, _, rfl, (ir_c rfl), ⟨(by first | exact trivial | omega), (by first | exact NBX.no (by omega) rfl | exact NBX.v3 (hcw.2 (by omega)) ⟨by omega, by omega⟩ ⟨by omega, by omega⟩ (by omega) rw164 (by omega)), (by first | exact w_0 | exact hcw.1)⟩⟩
            ·
              refine GO.iconst dX11_number_171 ?_
              refine GO.goto (tgt := 176) dX11_number_172 (by decide) ?_
              exact GO.reti rfl rfl dX11_number_176 ⟨rfl, _, rfl, (ir_c rfl), ⟨(by first | exact trivial | omega), (by first | exact NBX.no (by omega) rfl | exact NBX.v3 (hcw.2 (by omega)) ⟨by omega, by omega⟩ ⟨by omega, by omega⟩ (by omega) rw164 (by omega)), (by first | exact w_0 | exact hcw.1)⟩⟩
          ·
            refine GO.tableAt (n := 0) (tgt := 112) dX11_number_84 (ir_c rfl) c32 (by decide) (by decide) rfl (by decide) ?_
            refine GO.iconst dX11_number_112 ?_
            refine GO.aload_n dX11_number_113 rfl rfl ?_
            refine GO.getRaw h_x fl_RX11_19 (Eq.trans (hF26 _ _ _ h_x h_x (by decide +kernel)) hv25) dX11_number_114 ?_
            refine GO.bipush dX11_number_117 rfl ?_
            refine GO.iconst dX11_number_119 ?_
            refine GO.iconst dX11_number_120 ?_
            refine GO.callV (ci := 1) (N := mX1_numberOf) dX11_number_121 (RX1, TX1, 13) rfl gV_RX11_292 h24 (t_X1_numberOf h24 (ir_c rfl) (ir_c rfl) (ir_c rfl)) rfl [ti 0] rfl rfl (Nat.le_of_ble_eq_true rfl) rfl (k_ip fun X41 r42 h43 => ?_)
            have raw_numberOf := h43.2
            have rw121 := h43.2
            refine GO.callS (N := mJ9_max_7cf53) dX11_number_124 gS_RX11_296 (t_J9_max_7cf53 (ir_c rfl) r42) rfl [] rfl rfl (Nat.le_of_ble_eq_true rfl) rfl (k_ip fun X44 r45 h46 => ?_)
            have q47 : -2147483648 ≤ X44 ∧ X44 ≤ 2147483647 := r45
            exact GO.reti rfl rfl dX11_number_127 ⟨rfl, _, rfl, r45, ⟨(by first | exact trivial | omega), (by first | exact NBX.no (by omega) rfl | exact NBX.v0 (hcw.2 (by omega)) ⟨by omega, by omega⟩ ⟨by omega, by omega⟩ (by omega) rw121 (by omega)), (by first | exact w_0 | exact hcw.1)⟩⟩
          ·
            refine GO.tableAt (n := 1) (tgt := 128) dX11_number_84 (ir_c rfl) c32 (by decide) (by decide) rfl (by decide) ?_
            refine GO.aload_n dX11_number_128 rfl rfl ?_
            refine GO.getRaw h_x fl_RX11_19 (Eq.trans (hF26 _ _ _ h_x h_x (by decide +kernel)) hv25) dX11_number_129 ?_
            refine GO.bipush dX11_number_132 rfl ?_
            refine GO.iconst dX11_number_134 ?_
            refine GO.iconst dX11_number_135 ?_
            refine GO.callV (ci := 1) (N := mX1_numberOf) dX11_number_136 (RX1, TX1, 13) rfl gV_RX11_292 h24 (t_X1_numberOf h24 (ir_c rfl) (ir_c rfl) (ir_c rfl)) rfl [] rfl rfl (Nat.le_of_ble_eq_true rfl) rfl (k_ip fun X50 r51 h52 => ?_)
            have raw_numberOf := h52.2
            have rw136 := h52.2
            exact GO.reti rfl rfl dX11_number_139 ⟨rfl, _, rfl, r51, ⟨(by first | exact trivial | omega), (by first | exact NBX.no (by omega) rfl | exact NBX.v1 (hcw.2 (by omega)) ⟨by omega, by omega⟩ ⟨by omega, by omega⟩ (by omega) rw136), (by first | exact w_0 | exact hcw.1)⟩⟩
          ·
            refine GO.tableAt (n := 2) (tgt := 140) dX11_number_84 (ir_c rfl) c32 (by decide) (by decide) rfl (by decide) ?_
            refine GO.iconst dX11_number_140 ?_
            refine GO.aload_n dX11_number_141 rfl rfl ?_
            refine GO.getRaw h_x fl_RX11_19 (Eq.trans (hF26 _ _ _ h_x h_x (by decide +kernel)) hv25) dX11_number_142 ?_
            refine GO.bipush dX11_number_145 rfl ?_
            refine GO.iconst dX11_number_147 ?_
            refine GO.iconst dX11_number_148 ?_
            refine GO.callV (ci := 1) (N := mX1_numberOf) dX11_number_149 (RX1, TX1, 13) rfl gV_RX11_292 h24 (t_X1_numberOf h24 (ir_c rfl) (ir_c rfl) (ir_c rfl)) rfl [ti 0] rfl rfl (Nat.le_of_ble_eq_true rfl) rfl (k_ip fun X55 r56 h57 => ?_)
            have raw_numberOf := h57.2
            have rw149 := h57.2
            refine GO.callS (N := mJ9_max_7cf53) dX11_number_152 gS_RX11_296 (t_J9_max_7cf53 (ir_c rfl) r56) rfl [] rfl rfl (Nat.le_of_ble_eq_true rfl) rfl (k_ip fun X58 r59 h60 => ?_)
            have q61 : -2147483648 ≤ X58 ∧ X58 ≤ 2147483647 := r59
            exact GO.reti rfl rfl dX11_number_155 ⟨rfl, _, rfl, r59, ⟨(by first | exact trivial | omega), (by first | exact NBX.no (by omega) rfl | exact NBX.v2 (hcw.2 (by omega)) ⟨by omega, by omega⟩ ⟨by omega, by omega⟩ (by omega) rw149 (by omega)), (by first | exact w_0 | exact hcw.1)⟩⟩
        ·
          have q62 := h12.2.1 (by omega)
          refine GO.aload_n dX11_number_61 rfl rfl ?_
          refine GO.getRaw h_x fl_RX11_19 (Eq.trans (hF26 _ _ _ h_x h_x (by decide +kernel)) hv25) dX11_number_62 ?_
          refine GO.bipush dX11_number_65 rfl ?_
          refine GO.iload_n dX11_number_67 rfl rfl ?_
          refine GO.bipush dX11_number_68 rfl ?_
          refine GO.isub dX11_number_70 ?_
          refine GO.iconst dX11_number_71 ?_
          have q65 : -2147483648 ≤ p0 ∧ p0 ≤ 2147483647 := r_p0
          refine GO.idivP dX11_number_72 ⟨by omega, by omega⟩ (ir_c rfl) (by omega) (by omega) ?_
          refine GO.iload_n dX11_number_73 rfl rfl ?_
          refine GO.bipush dX11_number_74 rfl ?_
          refine GO.isub dX11_number_76 ?_
          refine GO.iconst dX11_number_77 ?_
          refine GO.iremP dX11_number_78 ⟨by omega, by omega⟩ (ir_c rfl) (by omega) (by omega) ?_
          refine GO.callV (ci := 1) (N := mX1_numberOf) dX11_number_79 (RX1, TX1, 13) rfl gV_RX11_292 h24 (t_X1_numberOf h24 (ir_c rfl) ⟨by omega, by omega⟩ ⟨by omega, by omega⟩) rfl [] rfl rfl (Nat.le_of_ble_eq_true rfl) rfl (k_ip fun X66 r67 h68 => ?_)
          have raw_numberOf := h68.2
          have rw79 := h68.2
          exact GO.reti rfl rfl dX11_number_82 ⟨rfl, _, rfl, r67, ⟨(by first | exact trivial | omega), (by first | exact NBX.no (by omega) rfl | exact NBX.vk (hcw.2 (by omega)) ⟨by omega, by omega⟩ ⟨by omega, by omega⟩ ⟨by omega, by omega⟩ rw79), (by first | exact w_0 | exact hcw.1)⟩⟩
      ·
        have q69 := h21.2.2 (by omega)
        refine GO.iload dX11_number_38 rfl ?_
        refine GO.if_ne (tgt := 45) dX11_number_40 (by decide) r11 (fun c70 => ?_) (fun c70 => ?_)
        ·
          have q71 := h12.2.1 (by omega)
          refine GO.aload_n dX11_number_45 rfl rfl ?_
          refine GO.getR h_x fl_RX11_19 rfl rfl dX11_number_46 (fun hv73 h72 => ?_)
          refine GO.iload_n dX11_number_49 rfl rfl ?_
          refine GO.aload dX11_number_50 rfl ?_
          refine GO.iload_n dX11_number_52 rfl rfl ?_
          refine GO.callV (ci := 1) (N := mX1_weigh) dX11_number_53 (RX1, TX1, 13) rfl gV_RX11_279 h72 (t_X1_weigh h72 r_p1 h2 r_p2) rfl [] rfl rfl (Nat.le_of_ble_eq_true rfl) rfl (k_vs fun V76 h75 hF74 => ?_)
          have raw_weigh := h75.2
          have rw53 := h75.2
          have hcw := CWI.weigh w_0 rw53 rfl rwp2 ⟨by omega, by omega⟩ hF74 hW_0 h_x (by decide +kernel) (by decide +kernel)
          refine GO.iload dX11_number_56 rfl ?_
          refine GO.if_eq (tgt := 83) dX11_number_58 (by decide) r11 (fun h => by exfalso; omega) (fun c77 => ?_)
          have q78 := h12.2.1 (by omega)
          refine GO.aload_n dX11_number_61 rfl rfl ?_
          refine GO.getRaw h_x fl_RX11_19 (Eq.trans (hF74 _ _ _ h_x h_x (by decide +kernel)) hv73) dX11_number_62 ?_
          refine GO.bipush dX11_number_65 rfl ?_
          refine GO.iload_n dX11_number_67 rfl rfl ?_
          refine GO.bipush dX11_number_68 rfl ?_
          refine GO.isub dX11_number_70 ?_
          refine GO.iconst dX11_number_71 ?_
          have q81 : -2147483648 ≤ p0 ∧ p0 ≤ 2147483647 := r_p0
          refine GO.idivP dX11_number_72 ⟨by omega, by omega⟩ (ir_c rfl) (by omega) (by omega) ?_
          refine GO.iload_n dX11_number_73 rfl rfl ?_
          refine GO.bipush dX11_number_74 rfl ?_
          refine GO.isub dX11_number_76 ?_
          refine GO.iconst dX11_number_77 ?_
          refine GO.iremP dX11_number_78 ⟨by omega, by omega⟩ (ir_c rfl) (by omega) (by omega) ?_
          refine GO.callV (ci := 1) (N := mX1_numberOf) dX11_number_79 (RX1, TX1, 13) rfl gV_RX11_292 h72 (t_X1_numberOf h72 (ir_c rfl) ⟨by omega, by omega⟩ ⟨by omega, by omega⟩) rfl [] rfl rfl (Nat.le_of_ble_eq_true rfl) rfl (k_ip fun X82 r83 h84 => ?_)
          have raw_numberOf := h84.2
          have rw79 := h84.2
          exact GO.reti rfl rfl dX11_number_82 ⟨rfl, _, rfl, r83, ⟨(by first | exact trivial | omega), (by first | exact NBX.no (by omega) rfl | exact NBX.vk (hcw.2 (by omega)) ⟨by omega, by omega⟩ ⟨by omega, by omega⟩ ⟨by omega, by omega⟩ rw79), (by first | exact w_0 | exact hcw.1)⟩⟩
        ·
          have q85 := h12.2.2 (by omega)
          refine GO.iconst dX11_number_43 ?_
          exact GO.reti rfl rfl dX11_number_44 ⟨rfl, _, rfl, (ir_c rfl), ⟨(by first | exact trivial | omega), (by first | exact NBX.no (by omega) rfl), (by first | exact w_0)⟩⟩

set_option maxHeartbeats 1000000 in
theorem t_X11_decides {K : Kmap} {V : Vmap} {x : Nat} {p0 : Int} {p1 : Int} (h_x : K x = some (0, 10)) (r_p0 : ir p0) (r_p1 : ir p1) : MC mX11_decides K V [.ref x, ti p0, ti p1] (IP K V (fun X => True)) := by
  refine MC.start 1 (by decide +kernel) rfl rfl rfl (ls0 := [some (.ref x), some (ti p0), some (ti p1), none]) rfl ?_
  refine GO.aload_n dX11_decides_0 rfl rfl ?_
  refine GO.iload_n dX11_decides_1 rfl rfl ?_
  refine GO.callV (ci := 10) (N := mX11_partyOf) dX11_decides_2 (RX11, TX11, 20) rfl gV_RX11_151 h_x (t_X11_partyOf h_x r_p0) rfl [] rfl rfl (Nat.le_of_ble_eq_true rfl) rfl (k_rp (fun h3 => ?_) (fun o1 h2 h3 => ?_))
  ·
    have rwn2 := h3.2
    have hn4 : PN V x → p0 < 0 ∨ vi V x 4 ≤ p0 := h3.2
    refine GO.astore_nN (ls1 := [some (.ref x), some (ti p0), some (ti p1), some (.null)]) dX11_decides_5 rfl rfl rfl ?_
    refine GO.aload_nN dX11_decides_6 rfl rfl ?_
    refine GO.ifnullN (tgt := 17) dX11_decides_7 (by decide) ?_
    refine GO.iconst dX11_decides_17 ?_
    exact GO.reti rfl rfl dX11_decides_18 ⟨rfl, rfl, _, rfl, (ir_c rfl), trivial⟩
  ·
    have hp5 : p0 ≥ 0 ∧ p0 < vi V x 4 := h3.1
    have rwp2 := h3.2
    have hq6 : o1 = vq V (vq V x 3) (p0).toNat := h3.2
    refine GO.astore_n (ls1 := [some (.ref x), some (ti p0), some (ti p1), some (.ref o1)]) dX11_decides_5 rfl rfl rfl ?_
    refine GO.aload_n dX11_decides_6 rfl rfl ?_
    refine GO.ifnull dX11_decides_7 ?_
    refine GO.iload_n dX11_decides_10 rfl rfl ?_
    refine GO.callS (N := mX11_isDay) dX11_decides_11 gS_RX11_276 (t_X11_isDay r_p1) rfl [] rfl rfl (Nat.le_of_ble_eq_true rfl) rfl (k_ip fun X7 r8 h9 => ?_)
    refine GO.if_ne (tgt := 19) dX11_decides_14 (by decide) r8 (fun c10 => ?_) (fun c10 => ?_)
    ·
      have q11 := h9.2.1 (by omega)
      refine GO.aload_n dX11_decides_19 rfl rfl ?_
      refine GO.iload_n dX11_decides_20 rfl rfl ?_
      refine GO.callV (ci := 2) (N := mX2_decidesOn) dX11_decides_21 (RX2, TX2, 5) rfl gV_RX11_301 h2 (t_X2_decidesOn h2 r_p1) rfl [] rfl rfl (Nat.le_of_ble_eq_true rfl) rfl (k_ip fun X12 r13 h14 => ?_)
      refine GO.if_eq (tgt := 31) dX11_decides_24 (by decide) r13 (fun c15 => ?_) (fun c15 => ?_)
      ·
        refine GO.iconst dX11_decides_31 ?_
        exact GO.reti rfl rfl dX11_decides_32 ⟨rfl, rfl, _, rfl, (ir_c rfl), trivial⟩
      ·
        refine GO.iconst dX11_decides_27 ?_
        refine GO.goto (tgt := 32) dX11_decides_28 (by decide) ?_
        exact GO.reti rfl rfl dX11_decides_32 ⟨rfl, rfl, _, rfl, (ir_c rfl), trivial⟩
    ·
      have q16 := h9.2.2 (by omega)
      refine GO.iconst dX11_decides_17 ?_
      exact GO.reti rfl rfl dX11_decides_18 ⟨rfl, rfl, _, rfl, (ir_c rfl), trivial⟩

set_option maxHeartbeats 1000000 in
theorem t_X11_work {K : Kmap} {V : Vmap} {x : Nat} {p0 : Int} {p1 : Int} {p2 : Int} {p3 : Int} {p4 : Int} {p5 : Int} {p6 : Int} (h_x : K x = some (0, 10)) (r_p0 : ir p0) (r_p1 : ir p1) (r_p2 : ir p2) (r_p3 : ir p3) (r_p4 : ir p4) (r_p5 : ir p5) (r_p6 : ir p6) (w_0 : PN V x) : MC mX11_work K V [.ref x, ti p0, ti p1, ti p2, ti p3, ti p4, ti p5, ti p6] (IX (fun X _ V1 => (((X = (-1) ∧ vi V1 x 8 = vi V x 8) ∨ (X = vi V x 8 ∧ vi V1 x 8 = (vi V x 8 + 1)))) ∧ (X ≠ -1 ↔ WKD (vi V x 4) (vi V (vq V x 0) 3) (vi V (vq V x 0) 4) (vi V x 8) (tdy V x) p0 p1 p2 p3 p4 p5 p6) ∧ (NWK K V V1 x p0 p2 X))) := by
  refine MC.start 1 (by decide +kernel) rfl rfl rfl (ls0 := [some (.ref x), some (ti p0), some (ti p1), some (ti p2), some (ti p3), some (ti p4), some (ti p5), some (ti p6), none]) rfl ?_
  refine GO.useWT (fun hW_0 => ?_)
  refine GO.iload_n dX11_work_0 rfl rfl ?_
  refine GO.iconst dX11_work_1 ?_
  refine GO.bipush dX11_work_2 rfl ?_
  refine GO.callS (N := mX11_between) dX11_work_4 gS_RX11_112 (t_X11_between r_p0 (ir_c rfl) (ir_c rfl)) rfl [] rfl rfl (Nat.le_of_ble_eq_true rfl) rfl (k_ip fun X1 r2 h3 => ?_)
  refine GO.if_eq (tgt := 41) dX11_work_7 (by decide) r2 (fun c4 => ?_) (fun c4 => ?_)
  ·
    have q5 := h3.2.2 (by omega)
    refine GO.iconst dX11_work_41 ?_
    have q6 : -2147483648 ≤ vi V x 8 ∧ vi V x 8 ≤ 2147483647 := vi_ir
    exact GO.reti rfl rfl dX11_work_42 ⟨_, rfl, (ir_c rfl), ⟨(by first | exact trivial | omega), (by first | exact ⟨fun g => absurd rfl g, fun g => by unfold WKD tdy at g; omega⟩ | exact ⟨fun _ => by unfold WKD tdy; omega, fun _ => by omega⟩), (by first | exact NWK.no rfl)⟩⟩
  ·
    have q7 := h3.2.1 (by omega)
    refine GO.aload_n dX11_work_10 rfl rfl ?_
    refine GO.iload_n dX11_work_11 rfl rfl ?_
    refine GO.callV (ci := 10) (N := mX11_partyOf) dX11_work_12 (RX11, TX11, 20) rfl gV_RX11_151 h_x (t_X11_partyOf h_x r_p1) rfl [] rfl rfl (Nat.le_of_ble_eq_true rfl) rfl (k_rp (fun h10 => ?_) (fun o8 h9 h10 => ?_))
    ·
      have rwn12 := h10.2
      have hn11 : PN V x → p1 < 0 ∨ vi V x 4 ≤ p1 := h10.2
      have hnn12 := hn11 w_0
      refine GO.ifnullN (tgt := 41) dX11_work_15 (by decide) ?_
      refine GO.iconst dX11_work_41 ?_
      have q13 : -2147483648 ≤ vi V x 8 ∧ vi V x 8 ≤ 2147483647 := vi_ir
      exact GO.reti rfl rfl dX11_work_42 ⟨_, rfl, (ir_c rfl), ⟨(by first | exact trivial | omega), (by first | exact ⟨fun g => absurd rfl g, fun g => by have h9 := rwn12 w_0; unfold WKD at g; omega⟩ | exact ⟨fun g => absurd rfl g, fun g => by unfold WKD tdy at g; omega⟩ | exact ⟨fun _ => by unfold WKD tdy; omega, fun _ => by omega⟩), (by first | exact NWK.no rfl)⟩⟩
    ·
      have hp14 : p1 ≥ 0 ∧ p1 < vi V x 4 := h10.1
      have rwp12 := h10.2
      have hq15 : o8 = vq V (vq V x 3) (p1).toNat := h10.2
      refine GO.ifnull dX11_work_15 ?_
      refine GO.aload_n dX11_work_18 rfl rfl ?_
      refine GO.getR h_x fl_RX11_12 rfl rfl dX11_work_19 (fun hv17 h16 => ?_)
      refine GO.iload_n dX11_work_22 rfl rfl ?_
      refine GO.callV (ci := 0) (N := mX0_isCell) dX11_work_23 (RX0, TX0, 13) rfl gV_RX11_119 h16 (t_X0_isCell h16 r_p2) rfl [] rfl rfl (Nat.le_of_ble_eq_true rfl) rfl (k_ip fun X18 r19 h20 => ?_)
      have raw_isCell := h20.2.2.2
      have rw23 := h20.2.2.2
      refine GO.if_eq (tgt := 41) dX11_work_26 (by decide) r19 (fun c21 => ?_) (fun c21 => ?_)
      ·
        refine GO.iconst dX11_work_41 ?_
        have q22 : -2147483648 ≤ vi V x 8 ∧ vi V x 8 ≤ 2147483647 := vi_ir
        exact GO.reti rfl rfl dX11_work_42 ⟨_, rfl, (ir_c rfl), ⟨(by first | exact trivial | omega), (by first | exact ⟨fun g => absurd rfl g, fun g => by unfold WKD tdy at g; omega⟩ | exact ⟨fun _ => by unfold WKD tdy; omega, fun _ => by omega⟩), (by first | exact NWK.no rfl)⟩⟩
      ·
        refine GO.aload_n dX11_work_29 rfl rfl ?_
        refine GO.getI h_x fl_RX11_55 rfl rfl dX11_work_30 (fun l23 u24 => ?_)
        refine GO.aload_n dX11_work_33 rfl rfl ?_
        refine GO.getA (n := 100) h_x fl_RX11_51 rfl rfl rfl rfl dX11_work_34 (fun hv26 h25 => ?_)
        refine GO.alen h25 dX11_work_37 (fun h27 => ?_)
        refine GO.icmp_lt (tgt := 43) dX11_work_38 (by decide) vi_ir ⟨by omega, by omega⟩ (fun c28 => ?_) (fun c28 => ?_)
        ·
          refine GO.iload dX11_work_43 rfl ?_
          refine GO.iload dX11_work_45 rfl ?_
          refine GO.callS (N := mX11_areDays) dX11_work_47 gS_RX11_213 (t_X11_areDays r_p3 r_p4) rfl [] rfl rfl (Nat.le_of_ble_eq_true rfl) rfl (k_ip fun X29 r30 h31 => ?_)
          refine GO.if_eq (tgt := 88) dX11_work_50 (by decide) r30 (fun c32 => ?_) (fun c32 => ?_)
          ·
            have q33 := h31.2.2 (by omega)
            refine GO.iconst dX11_work_88 ?_
            exact GO.reti rfl rfl dX11_work_89 ⟨_, rfl, (ir_c rfl), ⟨(by first | exact trivial | omega), (by first | exact ⟨fun g => absurd rfl g, fun g => by unfold WKD tdy at g; omega⟩ | exact ⟨fun _ => by unfold WKD tdy; omega, fun _ => by omega⟩), (by first | exact NWK.no rfl)⟩⟩
          ·
            have q34 := h31.2.1 (by omega)
            refine GO.iload dX11_work_53 rfl ?_
            refine GO.aload_n dX11_work_55 rfl rfl ?_
            refine GO.getRaw h_x fl_RX11_12 hv17 dX11_work_56 ?_
            refine GO.getI h16 fl_RX11_145 rfl rfl dX11_work_59 (fun l37 u38 => ?_)
            refine GO.icmp_lt (tgt := 88) dX11_work_62 (by decide) r_p3 vi_ir (fun c39 => ?_) (fun c39 => ?_)
            ·
              refine GO.iconst dX11_work_88 ?_
              exact GO.reti rfl rfl dX11_work_89 ⟨_, rfl, (ir_c rfl), ⟨(by first | exact trivial | omega), (by first | exact ⟨fun g => absurd rfl g, fun g => by unfold WKD tdy at g; omega⟩ | exact ⟨fun _ => by unfold WKD tdy; omega, fun _ => by omega⟩), (by first | exact NWK.no rfl)⟩⟩
            ·
              refine GO.iload dX11_work_65 rfl ?_
              refine GO.iconst dX11_work_67 ?_
              refine GO.sipush dX11_work_68 rfl ?_
              refine GO.callS (N := mX11_between) dX11_work_71 gS_RX11_112 (t_X11_between r_p5 (ir_c rfl) (ir_c rfl)) rfl [] rfl rfl (Nat.le_of_ble_eq_true rfl) rfl (k_ip fun X40 r41 h42 => ?_)
              refine GO.if_eq (tgt := 88) dX11_work_74 (by decide) r41 (fun c43 => ?_) (fun c43 => ?_)
              ·
                have q44 := h42.2.2 (by omega)
                refine GO.iconst dX11_work_88 ?_
                exact GO.reti rfl rfl dX11_work_89 ⟨_, rfl, (ir_c rfl), ⟨(by first | exact trivial | omega), (by first | exact ⟨fun g => absurd rfl g, fun g => by unfold WKD tdy at g; omega⟩ | exact ⟨fun _ => by unfold WKD tdy; omega, fun _ => by omega⟩), (by first | exact NWK.no rfl)⟩⟩
              ·
                have q45 := h42.2.1 (by omega)
                refine GO.iload dX11_work_77 rfl ?_
                refine GO.iconst dX11_work_79 ?_
                refine GO.bipush dX11_work_80 rfl ?_
                refine GO.callS (N := mX11_between) dX11_work_82 gS_RX11_112 (t_X11_between r_p6 (ir_c rfl) (ir_c rfl)) rfl [] rfl rfl (Nat.le_of_ble_eq_true rfl) rfl (k_ip fun X46 r47 h48 => ?_)
                refine GO.if_ne (tgt := 90) dX11_work_85 (by decide) r47 (fun c49 => ?_) (fun c49 => ?_)
                ·
                  have q50 := h48.2.1 (by omega)
                  refine GO.new (ci := 21) (RX10, TX10, 15) tyX10 rfl rfl lays_9 tyX10_ok gw_223 gw_875 gw_19 rfl rfl dX11_work_90 (fun o51 K52 V58 hq53 hK54 hE55 h56 _ hV57 => ?_)
                  have h59 := hE55.obj (by decide) h_x
                  refine GO.useWT (fun hWn => ?_)
                  have hx1n := hE55.obj (Or.inl (by decide)) h_x
                  refine GO.dup dX11_work_93 rfl ?_
                  refine GO.iload_n dX11_work_94 rfl rfl ?_
                  refine GO.iload_n dX11_work_95 rfl rfl ?_
                  refine GO.iload_n dX11_work_96 rfl rfl ?_
                  refine GO.iload dX11_work_97 rfl ?_
                  refine GO.iload dX11_work_99 rfl ?_
                  refine GO.callI (N := mX10_init) dX11_work_101 gI_RX11_304 rfl (t_X10_init h56 r_p0 r_p1 r_p2 r_p3 r_p4) rfl [.ref o51] rfl rfl (Nat.le_of_ble_eq_true rfl) rfl (k_vx fun K62 V64 h63 hE61 hF60 => ?_)
                  have h65 := hE61.obj (by decide) h59
                  have h66 := h63.1.1
                  have ir0_101 := h63.1.2
                  refine GO.useWT (fun hWi => ?_)
                  have hx2n := hE61.obj (Or.inl (by decide)) hx1n
                  refine GO.astore (ls1 := [some (.ref x), some (ti p0), some (ti p1), some (ti p2), some (ti p3), some (ti p4), some (ti p5), some (ti p6), some (.ref o51)]) dX11_work_104 rfl rfl ?_
                  refine GO.aload dX11_work_106 rfl ?_
                  refine GO.iload dX11_work_108 rfl ?_
                  refine GO.putI h66 fp_RX11_305 rfl (by decide +kernel) r_p5 (r_p5).1 (r_p5).2 dX11_work_110 (fun V68 e67 => ?_)
                  refine GO.useWT (fun hWj => ?_)
                  refine GO.aload dX11_work_113 rfl ?_
                  refine GO.iload dX11_work_115 rfl ?_
                  refine GO.putI h66 fp_RX11_306 rfl (by decide +kernel) r_p6 (r_p6).1 (r_p6).2 dX11_work_117 (fun V70 e69 => ?_)
                  refine GO.useWT (fun hWk => ?_)
                  have wk4 := WKL.tr (WKL.tr (WKL.tr (WKL.tr WKL.rf (WKL.fr (ws := 0) (FR.rf.new ext.rf hq53 hK54 hV57) hE55 hW_0 h_x rfl)) (WKL.fr hF60 hE61 hWn hx1n (by decide +kernel))) (WKL.fr (FR.put FR.rf h63.1.1 (by decide +kernel : Nat.testBit (2 ^ keyK (0, 9) 5) (keyK (0, 9) 5) = true) e67) ext.rf hWi hx2n (by decide +kernel))) (WKL.fr (FR.put FR.rf h63.1.1 (by decide +kernel : Nat.testBit (2 ^ keyK (0, 9) 6) (keyK (0, 9) 6) = true) e69) ext.rf hWj hx2n (by decide +kernel))
                  refine GO.aload_n dX11_work_120 rfl rfl ?_
                  refine GO.getA (n := 100) h65 fl_RX11_51 rfl rfl rfl rfl dX11_work_121 (fun hv72 h71 => ?_)
                  refine GO.aload_n dX11_work_124 rfl rfl ?_
                  refine GO.getI h65 fl_RX11_55 rfl rfl dX11_work_125 (fun l73 u74 => ?_)
                  have e78 : vi V58 x 8 = vi V x 8 := vi_nw hV57 (K_old h_x hq53)
                  have e77 : vi V64 x 8 = vi V58 x 8 := vi_fr hF60 h59 h65 (by decide +kernel)
                  have e76 : vi V68 x 8 = vi V64 x 8 := vi_up e67 (Or.inl (K_ne h65 h66 (by decide)))
                  have e75 : vi V70 x 8 = vi V68 x 8 := vi_up e69 (Or.inl (K_ne h65 h66 (by decide)))
                  refine GO.aload dX11_work_128 rfl ?_
                  refine GO.aast (t := 6) (by decide) (RX10, TX10, 15) rfl rfl rfl (by decide +kernel) h71 h66 vi_ir (by omega) (by omega) dX11_work_130 (fun V80 e79 => ?_)
                  refine GO.aload_n dX11_work_131 rfl rfl ?_
                  refine GO.dup dX11_work_132 rfl ?_
                  refine GO.getI h65 fl_RX11_55 rfl rfl dX11_work_133 (fun l81 u82 => ?_)
                  have e83 : vi V80 x 8 = vi V70 x 8 := vi_up e79 (Or.inl (K_ne h65 h71 (by decide)))
                  refine GO.dup_x1 dX11_work_136 rfl rfl ?_
                  refine GO.iconst dX11_work_137 ?_
                  refine GO.iadd dX11_work_138 ?_
                  refine GO.putI h65 fp_RX11_55 rfl (by decide +kernel) ⟨by omega, by omega⟩ (by omega) (by omega) dX11_work_139 (fun V85 e84 => ?_)
                  have e86 : vi V85 x 8 = (vi V80 x 8) + 1 := upd2_int e84 ⟨by omega, by omega⟩
                  exact GO.reti rfl rfl dX11_work_142 ⟨_, rfl, vi_ir, ⟨(by first | exact trivial | omega), (by first | exact ⟨fun g => absurd rfl g, fun g => by unfold WKD tdy at g; omega⟩ | exact ⟨fun _ => by unfold WKD tdy; omega, fun _ => by omega⟩), (by first | exact NWK.no rfl | exact NWK.ok (by omega) (NEWW.mk wk4 hq53 hW_0 h_x h63.1.1 hWk hx2n (wkr_put (wkr_put h63.1.2 e67 (Or.inl rfl)) e69 (Or.inr rfl)) (by assumption) e84 (by omega) (by omega) (by omega)))⟩⟩
                ·
                  have q87 := h48.2.2 (by omega)
                  refine GO.iconst dX11_work_88 ?_
                  exact GO.reti rfl rfl dX11_work_89 ⟨_, rfl, (ir_c rfl), ⟨(by first | exact trivial | omega), (by first | exact ⟨fun g => absurd rfl g, fun g => by unfold WKD tdy at g; omega⟩ | exact ⟨fun _ => by unfold WKD tdy; omega, fun _ => by omega⟩), (by first | exact NWK.no rfl)⟩⟩
        ·
          refine GO.iconst dX11_work_41 ?_
          exact GO.reti rfl rfl dX11_work_42 ⟨_, rfl, (ir_c rfl), ⟨(by first | exact trivial | omega), (by first | exact ⟨fun g => absurd rfl g, fun g => by unfold WKD tdy at g; omega⟩ | exact ⟨fun _ => by unfold WKD tdy; omega, fun _ => by omega⟩), (by first | exact NWK.no rfl)⟩⟩

set_option maxHeartbeats 1000000 in
theorem t_X11_workOf {K : Kmap} {V : Vmap} {x : Nat} {p0 : Int} (h_x : K x = some (0, 10)) (r_p0 : ir p0) : MC mX11_workOf K V [.ref x, ti p0] (RP K V 9 ((True) ∧ (NN 8 7 V x → p0 < 0 ∨ vi V x 8 ≤ p0)) (fun q => (p0 ≥ 0 ∧ p0 < vi V x 8) ∧ (q = wkO V x (p0).toNat ∧ 0 ≤ p0 ∧ p0 < vi V x 8))) := by
  refine MC.start 0 (by decide +kernel) rfl rfl rfl (ls0 := [some (.ref x), some (ti p0)]) rfl ?_
  refine GO.iload_n dX11_workOf_0 rfl rfl ?_
  refine GO.if_lt (tgt := 30) dX11_workOf_1 (by decide) r_p0 (fun c1 => ?_) (fun c1 => ?_)
  ·
    refine GO.null dX11_workOf_30 ?_
    exact GO.reta rfl rfl (Or.inl ⟨_, rfl⟩) dX11_workOf_31 (Or.inl rfl) ⟨rfl, rfl, Or.inl ⟨rfl, ⟨trivial, (by first | exact fun _ => (by omega))⟩⟩⟩
  ·
    refine GO.iload_n dX11_workOf_4 rfl rfl ?_
    refine GO.aload_n dX11_workOf_5 rfl rfl ?_
    refine GO.getI h_x fl_RX11_55 rfl rfl dX11_workOf_6 (fun l2 u3 => ?_)
    refine GO.icmp_ge (tgt := 30) dX11_workOf_9 (by decide) r_p0 vi_ir (fun c4 => ?_) (fun c4 => ?_)
    ·
      refine GO.null dX11_workOf_30 ?_
      exact GO.reta rfl rfl (Or.inl ⟨_, rfl⟩) dX11_workOf_31 (Or.inl rfl) ⟨rfl, rfl, Or.inl ⟨rfl, ⟨trivial, (by first | exact fun _ => (by omega))⟩⟩⟩
    ·
      refine GO.iload_n dX11_workOf_12 rfl rfl ?_
      refine GO.aload_n dX11_workOf_13 rfl rfl ?_
      refine GO.getA (n := 100) h_x fl_RX11_51 rfl rfl rfl rfl dX11_workOf_14 (fun hv6 h5 => ?_)
      refine GO.alen h5 dX11_workOf_17 (fun h7 => ?_)
      have q9 : -2147483648 ≤ p0 ∧ p0 ≤ 2147483647 := r_p0
      refine GO.icmp_ge (tgt := 30) dX11_workOf_18 (by decide) r_p0 ⟨by omega, by omega⟩ (fun h => by exfalso; omega) (fun c8 => ?_)
      refine GO.aload_n dX11_workOf_21 rfl rfl ?_
      refine GO.getRaw h_x fl_RX11_51 hv6 dX11_workOf_22 ?_
      refine GO.iload_n dX11_workOf_25 rfl rfl ?_
      refine GO.aald (t := 6) rfl rfl h5 r_p0 (by omega) (by omega) dX11_workOf_26 (fun hnul => ?_) (fun _ h12 => ?_)
      ·
        refine GO.goto (tgt := 31) dX11_workOf_27 (by decide) ?_
        exact GO.reta rfl rfl (Or.inl ⟨_, rfl⟩) dX11_workOf_31 (Or.inl rfl) ⟨rfl, rfl, Or.inl ⟨rfl, ⟨trivial, (by first | exact fun _ => (by omega) | exact fun hpn => absurd hnul (hpn p0.toNat (by omega)))⟩⟩⟩
      ·
        refine GO.goto (tgt := 31) dX11_workOf_27 (by decide) ?_
        exact GO.reta rfl rfl (Or.inl ⟨_, rfl⟩) dX11_workOf_31 (Or.inr ⟨_, rfl⟩) ⟨rfl, rfl, Or.inr ⟨_, rfl, h12, ⟨by omega, ⟨rfl, by omega, by omega⟩⟩⟩⟩

set_option maxHeartbeats 1000000 in
theorem t_X11_tell {K : Kmap} {V : Vmap} {x : Nat} {p0 : Int} {p1 : Int} (h_x : K x = some (0, 10)) (r_p0 : ir p0) (r_p1 : ir p1) : MC mX11_tell K V [.ref x, ti p0, ti p1] (IS K (fun X V1 => (X = 0 ∨ X = 1) ∧ (X ≠ 0 → True) ∧ (X = 0 → True) ∧ (WKC (TLq p1) (TLr p1 (tdy V x)) V V1 x p0 X))) := by
  refine MC.start 1 (by decide +kernel) rfl rfl rfl (ls0 := [some (.ref x), some (ti p0), some (ti p1), none]) rfl ?_
  refine GO.useWT (fun hW_0 => ?_)
  refine GO.aload_n dX11_tell_0 rfl rfl ?_
  refine GO.iload_n dX11_tell_1 rfl rfl ?_
  refine GO.callV (ci := 10) (N := mX11_workOf) dX11_tell_2 (RX11, TX11, 20) rfl gV_RX11_309 h_x (t_X11_workOf h_x r_p0) rfl [] rfl rfl (Nat.le_of_ble_eq_true rfl) rfl (k_rp (fun h3 => ?_) (fun o1 h2 h3 => ?_))
  ·
    have rwn2 := h3.2
    have hn4 : NN 8 7 V x → p0 < 0 ∨ vi V x 8 ≤ p0 := h3.2
    refine GO.astore_nN (ls1 := [some (.ref x), some (ti p0), some (ti p1), some (.null)]) dX11_tell_5 rfl rfl rfl ?_
    refine GO.aload_nN dX11_tell_6 rfl rfl ?_
    refine GO.ifnonnullN dX11_tell_7 ?_
    refine GO.iconst dX11_tell_10 ?_
    exact GO.retz rfl rfl dX11_tell_11 (Or.inl rfl) ⟨rfl, _, rfl, (ir_c rfl), ⟨Or.inl rfl, fun _ => trivial, fun _ => trivial, (by first | exact WKC.nw rwn2 rfl)⟩⟩
  ·
    have hp5 : p0 ≥ 0 ∧ p0 < vi V x 8 := h3.1
    have rwp2 := h3.2
    have hq6 : o1 = wkO V x (p0).toNat ∧ 0 ≤ p0 ∧ p0 < vi V x 8 := h3.2
    refine GO.astore_n (ls1 := [some (.ref x), some (ti p0), some (ti p1), some (.ref o1)]) dX11_tell_5 rfl rfl rfl ?_
    refine GO.aload_n dX11_tell_6 rfl rfl ?_
    refine GO.ifnonnull (tgt := 12) dX11_tell_7 (by decide) ?_
    refine GO.iload_n dX11_tell_12 rfl rfl ?_
    refine GO.if_ne (tgt := 37) dX11_tell_13 (by decide) r_p1 (fun c7 => ?_) (fun c7 => ?_)
    ·
      refine GO.iload_n dX11_tell_37 rfl rfl ?_
      refine GO.iconst dX11_tell_38 ?_
      refine GO.icmp_ne (tgt := 63) dX11_tell_39 (by decide) r_p1 (ir_c rfl) (fun c8 => ?_) (fun c8 => ?_)
      ·
        refine GO.iconst dX11_tell_63 ?_
        exact GO.retz rfl rfl dX11_tell_64 (Or.inl rfl) ⟨rfl, _, rfl, (ir_c rfl), ⟨Or.inl rfl, fun _ => trivial, fun _ => trivial, (by first | exact TLC.nd rwp2.1 (by omega) rfl | exact TLC.o9 hW_0 h_x rwp2 (by omega) (by omega) (by assumption) (by omega) | exact TLC.o10 hW_0 h_x rwp2 (by omega) (by omega) (by assumption) (by omega))⟩⟩
      ·
        refine GO.aload_n dX11_tell_42 rfl rfl ?_
        refine GO.getI h2 fl_RX11_316 rfl rfl dX11_tell_43 (fun _ _ => ?_)
        refine GO.iconst dX11_tell_46 ?_
        refine GO.icmp_ne (tgt := 63) dX11_tell_47 (by decide) vi_ir (ir_c rfl) (fun c9 => ?_) (fun c9 => ?_)
        ·
          refine GO.iconst dX11_tell_63 ?_
          exact GO.retz rfl rfl dX11_tell_64 (Or.inl rfl) ⟨rfl, _, rfl, (ir_c rfl), ⟨Or.inl rfl, fun _ => trivial, fun _ => trivial, (by first | exact TLC.nd rwp2.1 (by omega) rfl | exact TLC.o9 hW_0 h_x rwp2 (by omega) (by omega) (by assumption) (by omega) | exact TLC.o10 hW_0 h_x rwp2 (by omega) (by omega) (by assumption) (by omega))⟩⟩
        ·
          refine GO.aload_n dX11_tell_50 rfl rfl ?_
          refine GO.aload_n dX11_tell_51 rfl rfl ?_
          refine GO.getR h_x fl_RX11_12 rfl rfl dX11_tell_52 (fun hv11 h10 => ?_)
          refine GO.getI h10 fl_RX11_145 rfl rfl dX11_tell_55 (fun l12 u13 => ?_)
          refine GO.putI h2 fp_RX11_316 rfl (by decide +kernel) vi_ir (vi_ir).1 (vi_ir).2 dX11_tell_58 (fun V15 e14 => ?_)
          refine GO.iconst dX11_tell_61 ?_
          exact GO.retz rfl rfl dX11_tell_62 (Or.inr rfl) ⟨rfl, _, rfl, (ir_c rfl), ⟨Or.inr rfl, fun _ => trivial, fun _ => trivial, (by first | exact TLC.nd rwp2.1 (by omega) rfl | exact TLC.o9 hW_0 h_x rwp2 (by omega) (by omega) (by assumption) (by omega) | exact TLC.o10 hW_0 h_x rwp2 (by omega) (by omega) e14 (by omega))⟩⟩
    ·
      refine GO.aload_n dX11_tell_16 rfl rfl ?_
      refine GO.getI h2 fl_RX11_313 rfl rfl dX11_tell_17 (fun _ _ => ?_)
      refine GO.iconst dX11_tell_20 ?_
      refine GO.icmp_ne (tgt := 37) dX11_tell_21 (by decide) vi_ir (ir_c rfl) (fun c16 => ?_) (fun c16 => ?_)
      ·
        refine GO.iload_n dX11_tell_37 rfl rfl ?_
        refine GO.iconst dX11_tell_38 ?_
        have q18 : -2147483648 ≤ p1 ∧ p1 ≤ 2147483647 := r_p1
        refine GO.icmp_ne (tgt := 63) dX11_tell_39 (by decide) r_p1 (ir_c rfl) (fun c17 => ?_) (fun h => by exfalso; omega)
        refine GO.iconst dX11_tell_63 ?_
        exact GO.retz rfl rfl dX11_tell_64 (Or.inl rfl) ⟨rfl, _, rfl, (ir_c rfl), ⟨Or.inl rfl, fun _ => trivial, fun _ => trivial, (by first | exact TLC.nd rwp2.1 (by omega) rfl | exact TLC.o9 hW_0 h_x rwp2 (by omega) (by omega) (by assumption) (by omega) | exact TLC.o10 hW_0 h_x rwp2 (by omega) (by omega) (by assumption) (by omega))⟩⟩
      ·
        refine GO.aload_n dX11_tell_24 rfl rfl ?_
        refine GO.aload_n dX11_tell_25 rfl rfl ?_
        refine GO.getR h_x fl_RX11_12 rfl rfl dX11_tell_26 (fun hv20 h19 => ?_)
        refine GO.getI h19 fl_RX11_145 rfl rfl dX11_tell_29 (fun l21 u22 => ?_)
        refine GO.putI h2 fp_RX11_313 rfl (by decide +kernel) vi_ir (vi_ir).1 (vi_ir).2 dX11_tell_32 (fun V24 e23 => ?_)
        refine GO.iconst dX11_tell_35 ?_
        exact GO.retz rfl rfl dX11_tell_36 (Or.inr rfl) ⟨rfl, _, rfl, (ir_c rfl), ⟨Or.inr rfl, fun _ => trivial, fun _ => trivial, (by first | exact TLC.nd rwp2.1 (by omega) rfl | exact TLC.o9 hW_0 h_x rwp2 (by omega) (by omega) e23 (by omega) | exact TLC.o10 hW_0 h_x rwp2 (by omega) (by omega) (by assumption) (by omega))⟩⟩
