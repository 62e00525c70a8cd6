def mX8_init_k31 : MRec := (RX8, cX8_init, 3, (none : Option Jvm.ClassFile.FieldType), yX8_init, 1, 21, 1, 400, 531137992816767098689588206552468627329593117727031923199444138200403559860852242739162502265229285668889329486246501015346579337652707239409519978766587351943831270835393219031728128)
def mX4_fill_t145 : MRec := (RX4, cX4_fill, 3, (none : Option Jvm.ClassFile.FieldType), yX4_fill, 0, 0, 0, 0, 169230328010303641331690318856389386196071598838855992136870091590247882556495704531248437872567112920983350278405979725889536)
def mX11_init : MRec := (RX11, cX11_init, 1, (none : Option Jvm.ClassFile.FieldType), yX11_init, 3, 63, 48, 6525, 4925474980261738641754228134201408286251773677671772600295015824086314265502647428587257891053335895448368466803283457001623532480995627256624474938960886001169410679541216606223859712)
set_option maxHeartbeats 1000000 in
theorem t_X8_init_k31 {K : Kmap} {V : Vmap} {x : Nat} {p0 : Int} {p1 : Int} (h_x : K x = some (0, 19)) (r_p0 : ir p0) (r_p1 : ir p1) (q_0 : p0 = 1) (q_1 : p1 = 400) : MC mX8_init_k31 K V [.ref x, ti p0, ti p1] (VX (fun K1 V1 => (K1 x = some (0, 31) ∧ vi V1 x 3 = 0) ∧ KE K K1 x)) := by
  refine MC.start 0 (by decide +kernel) rfl rfl rfl (ls0 := [some (.ref x), some (ti p0), some (ti p1)]) rfl ?_
  refine GO.aload_n dX8_init_0 rfl rfl ?_
  refine GO.objInit dX8_init_1 gw_103 gw_27 gw_28 rfl rfl ?_
  refine GO.aload_n dX8_init_4 rfl rfl ?_
  refine GO.iconst dX8_init_5 ?_
  refine GO.putRW rfl (by decide +kernel) h_x fp_raw_fp_RX8_9 rfl rfl dX8_init_6 (fun V2 e1 => ?_)
  refine GO.aload_n dX8_init_9 rfl rfl ?_
  refine GO.iload_n dX8_init_10 rfl rfl ?_
  refine GO.putRF rfl rfl (by decide +kernel) h_x fp_raw_fp_RX8_15 rfl rfl dX8_init_11 (fun V4 e3 => ?_)
  refine GO.aload_n dX8_init_14 rfl rfl ?_
  refine GO.iload_n dX8_init_15 rfl rfl ?_
  refine GO.putRF rfl rfl (by decide +kernel) h_x fp_raw_fp_RX8_18 rfl rfl dX8_init_16 (fun V6 e5 => ?_)
  refine GO.aload_n dX8_init_19 rfl rfl ?_
  refine GO.iconst dX8_init_20 ?_
  refine GO.iload_n dX8_init_21 rfl rfl ?_
  refine GO.iload_n dX8_init_22 rfl rfl ?_
  refine GO.imul dX8_init_23 ?_
  have q7 : -2147483648 ≤ p1 ∧ p1 ≤ 2147483647 := r_p1
  have q8 : -2147483648 ≤ p0 ∧ p0 ≤ 2147483647 := r_p0
  have m9 := mul_rng (a := p0) (b := p1) (A := 1) (B := 400) (by omega) (by omega) (by omega) (by omega)
  have m10 := mul_low (a := p0) (b := p1) (m := 1) (n := 400) (by omega) (by omega) (by omega) (by omega)
  refine GO.callS (N := mJ9_max_7cf53) dX8_init_24 gS_RX8_21 (t_J9_max_7cf53 (ir_c rfl) ⟨by omega, by omega⟩) rfl [.ref x] rfl rfl (Nat.le_of_ble_eq_true rfl) rfl (k_ip fun X11 r12 h13 => ?_)
  have q14 : -2147483648 ≤ X11 ∧ X11 ≤ 2147483647 := r12
  refine GO.newIT 153 400 gw_89 rfl rfl (fun _ _ => okv_df rfl rfl rfl) r12 (by omega) (by omega) rfl (Or.inr (by show _ = ((400 : Nat) : Int); omega)) rfl rfl dX8_init_27 (fun o15 K16 V22 hq17 hK18 hE19 h20 _ hV21 => ?_)
  have h23 := (by rw [hK18, updK_ne (K_old h_x hq17)]; exact h_x : K16 x = some (0, 19))
  have h24 := KE.nw KE.rf h_x hq17
  refine GO.putRF rfl rfl (by decide +kernel) h23 fp_raw_fp_RX8_27 rfl rfl dX8_init_29 (fun V26 e25 => ?_)
  refine GO.promoteT 31 rfl rfl h23 (fun j hj => ?_) (fun K27 e28 hE29 h30 => ?_)
  ·
    have hj : j < 4 := hj
    match j, hj with
    | 0, _ => exact okv_at (Eq.trans (uq_ne e25 (Or.inr (by decide))) (Eq.trans (congrFun (hV21 _ (K_old h_x hq17)) _) (Eq.trans (uq_ne e5 (Or.inr (by decide))) (uq_at e3)))) r_p0 (by omega) (by omega)
    | 1, _ => exact okv_at (Eq.trans (uq_ne e25 (Or.inr (by decide))) (Eq.trans (congrFun (hV21 _ (K_old h_x hq17)) _) (uq_at e5))) r_p1 (by omega) (by omega)
    | 2, _ => exact ⟨_, (uq_at e25), ⟨_, h20⟩⟩
    | 3, _ => exact okv_at (Eq.trans (uq_ne e25 (Or.inr (by decide))) (Eq.trans (congrFun (hV21 _ (K_old h_x hq17)) _) (Eq.trans (uq_ne e5 (Or.inr (by decide))) (Eq.trans (uq_ne e3 (Or.inr (by decide))) (uq_at e1))))) (ir_c rfl) (by omega) (by omega)
    | j + 4, hj => exact absurd hj (by omega)
  exact GO.retv rfl rfl dX8_init_32 ⟨rfl, ⟨h30, vi_at (Eq.trans (uq_ne e25 (Or.inr (by decide))) (Eq.trans (congrFun (hV21 _ (K_old h_x hq17)) _) (Eq.trans (uq_ne e5 (Or.inr (by decide))) (Eq.trans (uq_ne e3 (Or.inr (by decide))) (uq_at e1))))) (ir_c rfl)⟩, KE.promote (KE.new KE.rf hq17 hK18) e28⟩

set_option maxHeartbeats 1000000 in
theorem t_X4_fill_t145 {K : Kmap} {V : Vmap} {p0 n_p0 : Nat} {p1 : Int} (h_p0 : K p0 = some (146, n_p0)) (r_p1 : ir p1) : MC mX4_fill_t145 K V [.ref p0, ti p1] (VS K (fun V1 => (True))) := by
  refine MC.start 1 (by decide +kernel) rfl rfl rfl (ls0 := [some (.ref p0), some (ti p1), none]) rfl ?_
  refine GO.aload_n dX4_fill_0 rfl rfl ?_
  refine GO.ifnonnull (tgt := 5) dX4_fill_1 (by decide) ?_
  refine GO.iconst dX4_fill_5 ?_
  refine GO.istore_n (ls1 := [some (.ref p0), some (ti p1), some (ti 0)]) dX4_fill_6 rfl rfl rfl ?_
  refine GO.loop1 (fun i1 W => 0 ≤ i1 ∧ i1 ≤ 5000 ∧ True) (fun i1 => [some (.ref p0), some (ti p1), some (ti i1)]) (fun i1 W => (2147483647 - i1).toNat) 0 ⟨by omega, by omega, trivial⟩ rfl (fun i1 Wi1 hp39 ih38 => ?_)
  obtain ⟨l_i1, u_i1, -⟩ := hp39
  have r_i1 : ir i1 := ⟨by omega, by omega⟩
  show GO mX4_fill_t145 K V (VS K (fun V1 => (True))) K Wi1 0 0 7 [some (.ref p0), some (ti p1), some (ti i1)] []
  refine GO.iload_n dX4_fill_7 rfl rfl ?_
  refine GO.aload_n dX4_fill_8 rfl rfl ?_
  refine GO.alen h_p0 dX4_fill_9 (fun h40 => ?_)
  refine GO.icmp_ge (tgt := 23) dX4_fill_10 (by decide) r_i1 ⟨by omega, by omega⟩ (fun c41 => ?_) (fun c41 => ?_)
  ·
    exact GO.retv rfl rfl dX4_fill_23 ⟨rfl, rfl, trivial⟩
  ·
    refine GO.aload_n dX4_fill_13 rfl rfl ?_
    refine GO.iload_n dX4_fill_14 rfl rfl ?_
    refine GO.iload_n dX4_fill_15 rfl rfl ?_
    refine GO.iast (t := 145) rfl rfl (by decide +kernel) h_p0 r_i1 (by omega) (by omega) r_p1 (r_p1).1 (r_p1).2 dX4_fill_16 (fun V43 e42 => ?_)
    refine GO.iinc (X := i1) (n := 1) (Y := i1 + 1) (ls1 := [some (.ref p0), some (ti p1), some (ti (i1 + 1))]) dX4_fill_17 rfl rfl rfl rfl ?_
    refine GO.goto (tgt := 7) dX4_fill_20 (by decide) ?_
    exact ih38 (i1 + 1) V43 ⟨by omega, by omega, trivial⟩ (by show (2147483647 - (i1 + 1)).toNat < (2147483647 - i1).toNat; omega)

set_option maxHeartbeats 1000000 in
theorem t_X11_init {K : Kmap} {V : Vmap} {x : Nat} (h_x : K x = some (0, 22)) : MC mX11_init K V [.ref x] (VX (fun K1 V1 => (K1 x = some (0, 10) ∧ vi V1 x 4 = 0 ∧ vi V1 x 10 = 0 ∧ tdy V1 x = 0 ∧ wsz V1 x = 0 ∧ csz V1 x = 0) ∧ KE K K1 x)) := by
  refine MC.start 0 (by decide +kernel) rfl rfl rfl (ls0 := [some (.ref x)]) rfl ?_
  refine GO.aload_n dX11_init_0 rfl rfl ?_
  refine GO.objInit dX11_init_1 gw_26 gw_27 gw_28 rfl rfl ?_
  refine GO.aload_n dX11_init_4 rfl rfl ?_
  refine GO.new (ci := 12) (RX0, TX0, 13) tyX0 rfl rfl lays_0 tyX0_ok gw_29 gw_30 gw_2 rfl rfl dX11_init_5 (fun o1 K2 V8 hq3 hK4 hE5 h6 _ hV7 => ?_)
  have h9 := (by rw [hK4, updK_ne (K_old h_x hq3)]; exact h_x : K2 x = some (0, 22))
  have h10 := KE.nw KE.rf h_x hq3
  refine GO.dup dX11_init_8 rfl ?_
  refine GO.callI (N := mX0_init) dX11_init_9 gI_RX11_11 rfl (t_X0_init h6) rfl [.ref o1, .ref x] rfl rfl (Nat.le_of_ble_eq_true rfl) rfl (k_vx fun K13 V15 h14 hE12 hF11 => ?_)
  have h16 := h14.2 _ _ (K_ne h9 h6 (by decide)) h9
  have h17 := h14.1.1
  have q18 : vi V15 o1 0 = 0 := h14.1.2
  refine GO.putRF rfl rfl (by decide +kernel) h16 fp_raw_fp_RX11_12 rfl rfl dX11_init_12 (fun V20 e19 => ?_)
  refine GO.aload_n dX11_init_15 rfl rfl ?_
  refine GO.new (ci := 13) (RX1, TX1, 13) tyX1 rfl rfl lays_1 tyX1_ok gw_90 gw_91 gw_4 rfl rfl dX11_init_16 (fun o21 K22 V28 hq23 hK24 hE25 h26 _ hV27 => ?_)
  have h29 := (by rw [hK24, updK_ne (K_old h16 hq23)]; exact h16 : K22 x = some (0, 22))
  have h30 := hE25.obj (by decide) h17
  have h31 := KE.nw (KE.call (KE.new KE.rf hq3 hK4) h14.2 h10) h16 hq23
  refine GO.dup dX11_init_19 rfl ?_
  refine GO.callN (N := mX1_init) dX11_init_20 rfl gn_nest rfl rfl (t_X1_init h26) rfl [.ref o21, .ref x] rfl rfl (Nat.le_of_ble_eq_true rfl) rfl (k_vx fun K34 V36 h35 hE33 hF32 => ?_)
  have h37 := h35.2 _ _ (K_ne h29 h26 (by decide)) h29
  have h38 := h35.1
  have h39 := hE33.obj (by decide) h30
  refine GO.putRF rfl rfl (by decide +kernel) h37 fp_raw_fp_RX11_19 rfl rfl dX11_init_23 (fun V41 e40 => ?_)
  refine GO.aload_n dX11_init_26 rfl rfl ?_
  refine GO.new (ci := 17) (RX6, TX6, 10) tyX6 rfl rfl lays_5 tyX6_ok gw_172 gw_173 gw_7 rfl rfl dX11_init_27 (fun o42 K43 V49 hq44 hK45 hE46 h47 _ hV48 => ?_)
  have h50 := (by rw [hK45, updK_ne (K_old h37 hq44)]; exact h37 : K43 x = some (0, 22))
  have h51 := hE46.obj (by decide) h39
  have h52 := hE46.obj (by decide) h38
  have h53 := KE.nw (KE.call (KE.new (KE.call (KE.new KE.rf hq3 hK4) h14.2 h10) hq23 hK24) h35.2 h31) h37 hq44
  refine GO.dup dX11_init_30 rfl ?_
  refine GO.callI (N := mX6_init) dX11_init_31 gI_RX11_25 rfl (t_X6_init h47) rfl [.ref o42, .ref x] rfl rfl (Nat.le_of_ble_eq_true rfl) rfl (k_vx fun K56 V58 h57 hE55 hF54 => ?_)
  have h59 := h57.2 _ _ (K_ne h50 h47 (by decide)) h50
  have h60 := h57.1
  have h61 := hE55.obj (by decide) h51
  have h62 := hE55.obj (by decide) h52
  refine GO.putRF rfl rfl (by decide +kernel) h59 fp_raw_fp_RX11_26 rfl rfl dX11_init_34 (fun V64 e63 => ?_)
  refine GO.aload_n dX11_init_37 rfl rfl ?_
  refine GO.bipush dX11_init_38 rfl ?_
  refine GO.newQ 4 9 2 rfl rfl gw_219 (List.mem_of_getElem? (i := 0) rfl) rfl rfl (Or.inr rfl) rfl rfl rfl dX11_init_40 (fun o65 K66 V72 hq67 hK68 hE69 h70 _ hV71 => ?_)
  have h73 := (by rw [hK68, updK_ne (K_old h59 hq67)]; exact h59 : K66 x = some (0, 22))
  have h74 := hE69.obj (by decide) h61
  have h75 := hE69.obj (by decide) h62
  have h76 := hE69.obj (by decide) h60
  have h77 := KE.nw (KE.call (KE.new (KE.call (KE.new (KE.call (KE.new KE.rf hq3 hK4) h14.2 h10) hq23 hK24) h35.2 h31) hq44 hK45) h57.2 h53) h59 hq67
  refine GO.putRF rfl rfl (by decide +kernel) h73 fp_raw_fp_RX11_32 rfl rfl dX11_init_43 (fun V79 e78 => ?_)
  refine GO.aload_n dX11_init_46 rfl rfl ?_
  refine GO.iconst dX11_init_47 ?_
  refine GO.putRW rfl (by decide +kernel) h73 fp_raw_fp_RX11_36 rfl rfl dX11_init_48 (fun V81 e80 => ?_)
  refine GO.aload_n dX11_init_51 rfl rfl ?_
  refine GO.bipush dX11_init_52 rfl ?_
  refine GO.newQ 5 60 3 rfl rfl gw_221 (List.mem_of_getElem? (i := 1) rfl) rfl rfl (Or.inr rfl) rfl rfl rfl dX11_init_54 (fun o82 K83 V89 hq84 hK85 hE86 h87 _ hV88 => ?_)
  have h90 := (by rw [hK85, updK_ne (K_old h73 hq84)]; exact h73 : K83 x = some (0, 22))
  have h91 := hE86.obj (by decide) h74
  have h92 := hE86.obj (by decide) h75
  have h93 := hE86.obj (by decide) h76
  have h94 := hE86.arr h70
  have h95 := KE.nw (KE.new (KE.call (KE.new (KE.call (KE.new (KE.call (KE.new KE.rf hq3 hK4) h14.2 h10) hq23 hK24) h35.2 h31) hq44 hK45) h57.2 h53) hq67 hK68) h73 hq84
  refine GO.putRF rfl rfl (by decide +kernel) h90 fp_raw_fp_RX11_42 rfl rfl dX11_init_57 (fun V97 e96 => ?_)
  refine GO.aload_n dX11_init_60 rfl rfl ?_
  refine GO.iconst dX11_init_61 ?_
  refine GO.putRW rfl (by decide +kernel) h90 fp_raw_fp_RX11_46 rfl rfl dX11_init_62 (fun V99 e98 => ?_)
  refine GO.aload_n dX11_init_65 rfl rfl ?_
  refine GO.bipush dX11_init_66 rfl ?_
  refine GO.newQ 6 100 9 rfl rfl gw_223 (List.mem_of_getElem? (i := 2) rfl) rfl rfl (Or.inr rfl) rfl rfl rfl dX11_init_68 (fun o100 K101 V107 hq102 hK103 hE104 h105 _ hV106 => ?_)
  have h108 := (by rw [hK103, updK_ne (K_old h90 hq102)]; exact h90 : K101 x = some (0, 22))
  have h109 := hE104.obj (by decide) h91
  have h110 := hE104.obj (by decide) h92
  have h111 := hE104.obj (by decide) h93
  have h112 := hE104.arr h94
  have h113 := hE104.arr h87
  have h114 := KE.nw (KE.new (KE.new (KE.call (KE.new (KE.call (KE.new (KE.call (KE.new KE.rf hq3 hK4) h14.2 h10) hq23 hK24) h35.2 h31) hq44 hK45) h57.2 h53) hq67 hK68) hq84 hK85) h90 hq102
  refine GO.putRF rfl rfl (by decide +kernel) h108 fp_raw_fp_RX11_51 rfl rfl dX11_init_71 (fun V116 e115 => ?_)
  refine GO.aload_n dX11_init_74 rfl rfl ?_
  refine GO.iconst dX11_init_75 ?_
  refine GO.putRW rfl (by decide +kernel) h108 fp_raw_fp_RX11_55 rfl rfl dX11_init_76 (fun V118 e117 => ?_)
  refine GO.aload_n dX11_init_79 rfl rfl ?_
  refine GO.bipush dX11_init_80 rfl ?_
  refine GO.newQ 7 10 6 rfl rfl gw_225 (List.mem_of_getElem? (i := 3) rfl) rfl rfl (Or.inr rfl) rfl rfl rfl dX11_init_82 (fun o119 K120 V126 hq121 hK122 hE123 h124 _ hV125 => ?_)
  have h127 := (by rw [hK122, updK_ne (K_old h108 hq121)]; exact h108 : K120 x = some (0, 22))
  have h128 := hE123.obj (by decide) h109
  have h129 := hE123.obj (by decide) h110
  have h130 := hE123.obj (by decide) h111
  have h131 := hE123.arr h112
  have h132 := hE123.arr h113
  have h133 := hE123.arr h105
  have h134 := KE.nw (KE.new (KE.new (KE.new (KE.call (KE.new (KE.call (KE.new (KE.call (KE.new KE.rf hq3 hK4) h14.2 h10) hq23 hK24) h35.2 h31) hq44 hK45) h57.2 h53) hq67 hK68) hq84 hK85) hq102 hK103) h108 hq121
  refine GO.putRF rfl rfl (by decide +kernel) h127 fp_raw_fp_RX11_60 rfl rfl dX11_init_85 (fun V136 e135 => ?_)
  refine GO.aload_n dX11_init_88 rfl rfl ?_
  refine GO.iconst dX11_init_89 ?_
  refine GO.putRW rfl (by decide +kernel) h127 fp_raw_fp_RX11_64 rfl rfl dX11_init_90 (fun V138 e137 => ?_)
  refine GO.aload_n dX11_init_93 rfl rfl ?_
  refine GO.new (ci := 19) (RX8, TX8, 4) tyX8 rfl rfl lays_7 tyX8_ok gw_227 gw_99 gw_5 rfl rfl dX11_init_94 (fun o139 K140 V146 hq141 hK142 hE143 h144 _ hV145 => ?_)
  have h147 := (by rw [hK142, updK_ne (K_old h127 hq141)]; exact h127 : K140 x = some (0, 22))
  have h148 := hE143.obj (by decide) h128
  have h149 := hE143.obj (by decide) h129
  have h150 := hE143.obj (by decide) h130
  have h151 := hE143.arr h131
  have h152 := hE143.arr h132
  have h153 := hE143.arr h133
  have h154 := hE143.arr h124
  have h155 := KE.nw (KE.new (KE.new (KE.new (KE.new (KE.call (KE.new (KE.call (KE.new (KE.call (KE.new KE.rf hq3 hK4) h14.2 h10) hq23 hK24) h35.2 h31) hq44 hK45) h57.2 h53) hq67 hK68) hq84 hK85) hq102 hK103) hq121 hK122) h127 hq141
  refine GO.dup dX11_init_97 rfl ?_
  refine GO.iconst dX11_init_98 ?_
  refine GO.bipush dX11_init_99 rfl ?_
  refine GO.callI (N := mX8_init_k27) dX11_init_101 gI_RX11_69 rfl (t_X8_init_k27 h144 (ir_c rfl) (ir_c rfl) (by omega) (by omega)) rfl [.ref o139, .ref x] rfl rfl (Nat.le_of_ble_eq_true rfl) rfl (k_vx fun K158 V160 h159 hE157 hF156 => ?_)
  have h161 := h159.2 _ _ (K_ne h147 h144 (by decide)) h147
  have h162 := h159.1.1
  have h163 := hE157.obj (by decide) h148
  have h164 := hE157.obj (by decide) h149
  have h165 := hE157.obj (by decide) h150
  have h166 := hE157.arr h151
  have h167 := hE157.arr h152
  have h168 := hE157.arr h153
  have h169 := hE157.arr h154
  have q170 : vi V160 o139 3 = 0 := h159.1.2
  refine GO.putRF rfl rfl (by decide +kernel) h161 fp_raw_fp_RX11_72 rfl rfl dX11_init_104 (fun V172 e171 => ?_)
  refine GO.aload_n dX11_init_107 rfl rfl ?_
  refine GO.new (ci := 19) (RX8, TX8, 4) tyX8 rfl rfl lays_7 tyX8_ok gw_227 gw_99 gw_5 rfl rfl dX11_init_108 (fun o173 K174 V180 hq175 hK176 hE177 h178 _ hV179 => ?_)
  have h181 := (by rw [hK176, updK_ne (K_old h161 hq175)]; exact h161 : K174 x = some (0, 22))
  have h182 := hE177.obj (by decide) h163
  have h183 := hE177.obj (by decide) h164
  have h184 := hE177.obj (by decide) h165
  have h185 := hE177.arr h166
  have h186 := hE177.arr h167
  have h187 := hE177.arr h168
  have h188 := hE177.arr h169
  have h189 := hE177.obj (by decide) h162
  have h190 := KE.nw (KE.call (KE.new (KE.new (KE.new (KE.new (KE.new (KE.call (KE.new (KE.call (KE.new (KE.call (KE.new KE.rf hq3 hK4) h14.2 h10) hq23 hK24) h35.2 h31) hq44 hK45) h57.2 h53) hq67 hK68) hq84 hK85) hq102 hK103) hq121 hK122) hq141 hK142) h159.2 h155) h161 hq175
  refine GO.dup dX11_init_111 rfl ?_
  refine GO.iconst dX11_init_112 ?_
  refine GO.bipush dX11_init_113 rfl ?_
  refine GO.callI (N := mX8_init_k28) dX11_init_115 gI_RX11_69 rfl (t_X8_init_k28 h178 (ir_c rfl) (ir_c rfl) (by omega) (by omega)) rfl [.ref o173, .ref x] rfl rfl (Nat.le_of_ble_eq_true rfl) rfl (k_vx fun K193 V195 h194 hE192 hF191 => ?_)
  have h196 := h194.2 _ _ (K_ne h181 h178 (by decide)) h181
  have h197 := h194.1.1
  have h198 := hE192.obj (by decide) h182
  have h199 := hE192.obj (by decide) h183
  have h200 := hE192.obj (by decide) h184
  have h201 := hE192.arr h185
  have h202 := hE192.arr h186
  have h203 := hE192.arr h187
  have h204 := hE192.arr h188
  have h205 := hE192.obj (by decide) h189
  have q206 : vi V195 o173 3 = 0 := h194.1.2
  refine GO.putRF rfl rfl (by decide +kernel) h196 fp_raw_fp_RX11_76 rfl rfl dX11_init_118 (fun V208 e207 => ?_)
  refine GO.aload_n dX11_init_121 rfl rfl ?_
  refine GO.new (ci := 19) (RX8, TX8, 4) tyX8 rfl rfl lays_7 tyX8_ok gw_227 gw_99 gw_5 rfl rfl dX11_init_122 (fun o209 K210 V216 hq211 hK212 hE213 h214 _ hV215 => ?_)
  have h217 := (by rw [hK212, updK_ne (K_old h196 hq211)]; exact h196 : K210 x = some (0, 22))
  have h218 := hE213.obj (by decide) h198
  have h219 := hE213.obj (by decide) h199
  have h220 := hE213.obj (by decide) h200
  have h221 := hE213.arr h201
  have h222 := hE213.arr h202
  have h223 := hE213.arr h203
  have h224 := hE213.arr h204
  have h225 := hE213.obj (by decide) h205
  have h226 := hE213.obj (by decide) h197
  have h227 := KE.nw (KE.call (KE.new (KE.call (KE.new (KE.new (KE.new (KE.new (KE.new (KE.call (KE.new (KE.call (KE.new (KE.call (KE.new KE.rf hq3 hK4) h14.2 h10) hq23 hK24) h35.2 h31) hq44 hK45) h57.2 h53) hq67 hK68) hq84 hK85) hq102 hK103) hq121 hK122) hq141 hK142) h159.2 h155) hq175 hK176) h194.2 h190) h196 hq211
  refine GO.dup dX11_init_125 rfl ?_
  refine GO.iconst dX11_init_126 ?_
  refine GO.bipush dX11_init_127 rfl ?_
  refine GO.callI (N := mX8_init_k29) dX11_init_129 gI_RX11_69 rfl (t_X8_init_k29 h214 (ir_c rfl) (ir_c rfl) (by omega) (by omega)) rfl [.ref o209, .ref x] rfl rfl (Nat.le_of_ble_eq_true rfl) rfl (k_vx fun K230 V232 h231 hE229 hF228 => ?_)
  have h233 := h231.2 _ _ (K_ne h217 h214 (by decide)) h217
  have h234 := h231.1.1
  have h235 := hE229.obj (by decide) h218
  have h236 := hE229.obj (by decide) h219
  have h237 := hE229.obj (by decide) h220
  have h238 := hE229.arr h221
  have h239 := hE229.arr h222
  have h240 := hE229.arr h223
  have h241 := hE229.arr h224
  have h242 := hE229.obj (by decide) h225
  have h243 := hE229.obj (by decide) h226
  have q244 : vi V232 o209 3 = 0 := h231.1.2
  refine GO.putRF rfl rfl (by decide +kernel) h233 fp_raw_fp_RX11_79 rfl rfl dX11_init_132 (fun V246 e245 => ?_)
  refine GO.aload_n dX11_init_135 rfl rfl ?_
  refine GO.new (ci := 19) (RX8, TX8, 4) tyX8 rfl rfl lays_7 tyX8_ok gw_227 gw_99 gw_5 rfl rfl dX11_init_136 (fun o247 K248 V254 hq249 hK250 hE251 h252 _ hV253 => ?_)
  have h255 := (by rw [hK250, updK_ne (K_old h233 hq249)]; exact h233 : K248 x = some (0, 22))
  have h256 := hE251.obj (by decide) h235
  have h257 := hE251.obj (by decide) h236
  have h258 := hE251.obj (by decide) h237
  have h259 := hE251.arr h238
  have h260 := hE251.arr h239
  have h261 := hE251.arr h240
  have h262 := hE251.arr h241
  have h263 := hE251.obj (by decide) h242
  have h264 := hE251.obj (by decide) h243
  have h265 := hE251.obj (by decide) h234
  have h266 := KE.nw (KE.call (KE.new (KE.call (KE.new (KE.call (KE.new (KE.new (KE.new (KE.new (KE.new (KE.call (KE.new (KE.call (KE.new (KE.call (KE.new KE.rf hq3 hK4) h14.2 h10) hq23 hK24) h35.2 h31) hq44 hK45) h57.2 h53) hq67 hK68) hq84 hK85) hq102 hK103) hq121 hK122) hq141 hK142) h159.2 h155) hq175 hK176) h194.2 h190) hq211 hK212) h231.2 h227) h233 hq249
  refine GO.dup dX11_init_139 rfl ?_
  refine GO.iconst dX11_init_140 ?_
  refine GO.sipush dX11_init_141 rfl ?_
  refine GO.callI (N := mX8_init_k26) dX11_init_144 gI_RX11_69 rfl (t_X8_init_k26 h252 (ir_c rfl) (ir_c rfl) (by omega) (by omega)) rfl [.ref o247, .ref x] rfl rfl (Nat.le_of_ble_eq_true rfl) rfl (k_vx fun K269 V271 h270 hE268 hF267 => ?_)
  have h272 := h270.2 _ _ (K_ne h255 h252 (by decide)) h255
  have h273 := h270.1.1
  have h274 := hE268.obj (by decide) h256
  have h275 := hE268.obj (by decide) h257
  have h276 := hE268.obj (by decide) h258
  have h277 := hE268.arr h259
  have h278 := hE268.arr h260
  have h279 := hE268.arr h261
  have h280 := hE268.arr h262
  have h281 := hE268.obj (by decide) h263
  have h282 := hE268.obj (by decide) h264
  have h283 := hE268.obj (by decide) h265
  have q284 : vi V271 o247 3 = 0 := h270.1.2
  refine GO.putRF rfl rfl (by decide +kernel) h272 fp_raw_fp_RX11_82 rfl rfl dX11_init_147 (fun V286 e285 => ?_)
  refine GO.aload_n dX11_init_150 rfl rfl ?_
  refine GO.new (ci := 19) (RX8, TX8, 4) tyX8 rfl rfl lays_7 tyX8_ok gw_227 gw_99 gw_5 rfl rfl dX11_init_151 (fun o287 K288 V294 hq289 hK290 hE291 h292 _ hV293 => ?_)
  have h295 := (by rw [hK290, updK_ne (K_old h272 hq289)]; exact h272 : K288 x = some (0, 22))
  have h296 := hE291.obj (by decide) h274
  have h297 := hE291.obj (by decide) h275
  have h298 := hE291.obj (by decide) h276
  have h299 := hE291.arr h277
  have h300 := hE291.arr h278
  have h301 := hE291.arr h279
  have h302 := hE291.arr h280
  have h303 := hE291.obj (by decide) h281
  have h304 := hE291.obj (by decide) h282
  have h305 := hE291.obj (by decide) h283
  have h306 := hE291.obj (by decide) h273
  have h307 := KE.nw (KE.call (KE.new (KE.call (KE.new (KE.call (KE.new (KE.call (KE.new (KE.new (KE.new (KE.new (KE.new (KE.call (KE.new (KE.call (KE.new (KE.call (KE.new KE.rf hq3 hK4) h14.2 h10) hq23 hK24) h35.2 h31) hq44 hK45) h57.2 h53) hq67 hK68) hq84 hK85) hq102 hK103) hq121 hK122) hq141 hK142) h159.2 h155) hq175 hK176) h194.2 h190) hq211 hK212) h231.2 h227) hq249 hK250) h270.2 h266) h272 hq289
  refine GO.dup dX11_init_154 rfl ?_
  refine GO.iconst dX11_init_155 ?_
  refine GO.sipush dX11_init_156 rfl ?_
  refine GO.callI (N := mX8_init_k30) dX11_init_159 gI_RX11_69 rfl (t_X8_init_k30 h292 (ir_c rfl) (ir_c rfl) (by omega) (by omega)) rfl [.ref o287, .ref x] rfl rfl (Nat.le_of_ble_eq_true rfl) rfl (k_vx fun K310 V312 h311 hE309 hF308 => ?_)
  have h313 := h311.2 _ _ (K_ne h295 h292 (by decide)) h295
  have h314 := h311.1.1
  have h315 := hE309.obj (by decide) h296
  have h316 := hE309.obj (by decide) h297
  have h317 := hE309.obj (by decide) h298
  have h318 := hE309.arr h299
  have h319 := hE309.arr h300
  have h320 := hE309.arr h301
  have h321 := hE309.arr h302
  have h322 := hE309.obj (by decide) h303
  have h323 := hE309.obj (by decide) h304
  have h324 := hE309.obj (by decide) h305
  have h325 := hE309.obj (by decide) h306
  have q326 : vi V312 o287 3 = 0 := h311.1.2
  refine GO.putRF rfl rfl (by decide +kernel) h313 fp_raw_fp_RX11_85 rfl rfl dX11_init_162 (fun V328 e327 => ?_)
  refine GO.aload_n dX11_init_165 rfl rfl ?_
  refine GO.new (ci := 19) (RX8, TX8, 4) tyX8 rfl rfl lays_7 tyX8_ok gw_227 gw_99 gw_5 rfl rfl dX11_init_166 (fun o329 K330 V336 hq331 hK332 hE333 h334 _ hV335 => ?_)
  have h337 := (by rw [hK332, updK_ne (K_old h313 hq331)]; exact h313 : K330 x = some (0, 22))
  have h338 := hE333.obj (by decide) h315
  have h339 := hE333.obj (by decide) h316
  have h340 := hE333.obj (by decide) h317
  have h341 := hE333.arr h318
  have h342 := hE333.arr h319
  have h343 := hE333.arr h320
  have h344 := hE333.arr h321
  have h345 := hE333.obj (by decide) h322
  have h346 := hE333.obj (by decide) h323
  have h347 := hE333.obj (by decide) h324
  have h348 := hE333.obj (by decide) h325
  have h349 := hE333.obj (by decide) h314
  have h350 := KE.nw (KE.call (KE.new (KE.call (KE.new (KE.call (KE.new (KE.call (KE.new (KE.call (KE.new (KE.new (KE.new (KE.new (KE.new (KE.call (KE.new (KE.call (KE.new (KE.call (KE.new KE.rf hq3 hK4) h14.2 h10) hq23 hK24) h35.2 h31) hq44 hK45) h57.2 h53) hq67 hK68) hq84 hK85) hq102 hK103) hq121 hK122) hq141 hK142) h159.2 h155) hq175 hK176) h194.2 h190) hq211 hK212) h231.2 h227) hq249 hK250) h270.2 h266) hq289 hK290) h311.2 h307) h313 hq331
  refine GO.dup dX11_init_169 rfl ?_
  refine GO.iconst dX11_init_170 ?_
  refine GO.bipush dX11_init_171 rfl ?_
  refine GO.callI (N := mX8_init_k25) dX11_init_173 gI_RX11_69 rfl (t_X8_init_k25 h334 (ir_c rfl) (ir_c rfl) (by omega) (by omega)) rfl [.ref o329, .ref x] rfl rfl (Nat.le_of_ble_eq_true rfl) rfl (k_vx fun K353 V355 h354 hE352 hF351 => ?_)
  have h356 := h354.2 _ _ (K_ne h337 h334 (by decide)) h337
  have h357 := h354.1.1
  have h358 := hE352.obj (by decide) h338
  have h359 := hE352.obj (by decide) h339
  have h360 := hE352.obj (by decide) h340
  have h361 := hE352.arr h341
  have h362 := hE352.arr h342
  have h363 := hE352.arr h343
  have h364 := hE352.arr h344
  have h365 := hE352.obj (by decide) h345
  have h366 := hE352.obj (by decide) h346
  have h367 := hE352.obj (by decide) h347
  have h368 := hE352.obj (by decide) h348
  have h369 := hE352.obj (by decide) h349
  have q370 : vi V355 o329 3 = 0 := h354.1.2
  refine GO.putRF rfl rfl (by decide +kernel) h356 fp_raw_fp_RX11_88 rfl rfl dX11_init_176 (fun V372 e371 => ?_)
  refine GO.aload_n dX11_init_179 rfl rfl ?_
  refine GO.new (ci := 19) (RX8, TX8, 4) tyX8 rfl rfl lays_7 tyX8_ok gw_227 gw_99 gw_5 rfl rfl dX11_init_180 (fun o373 K374 V380 hq375 hK376 hE377 h378 _ hV379 => ?_)
  have h381 := (by rw [hK376, updK_ne (K_old h356 hq375)]; exact h356 : K374 x = some (0, 22))
  have h382 := hE377.obj (by decide) h358
  have h383 := hE377.obj (by decide) h359
  have h384 := hE377.obj (by decide) h360
  have h385 := hE377.arr h361
  have h386 := hE377.arr h362
  have h387 := hE377.arr h363
  have h388 := hE377.arr h364
  have h389 := hE377.obj (by decide) h365
  have h390 := hE377.obj (by decide) h366
  have h391 := hE377.obj (by decide) h367
  have h392 := hE377.obj (by decide) h368
  have h393 := hE377.obj (by decide) h369
  have h394 := hE377.obj (by decide) h357
  have h395 := KE.nw (KE.call (KE.new (KE.call (KE.new (KE.call (KE.new (KE.call (KE.new (KE.call (KE.new (KE.call (KE.new (KE.new (KE.new (KE.new (KE.new (KE.call (KE.new (KE.call (KE.new (KE.call (KE.new KE.rf hq3 hK4) h14.2 h10) hq23 hK24) h35.2 h31) hq44 hK45) h57.2 h53) hq67 hK68) hq84 hK85) hq102 hK103) hq121 hK122) hq141 hK142) h159.2 h155) hq175 hK176) h194.2 h190) hq211 hK212) h231.2 h227) hq249 hK250) h270.2 h266) hq289 hK290) h311.2 h307) hq331 hK332) h354.2 h350) h356 hq375
  refine GO.dup dX11_init_183 rfl ?_
  refine GO.iconst dX11_init_184 ?_
  refine GO.sipush dX11_init_185 rfl ?_
  refine GO.callI (N := mX8_init_k31) dX11_init_188 gI_RX11_69 rfl (t_X8_init_k31 h378 (ir_c rfl) (ir_c rfl) (by omega) (by omega)) rfl [.ref o373, .ref x] rfl rfl (Nat.le_of_ble_eq_true rfl) rfl (k_vx fun K398 V400 h399 hE397 hF396 => ?_)
  have h401 := h399.2 _ _ (K_ne h381 h378 (by decide)) h381
  have h402 := h399.1.1
  have h403 := hE397.obj (by decide) h382
  have h404 := hE397.obj (by decide) h383
  have h405 := hE397.obj (by decide) h384
  have h406 := hE397.arr h385
  have h407 := hE397.arr h386
  have h408 := hE397.arr h387
  have h409 := hE397.arr h388
  have h410 := hE397.obj (by decide) h389
  have h411 := hE397.obj (by decide) h390
  have h412 := hE397.obj (by decide) h391
  have h413 := hE397.obj (by decide) h392
  have h414 := hE397.obj (by decide) h393
  have h415 := hE397.obj (by decide) h394
  have q416 : vi V400 o373 3 = 0 := h399.1.2
  refine GO.putRF rfl rfl (by decide +kernel) h401 fp_raw_fp_RX11_91 rfl rfl dX11_init_191 (fun V418 e417 => ?_)
  refine GO.aload_n dX11_init_194 rfl rfl ?_
  refine GO.bipush dX11_init_195 rfl ?_
  refine GO.newT (atype := .int) 145 11 gw_89 rfl rfl (fun _ _ h => h) rfl rfl rfl (Or.inr rfl) (fun _ => okv_df rfl rfl rfl) rfl rfl dX11_init_197 (fun o419 K420 V426 hq421 hK422 hE423 h424 _ hV425 => ?_)
  have h427 := (by rw [hK422, updK_ne (K_old h401 hq421)]; exact h401 : K420 x = some (0, 22))
  have h428 := hE423.obj (by decide) h403
  have h429 := hE423.obj (by decide) h404
  have h430 := hE423.obj (by decide) h405
  have h431 := hE423.arr h406
  have h432 := hE423.arr h407
  have h433 := hE423.arr h408
  have h434 := hE423.arr h409
  have h435 := hE423.obj (by decide) h410
  have h436 := hE423.obj (by decide) h411
  have h437 := hE423.obj (by decide) h412
  have h438 := hE423.obj (by decide) h413
  have h439 := hE423.obj (by decide) h414
  have h440 := hE423.obj (by decide) h415
  have h441 := hE423.obj (by decide) h402
  have h442 := KE.nw (KE.call (KE.new (KE.call (KE.new (KE.call (KE.new (KE.call (KE.new (KE.call (KE.new (KE.call (KE.new (KE.call (KE.new (KE.new (KE.new (KE.new (KE.new (KE.call (KE.new (KE.call (KE.new (KE.call (KE.new KE.rf hq3 hK4) h14.2 h10) hq23 hK24) h35.2 h31) hq44 hK45) h57.2 h53) hq67 hK68) hq84 hK85) hq102 hK103) hq121 hK122) hq141 hK142) h159.2 h155) hq175 hK176) h194.2 h190) hq211 hK212) h231.2 h227) hq249 hK250) h270.2 h266) hq289 hK290) h311.2 h307) hq331 hK332) h354.2 h350) hq375 hK376) h399.2 h395) h401 hq421
  refine GO.putRF rfl rfl (by decide +kernel) h427 fp_raw_fp_RX11_94 rfl rfl dX11_init_199 (fun V444 e443 => ?_)
  refine GO.aload_n dX11_init_202 rfl rfl ?_
  refine GO.bipush dX11_init_203 rfl ?_
  refine GO.newT (atype := .long) 1 8 gw_294 rfl rfl (fun _ _ h => h) rfl rfl rfl (Or.inr rfl) (fun _ => ⟨0, rfl⟩) rfl rfl dX11_init_205 (fun o445 K446 V452 hq447 hK448 hE449 h450 _ hV451 => ?_)
  have h453 := (by rw [hK448, updK_ne (K_old h427 hq447)]; exact h427 : K446 x = some (0, 22))
  have h454 := hE449.obj (by decide) h428
  have h455 := hE449.obj (by decide) h429
  have h456 := hE449.obj (by decide) h430
  have h457 := hE449.arr h431
  have h458 := hE449.arr h432
  have h459 := hE449.arr h433
  have h460 := hE449.arr h434
  have h461 := hE449.obj (by decide) h435
  have h462 := hE449.obj (by decide) h436
  have h463 := hE449.obj (by decide) h437
  have h464 := hE449.obj (by decide) h438
  have h465 := hE449.obj (by decide) h439
  have h466 := hE449.obj (by decide) h440
  have h467 := hE449.obj (by decide) h441
  have h468 := hE449.arr h424
  have h469 := KE.nw (KE.new (KE.call (KE.new (KE.call (KE.new (KE.call (KE.new (KE.call (KE.new (KE.call (KE.new (KE.call (KE.new (KE.call (KE.new (KE.new (KE.new (KE.new (KE.new (KE.call (KE.new (KE.call (KE.new (KE.call (KE.new KE.rf hq3 hK4) h14.2 h10) hq23 hK24) h35.2 h31) hq44 hK45) h57.2 h53) hq67 hK68) hq84 hK85) hq102 hK103) hq121 hK122) hq141 hK142) h159.2 h155) hq175 hK176) h194.2 h190) hq211 hK212) h231.2 h227) hq249 hK250) h270.2 h266) hq289 hK290) h311.2 h307) hq331 hK332) h354.2 h350) hq375 hK376) h399.2 h395) hq421 hK422) h427 hq447
  refine GO.putRF rfl rfl (by decide +kernel) h453 fp_raw_fp_RX11_98 rfl rfl dX11_init_207 (fun V471 e470 => ?_)
  refine GO.aload_n dX11_init_210 rfl rfl ?_
  refine GO.getRaw h453 fl_raw_fl_RX11_94 (Eq.trans (uq_ne e470 (Or.inr (by decide))) (Eq.trans (congrFun (hV451 _ (K_old h427 hq447)) _) (uq_at e443))) dX11_init_211 ?_
  refine GO.bipush dX11_init_214 rfl ?_
  refine GO.callS (N := mX4_fill_t145) dX11_init_216 gS_RX11_102 (t_X4_fill_t145 h468 (ir_c rfl)) rfl [] rfl rfl (Nat.le_of_ble_eq_true rfl) rfl (k_vs fun V474 h473 hF472 => ?_)
  refine GO.aload_n dX11_init_219 rfl rfl ?_
  refine GO.getRaw h453 fl_raw_fl_RX11_94 (Eq.trans (hF472 _ _ _ h453 h453 (by decide +kernel)) (Eq.trans (uq_ne e470 (Or.inr (by decide))) (Eq.trans (congrFun (hV451 _ (K_old h427 hq447)) _) (uq_at e443)))) dX11_init_220 ?_
  refine GO.bipush dX11_init_223 rfl ?_
  refine GO.bipush dX11_init_225 rfl ?_
  refine GO.callS (N := mX4_put_t145) dX11_init_227 gS_RX11_108 (t_X4_put_t145 h468 (ir_c rfl) (ir_c rfl)) rfl [] rfl rfl (Nat.le_of_ble_eq_true rfl) rfl (k_vs fun V477 h476 hF475 => ?_)
  have raw_put := h476.2
  have rw227 := h476.2
  refine GO.promote (ci := 10) rfl h453 (fun j hj => ?_) (fun K478 e479 hE480 h481 => ?_)
  ·
    have hj : j < 20 := hj
    match j, hj with
    | 0, _ => exact ⟨_, (Eq.trans (hF475 _ _ _ h453 h453 (by decide +kernel)) (Eq.trans (hF472 _ _ _ h453 h453 (by decide +kernel)) (Eq.trans (uq_ne e470 (Or.inr (by decide))) (Eq.trans (congrFun (hV451 _ (K_old h427 hq447)) _) (Eq.trans (uq_ne e443 (Or.inr (by decide))) (Eq.trans (congrFun (hV425 _ (K_old h401 hq421)) _) (Eq.trans (uq_ne e417 (Or.inr (by decide))) (Eq.trans (hF396 _ _ _ h381 h401 (by decide +kernel)) (Eq.trans (congrFun (hV379 _ (K_old h356 hq375)) _) (Eq.trans (uq_ne e371 (Or.inr (by decide))) (Eq.trans (hF351 _ _ _ h337 h356 (by decide +kernel)) (Eq.trans (congrFun (hV335 _ (K_old h313 hq331)) _) (Eq.trans (uq_ne e327 (Or.inr (by decide))) (Eq.trans (hF308 _ _ _ h295 h313 (by decide +kernel)) (Eq.trans (congrFun (hV293 _ (K_old h272 hq289)) _) (Eq.trans (uq_ne e285 (Or.inr (by decide))) (Eq.trans (hF267 _ _ _ h255 h272 (by decide +kernel)) (Eq.trans (congrFun (hV253 _ (K_old h233 hq249)) _) (Eq.trans (uq_ne e245 (Or.inr (by decide))) (Eq.trans (hF228 _ _ _ h217 h233 (by decide +kernel)) (Eq.trans (congrFun (hV215 _ (K_old h196 hq211)) _) (Eq.trans (uq_ne e207 (Or.inr (by decide))) (Eq.trans (hF191 _ _ _ h181 h196 (by decide +kernel)) (Eq.trans (congrFun (hV179 _ (K_old h161 hq175)) _) (Eq.trans (uq_ne e171 (Or.inr (by decide))) (Eq.trans (hF156 _ _ _ h147 h161 (by decide +kernel)) (Eq.trans (congrFun (hV145 _ (K_old h127 hq141)) _) (Eq.trans (uq_ne e137 (Or.inr (by decide))) (Eq.trans (uq_ne e135 (Or.inr (by decide))) (Eq.trans (congrFun (hV125 _ (K_old h108 hq121)) _) (Eq.trans (uq_ne e117 (Or.inr (by decide))) (Eq.trans (uq_ne e115 (Or.inr (by decide))) (Eq.trans (congrFun (hV106 _ (K_old h90 hq102)) _) (Eq.trans (uq_ne e98 (Or.inr (by decide))) (Eq.trans (uq_ne e96 (Or.inr (by decide))) (Eq.trans (congrFun (hV88 _ (K_old h73 hq84)) _) (Eq.trans (uq_ne e80 (Or.inr (by decide))) (Eq.trans (uq_ne e78 (Or.inr (by decide))) (Eq.trans (congrFun (hV71 _ (K_old h59 hq67)) _) (Eq.trans (uq_ne e63 (Or.inr (by decide))) (Eq.trans (hF54 _ _ _ h50 h59 (by decide +kernel)) (Eq.trans (congrFun (hV48 _ (K_old h37 hq44)) _) (Eq.trans (uq_ne e40 (Or.inr (by decide))) (Eq.trans (hF32 _ _ _ h29 h37 (by decide +kernel)) (Eq.trans (congrFun (hV27 _ (K_old h16 hq23)) _) (uq_at e19)))))))))))))))))))))))))))))))))))))))))))))), h454⟩
    | 1, _ => exact ⟨_, (Eq.trans (hF475 _ _ _ h453 h453 (by decide +kernel)) (Eq.trans (hF472 _ _ _ h453 h453 (by decide +kernel)) (Eq.trans (uq_ne e470 (Or.inr (by decide))) (Eq.trans (congrFun (hV451 _ (K_old h427 hq447)) _) (Eq.trans (uq_ne e443 (Or.inr (by decide))) (Eq.trans (congrFun (hV425 _ (K_old h401 hq421)) _) (Eq.trans (uq_ne e417 (Or.inr (by decide))) (Eq.trans (hF396 _ _ _ h381 h401 (by decide +kernel)) (Eq.trans (congrFun (hV379 _ (K_old h356 hq375)) _) (Eq.trans (uq_ne e371 (Or.inr (by decide))) (Eq.trans (hF351 _ _ _ h337 h356 (by decide +kernel)) (Eq.trans (congrFun (hV335 _ (K_old h313 hq331)) _) (Eq.trans (uq_ne e327 (Or.inr (by decide))) (Eq.trans (hF308 _ _ _ h295 h313 (by decide +kernel)) (Eq.trans (congrFun (hV293 _ (K_old h272 hq289)) _) (Eq.trans (uq_ne e285 (Or.inr (by decide))) (Eq.trans (hF267 _ _ _ h255 h272 (by decide +kernel)) (Eq.trans (congrFun (hV253 _ (K_old h233 hq249)) _) (Eq.trans (uq_ne e245 (Or.inr (by decide))) (Eq.trans (hF228 _ _ _ h217 h233 (by decide +kernel)) (Eq.trans (congrFun (hV215 _ (K_old h196 hq211)) _) (Eq.trans (uq_ne e207 (Or.inr (by decide))) (Eq.trans (hF191 _ _ _ h181 h196 (by decide +kernel)) (Eq.trans (congrFun (hV179 _ (K_old h161 hq175)) _) (Eq.trans (uq_ne e171 (Or.inr (by decide))) (Eq.trans (hF156 _ _ _ h147 h161 (by decide +kernel)) (Eq.trans (congrFun (hV145 _ (K_old h127 hq141)) _) (Eq.trans (uq_ne e137 (Or.inr (by decide))) (Eq.trans (uq_ne e135 (Or.inr (by decide))) (Eq.trans (congrFun (hV125 _ (K_old h108 hq121)) _) (Eq.trans (uq_ne e117 (Or.inr (by decide))) (Eq.trans (uq_ne e115 (Or.inr (by decide))) (Eq.trans (congrFun (hV106 _ (K_old h90 hq102)) _) (Eq.trans (uq_ne e98 (Or.inr (by decide))) (Eq.trans (uq_ne e96 (Or.inr (by decide))) (Eq.trans (congrFun (hV88 _ (K_old h73 hq84)) _) (Eq.trans (uq_ne e80 (Or.inr (by decide))) (Eq.trans (uq_ne e78 (Or.inr (by decide))) (Eq.trans (congrFun (hV71 _ (K_old h59 hq67)) _) (Eq.trans (uq_ne e63 (Or.inr (by decide))) (Eq.trans (hF54 _ _ _ h50 h59 (by decide +kernel)) (Eq.trans (congrFun (hV48 _ (K_old h37 hq44)) _) (uq_at e40))))))))))))))))))))))))))))))))))))))))))), h455⟩
    | 2, _ => exact ⟨_, (Eq.trans (hF475 _ _ _ h453 h453 (by decide +kernel)) (Eq.trans (hF472 _ _ _ h453 h453 (by decide +kernel)) (Eq.trans (uq_ne e470 (Or.inr (by decide))) (Eq.trans (congrFun (hV451 _ (K_old h427 hq447)) _) (Eq.trans (uq_ne e443 (Or.inr (by decide))) (Eq.trans (congrFun (hV425 _ (K_old h401 hq421)) _) (Eq.trans (uq_ne e417 (Or.inr (by decide))) (Eq.trans (hF396 _ _ _ h381 h401 (by decide +kernel)) (Eq.trans (congrFun (hV379 _ (K_old h356 hq375)) _) (Eq.trans (uq_ne e371 (Or.inr (by decide))) (Eq.trans (hF351 _ _ _ h337 h356 (by decide +kernel)) (Eq.trans (congrFun (hV335 _ (K_old h313 hq331)) _) (Eq.trans (uq_ne e327 (Or.inr (by decide))) (Eq.trans (hF308 _ _ _ h295 h313 (by decide +kernel)) (Eq.trans (congrFun (hV293 _ (K_old h272 hq289)) _) (Eq.trans (uq_ne e285 (Or.inr (by decide))) (Eq.trans (hF267 _ _ _ h255 h272 (by decide +kernel)) (Eq.trans (congrFun (hV253 _ (K_old h233 hq249)) _) (Eq.trans (uq_ne e245 (Or.inr (by decide))) (Eq.trans (hF228 _ _ _ h217 h233 (by decide +kernel)) (Eq.trans (congrFun (hV215 _ (K_old h196 hq211)) _) (Eq.trans (uq_ne e207 (Or.inr (by decide))) (Eq.trans (hF191 _ _ _ h181 h196 (by decide +kernel)) (Eq.trans (congrFun (hV179 _ (K_old h161 hq175)) _) (Eq.trans (uq_ne e171 (Or.inr (by decide))) (Eq.trans (hF156 _ _ _ h147 h161 (by decide +kernel)) (Eq.trans (congrFun (hV145 _ (K_old h127 hq141)) _) (Eq.trans (uq_ne e137 (Or.inr (by decide))) (Eq.trans (uq_ne e135 (Or.inr (by decide))) (Eq.trans (congrFun (hV125 _ (K_old h108 hq121)) _) (Eq.trans (uq_ne e117 (Or.inr (by decide))) (Eq.trans (uq_ne e115 (Or.inr (by decide))) (Eq.trans (congrFun (hV106 _ (K_old h90 hq102)) _) (Eq.trans (uq_ne e98 (Or.inr (by decide))) (Eq.trans (uq_ne e96 (Or.inr (by decide))) (Eq.trans (congrFun (hV88 _ (K_old h73 hq84)) _) (Eq.trans (uq_ne e80 (Or.inr (by decide))) (Eq.trans (uq_ne e78 (Or.inr (by decide))) (Eq.trans (congrFun (hV71 _ (K_old h59 hq67)) _) (uq_at e63)))))))))))))))))))))))))))))))))))))))), h456⟩
    | 3, _ => exact ⟨_, (Eq.trans (hF475 _ _ _ h453 h453 (by decide +kernel)) (Eq.trans (hF472 _ _ _ h453 h453 (by decide +kernel)) (Eq.trans (uq_ne e470 (Or.inr (by decide))) (Eq.trans (congrFun (hV451 _ (K_old h427 hq447)) _) (Eq.trans (uq_ne e443 (Or.inr (by decide))) (Eq.trans (congrFun (hV425 _ (K_old h401 hq421)) _) (Eq.trans (uq_ne e417 (Or.inr (by decide))) (Eq.trans (hF396 _ _ _ h381 h401 (by decide +kernel)) (Eq.trans (congrFun (hV379 _ (K_old h356 hq375)) _) (Eq.trans (uq_ne e371 (Or.inr (by decide))) (Eq.trans (hF351 _ _ _ h337 h356 (by decide +kernel)) (Eq.trans (congrFun (hV335 _ (K_old h313 hq331)) _) (Eq.trans (uq_ne e327 (Or.inr (by decide))) (Eq.trans (hF308 _ _ _ h295 h313 (by decide +kernel)) (Eq.trans (congrFun (hV293 _ (K_old h272 hq289)) _) (Eq.trans (uq_ne e285 (Or.inr (by decide))) (Eq.trans (hF267 _ _ _ h255 h272 (by decide +kernel)) (Eq.trans (congrFun (hV253 _ (K_old h233 hq249)) _) (Eq.trans (uq_ne e245 (Or.inr (by decide))) (Eq.trans (hF228 _ _ _ h217 h233 (by decide +kernel)) (Eq.trans (congrFun (hV215 _ (K_old h196 hq211)) _) (Eq.trans (uq_ne e207 (Or.inr (by decide))) (Eq.trans (hF191 _ _ _ h181 h196 (by decide +kernel)) (Eq.trans (congrFun (hV179 _ (K_old h161 hq175)) _) (Eq.trans (uq_ne e171 (Or.inr (by decide))) (Eq.trans (hF156 _ _ _ h147 h161 (by decide +kernel)) (Eq.trans (congrFun (hV145 _ (K_old h127 hq141)) _) (Eq.trans (uq_ne e137 (Or.inr (by decide))) (Eq.trans (uq_ne e135 (Or.inr (by decide))) (Eq.trans (congrFun (hV125 _ (K_old h108 hq121)) _) (Eq.trans (uq_ne e117 (Or.inr (by decide))) (Eq.trans (uq_ne e115 (Or.inr (by decide))) (Eq.trans (congrFun (hV106 _ (K_old h90 hq102)) _) (Eq.trans (uq_ne e98 (Or.inr (by decide))) (Eq.trans (uq_ne e96 (Or.inr (by decide))) (Eq.trans (congrFun (hV88 _ (K_old h73 hq84)) _) (Eq.trans (uq_ne e80 (Or.inr (by decide))) (uq_at e78)))))))))))))))))))))))))))))))))))))), ⟨_, h457⟩⟩
    | 4, _ => exact okv_at (Eq.trans (hF475 _ _ _ h453 h453 (by decide +kernel)) (Eq.trans (hF472 _ _ _ h453 h453 (by decide +kernel)) (Eq.trans (uq_ne e470 (Or.inr (by decide))) (Eq.trans (congrFun (hV451 _ (K_old h427 hq447)) _) (Eq.trans (uq_ne e443 (Or.inr (by decide))) (Eq.trans (congrFun (hV425 _ (K_old h401 hq421)) _) (Eq.trans (uq_ne e417 (Or.inr (by decide))) (Eq.trans (hF396 _ _ _ h381 h401 (by decide +kernel)) (Eq.trans (congrFun (hV379 _ (K_old h356 hq375)) _) (Eq.trans (uq_ne e371 (Or.inr (by decide))) (Eq.trans (hF351 _ _ _ h337 h356 (by decide +kernel)) (Eq.trans (congrFun (hV335 _ (K_old h313 hq331)) _) (Eq.trans (uq_ne e327 (Or.inr (by decide))) (Eq.trans (hF308 _ _ _ h295 h313 (by decide +kernel)) (Eq.trans (congrFun (hV293 _ (K_old h272 hq289)) _) (Eq.trans (uq_ne e285 (Or.inr (by decide))) (Eq.trans (hF267 _ _ _ h255 h272 (by decide +kernel)) (Eq.trans (congrFun (hV253 _ (K_old h233 hq249)) _) (Eq.trans (uq_ne e245 (Or.inr (by decide))) (Eq.trans (hF228 _ _ _ h217 h233 (by decide +kernel)) (Eq.trans (congrFun (hV215 _ (K_old h196 hq211)) _) (Eq.trans (uq_ne e207 (Or.inr (by decide))) (Eq.trans (hF191 _ _ _ h181 h196 (by decide +kernel)) (Eq.trans (congrFun (hV179 _ (K_old h161 hq175)) _) (Eq.trans (uq_ne e171 (Or.inr (by decide))) (Eq.trans (hF156 _ _ _ h147 h161 (by decide +kernel)) (Eq.trans (congrFun (hV145 _ (K_old h127 hq141)) _) (Eq.trans (uq_ne e137 (Or.inr (by decide))) (Eq.trans (uq_ne e135 (Or.inr (by decide))) (Eq.trans (congrFun (hV125 _ (K_old h108 hq121)) _) (Eq.trans (uq_ne e117 (Or.inr (by decide))) (Eq.trans (uq_ne e115 (Or.inr (by decide))) (Eq.trans (congrFun (hV106 _ (K_old h90 hq102)) _) (Eq.trans (uq_ne e98 (Or.inr (by decide))) (Eq.trans (uq_ne e96 (Or.inr (by decide))) (Eq.trans (congrFun (hV88 _ (K_old h73 hq84)) _) (uq_at e80))))))))))))))))))))))))))))))))))))) (ir_c rfl) (by omega) (by omega)
    | 5, _ => exact ⟨_, (Eq.trans (hF475 _ _ _ h453 h453 (by decide +kernel)) (Eq.trans (hF472 _ _ _ h453 h453 (by decide +kernel)) (Eq.trans (uq_ne e470 (Or.inr (by decide))) (Eq.trans (congrFun (hV451 _ (K_old h427 hq447)) _) (Eq.trans (uq_ne e443 (Or.inr (by decide))) (Eq.trans (congrFun (hV425 _ (K_old h401 hq421)) _) (Eq.trans (uq_ne e417 (Or.inr (by decide))) (Eq.trans (hF396 _ _ _ h381 h401 (by decide +kernel)) (Eq.trans (congrFun (hV379 _ (K_old h356 hq375)) _) (Eq.trans (uq_ne e371 (Or.inr (by decide))) (Eq.trans (hF351 _ _ _ h337 h356 (by decide +kernel)) (Eq.trans (congrFun (hV335 _ (K_old h313 hq331)) _) (Eq.trans (uq_ne e327 (Or.inr (by decide))) (Eq.trans (hF308 _ _ _ h295 h313 (by decide +kernel)) (Eq.trans (congrFun (hV293 _ (K_old h272 hq289)) _) (Eq.trans (uq_ne e285 (Or.inr (by decide))) (Eq.trans (hF267 _ _ _ h255 h272 (by decide +kernel)) (Eq.trans (congrFun (hV253 _ (K_old h233 hq249)) _) (Eq.trans (uq_ne e245 (Or.inr (by decide))) (Eq.trans (hF228 _ _ _ h217 h233 (by decide +kernel)) (Eq.trans (congrFun (hV215 _ (K_old h196 hq211)) _) (Eq.trans (uq_ne e207 (Or.inr (by decide))) (Eq.trans (hF191 _ _ _ h181 h196 (by decide +kernel)) (Eq.trans (congrFun (hV179 _ (K_old h161 hq175)) _) (Eq.trans (uq_ne e171 (Or.inr (by decide))) (Eq.trans (hF156 _ _ _ h147 h161 (by decide +kernel)) (Eq.trans (congrFun (hV145 _ (K_old h127 hq141)) _) (Eq.trans (uq_ne e137 (Or.inr (by decide))) (Eq.trans (uq_ne e135 (Or.inr (by decide))) (Eq.trans (congrFun (hV125 _ (K_old h108 hq121)) _) (Eq.trans (uq_ne e117 (Or.inr (by decide))) (Eq.trans (uq_ne e115 (Or.inr (by decide))) (Eq.trans (congrFun (hV106 _ (K_old h90 hq102)) _) (Eq.trans (uq_ne e98 (Or.inr (by decide))) (uq_at e96))))))))))))))))))))))))))))))))))), ⟨_, h458⟩⟩
    | 6, _ => exact okv_at (Eq.trans (hF475 _ _ _ h453 h453 (by decide +kernel)) (Eq.trans (hF472 _ _ _ h453 h453 (by decide +kernel)) (Eq.trans (uq_ne e470 (Or.inr (by decide))) (Eq.trans (congrFun (hV451 _ (K_old h427 hq447)) _) (Eq.trans (uq_ne e443 (Or.inr (by decide))) (Eq.trans (congrFun (hV425 _ (K_old h401 hq421)) _) (Eq.trans (uq_ne e417 (Or.inr (by decide))) (Eq.trans (hF396 _ _ _ h381 h401 (by decide +kernel)) (Eq.trans (congrFun (hV379 _ (K_old h356 hq375)) _) (Eq.trans (uq_ne e371 (Or.inr (by decide))) (Eq.trans (hF351 _ _ _ h337 h356 (by decide +kernel)) (Eq.trans (congrFun (hV335 _ (K_old h313 hq331)) _) (Eq.trans (uq_ne e327 (Or.inr (by decide))) (Eq.trans (hF308 _ _ _ h295 h313 (by decide +kernel)) (Eq.trans (congrFun (hV293 _ (K_old h272 hq289)) _) (Eq.trans (uq_ne e285 (Or.inr (by decide))) (Eq.trans (hF267 _ _ _ h255 h272 (by decide +kernel)) (Eq.trans (congrFun (hV253 _ (K_old h233 hq249)) _) (Eq.trans (uq_ne e245 (Or.inr (by decide))) (Eq.trans (hF228 _ _ _ h217 h233 (by decide +kernel)) (Eq.trans (congrFun (hV215 _ (K_old h196 hq211)) _) (Eq.trans (uq_ne e207 (Or.inr (by decide))) (Eq.trans (hF191 _ _ _ h181 h196 (by decide +kernel)) (Eq.trans (congrFun (hV179 _ (K_old h161 hq175)) _) (Eq.trans (uq_ne e171 (Or.inr (by decide))) (Eq.trans (hF156 _ _ _ h147 h161 (by decide +kernel)) (Eq.trans (congrFun (hV145 _ (K_old h127 hq141)) _) (Eq.trans (uq_ne e137 (Or.inr (by decide))) (Eq.trans (uq_ne e135 (Or.inr (by decide))) (Eq.trans (congrFun (hV125 _ (K_old h108 hq121)) _) (Eq.trans (uq_ne e117 (Or.inr (by decide))) (Eq.trans (uq_ne e115 (Or.inr (by decide))) (Eq.trans (congrFun (hV106 _ (K_old h90 hq102)) _) (uq_at e98)))))))))))))))))))))))))))))))))) (ir_c rfl) (by omega) (by omega)
    | 7, _ => exact ⟨_, (Eq.trans (hF475 _ _ _ h453 h453 (by decide +kernel)) (Eq.trans (hF472 _ _ _ h453 h453 (by decide +kernel)) (Eq.trans (uq_ne e470 (Or.inr (by decide))) (Eq.trans (congrFun (hV451 _ (K_old h427 hq447)) _) (Eq.trans (uq_ne e443 (Or.inr (by decide))) (Eq.trans (congrFun (hV425 _ (K_old h401 hq421)) _) (Eq.trans (uq_ne e417 (Or.inr (by decide))) (Eq.trans (hF396 _ _ _ h381 h401 (by decide +kernel)) (Eq.trans (congrFun (hV379 _ (K_old h356 hq375)) _) (Eq.trans (uq_ne e371 (Or.inr (by decide))) (Eq.trans (hF351 _ _ _ h337 h356 (by decide +kernel)) (Eq.trans (congrFun (hV335 _ (K_old h313 hq331)) _) (Eq.trans (uq_ne e327 (Or.inr (by decide))) (Eq.trans (hF308 _ _ _ h295 h313 (by decide +kernel)) (Eq.trans (congrFun (hV293 _ (K_old h272 hq289)) _) (Eq.trans (uq_ne e285 (Or.inr (by decide))) (Eq.trans (hF267 _ _ _ h255 h272 (by decide +kernel)) (Eq.trans (congrFun (hV253 _ (K_old h233 hq249)) _) (Eq.trans (uq_ne e245 (Or.inr (by decide))) (Eq.trans (hF228 _ _ _ h217 h233 (by decide +kernel)) (Eq.trans (congrFun (hV215 _ (K_old h196 hq211)) _) (Eq.trans (uq_ne e207 (Or.inr (by decide))) (Eq.trans (hF191 _ _ _ h181 h196 (by decide +kernel)) (Eq.trans (congrFun (hV179 _ (K_old h161 hq175)) _) (Eq.trans (uq_ne e171 (Or.inr (by decide))) (Eq.trans (hF156 _ _ _ h147 h161 (by decide +kernel)) (Eq.trans (congrFun (hV145 _ (K_old h127 hq141)) _) (Eq.trans (uq_ne e137 (Or.inr (by decide))) (Eq.trans (uq_ne e135 (Or.inr (by decide))) (Eq.trans (congrFun (hV125 _ (K_old h108 hq121)) _) (Eq.trans (uq_ne e117 (Or.inr (by decide))) (uq_at e115)))))))))))))))))))))))))))))))), ⟨_, h459⟩⟩
    | 8, _ => exact okv_at (Eq.trans (hF475 _ _ _ h453 h453 (by decide +kernel)) (Eq.trans (hF472 _ _ _ h453 h453 (by decide +kernel)) (Eq.trans (uq_ne e470 (Or.inr (by decide))) (Eq.trans (congrFun (hV451 _ (K_old h427 hq447)) _) (Eq.trans (uq_ne e443 (Or.inr (by decide))) (Eq.trans (congrFun (hV425 _ (K_old h401 hq421)) _) (Eq.trans (uq_ne e417 (Or.inr (by decide))) (Eq.trans (hF396 _ _ _ h381 h401 (by decide +kernel)) (Eq.trans (congrFun (hV379 _ (K_old h356 hq375)) _) (Eq.trans (uq_ne e371 (Or.inr (by decide))) (Eq.trans (hF351 _ _ _ h337 h356 (by decide +kernel)) (Eq.trans (congrFun (hV335 _ (K_old h313 hq331)) _) (Eq.trans (uq_ne e327 (Or.inr (by decide))) (Eq.trans (hF308 _ _ _ h295 h313 (by decide +kernel)) (Eq.trans (congrFun (hV293 _ (K_old h272 hq289)) _) (Eq.trans (uq_ne e285 (Or.inr (by decide))) (Eq.trans (hF267 _ _ _ h255 h272 (by decide +kernel)) (Eq.trans (congrFun (hV253 _ (K_old h233 hq249)) _) (Eq.trans (uq_ne e245 (Or.inr (by decide))) (Eq.trans (hF228 _ _ _ h217 h233 (by decide +kernel)) (Eq.trans (congrFun (hV215 _ (K_old h196 hq211)) _) (Eq.trans (uq_ne e207 (Or.inr (by decide))) (Eq.trans (hF191 _ _ _ h181 h196 (by decide +kernel)) (Eq.trans (congrFun (hV179 _ (K_old h161 hq175)) _) (Eq.trans (uq_ne e171 (Or.inr (by decide))) (Eq.trans (hF156 _ _ _ h147 h161 (by decide +kernel)) (Eq.trans (congrFun (hV145 _ (K_old h127 hq141)) _) (Eq.trans (uq_ne e137 (Or.inr (by decide))) (Eq.trans (uq_ne e135 (Or.inr (by decide))) (Eq.trans (congrFun (hV125 _ (K_old h108 hq121)) _) (uq_at e117))))))))))))))))))))))))))))))) (ir_c rfl) (by omega) (by omega)
    | 9, _ => exact ⟨_, (Eq.trans (hF475 _ _ _ h453 h453 (by decide +kernel)) (Eq.trans (hF472 _ _ _ h453 h453 (by decide +kernel)) (Eq.trans (uq_ne e470 (Or.inr (by decide))) (Eq.trans (congrFun (hV451 _ (K_old h427 hq447)) _) (Eq.trans (uq_ne e443 (Or.inr (by decide))) (Eq.trans (congrFun (hV425 _ (K_old h401 hq421)) _) (Eq.trans (uq_ne e417 (Or.inr (by decide))) (Eq.trans (hF396 _ _ _ h381 h401 (by decide +kernel)) (Eq.trans (congrFun (hV379 _ (K_old h356 hq375)) _) (Eq.trans (uq_ne e371 (Or.inr (by decide))) (Eq.trans (hF351 _ _ _ h337 h356 (by decide +kernel)) (Eq.trans (congrFun (hV335 _ (K_old h313 hq331)) _) (Eq.trans (uq_ne e327 (Or.inr (by decide))) (Eq.trans (hF308 _ _ _ h295 h313 (by decide +kernel)) (Eq.trans (congrFun (hV293 _ (K_old h272 hq289)) _) (Eq.trans (uq_ne e285 (Or.inr (by decide))) (Eq.trans (hF267 _ _ _ h255 h272 (by decide +kernel)) (Eq.trans (congrFun (hV253 _ (K_old h233 hq249)) _) (Eq.trans (uq_ne e245 (Or.inr (by decide))) (Eq.trans (hF228 _ _ _ h217 h233 (by decide +kernel)) (Eq.trans (congrFun (hV215 _ (K_old h196 hq211)) _) (Eq.trans (uq_ne e207 (Or.inr (by decide))) (Eq.trans (hF191 _ _ _ h181 h196 (by decide +kernel)) (Eq.trans (congrFun (hV179 _ (K_old h161 hq175)) _) (Eq.trans (uq_ne e171 (Or.inr (by decide))) (Eq.trans (hF156 _ _ _ h147 h161 (by decide +kernel)) (Eq.trans (congrFun (hV145 _ (K_old h127 hq141)) _) (Eq.trans (uq_ne e137 (Or.inr (by decide))) (uq_at e135))))))))))))))))))))))))))))), ⟨_, h460⟩⟩
    | 10, _ => exact okv_at (Eq.trans (hF475 _ _ _ h453 h453 (by decide +kernel)) (Eq.trans (hF472 _ _ _ h453 h453 (by decide +kernel)) (Eq.trans (uq_ne e470 (Or.inr (by decide))) (Eq.trans (congrFun (hV451 _ (K_old h427 hq447)) _) (Eq.trans (uq_ne e443 (Or.inr (by decide))) (Eq.trans (congrFun (hV425 _ (K_old h401 hq421)) _) (Eq.trans (uq_ne e417 (Or.inr (by decide))) (Eq.trans (hF396 _ _ _ h381 h401 (by decide +kernel)) (Eq.trans (congrFun (hV379 _ (K_old h356 hq375)) _) (Eq.trans (uq_ne e371 (Or.inr (by decide))) (Eq.trans (hF351 _ _ _ h337 h356 (by decide +kernel)) (Eq.trans (congrFun (hV335 _ (K_old h313 hq331)) _) (Eq.trans (uq_ne e327 (Or.inr (by decide))) (Eq.trans (hF308 _ _ _ h295 h313 (by decide +kernel)) (Eq.trans (congrFun (hV293 _ (K_old h272 hq289)) _) (Eq.trans (uq_ne e285 (Or.inr (by decide))) (Eq.trans (hF267 _ _ _ h255 h272 (by decide +kernel)) (Eq.trans (congrFun (hV253 _ (K_old h233 hq249)) _) (Eq.trans (uq_ne e245 (Or.inr (by decide))) (Eq.trans (hF228 _ _ _ h217 h233 (by decide +kernel)) (Eq.trans (congrFun (hV215 _ (K_old h196 hq211)) _) (Eq.trans (uq_ne e207 (Or.inr (by decide))) (Eq.trans (hF191 _ _ _ h181 h196 (by decide +kernel)) (Eq.trans (congrFun (hV179 _ (K_old h161 hq175)) _) (Eq.trans (uq_ne e171 (Or.inr (by decide))) (Eq.trans (hF156 _ _ _ h147 h161 (by decide +kernel)) (Eq.trans (congrFun (hV145 _ (K_old h127 hq141)) _) (uq_at e137)))))))))))))))))))))))))))) (ir_c rfl) (by omega) (by omega)
    | 11, _ => exact ⟨_, (Eq.trans (hF475 _ _ _ h453 h453 (by decide +kernel)) (Eq.trans (hF472 _ _ _ h453 h453 (by decide +kernel)) (Eq.trans (uq_ne e470 (Or.inr (by decide))) (Eq.trans (congrFun (hV451 _ (K_old h427 hq447)) _) (Eq.trans (uq_ne e443 (Or.inr (by decide))) (Eq.trans (congrFun (hV425 _ (K_old h401 hq421)) _) (Eq.trans (uq_ne e417 (Or.inr (by decide))) (Eq.trans (hF396 _ _ _ h381 h401 (by decide +kernel)) (Eq.trans (congrFun (hV379 _ (K_old h356 hq375)) _) (Eq.trans (uq_ne e371 (Or.inr (by decide))) (Eq.trans (hF351 _ _ _ h337 h356 (by decide +kernel)) (Eq.trans (congrFun (hV335 _ (K_old h313 hq331)) _) (Eq.trans (uq_ne e327 (Or.inr (by decide))) (Eq.trans (hF308 _ _ _ h295 h313 (by decide +kernel)) (Eq.trans (congrFun (hV293 _ (K_old h272 hq289)) _) (Eq.trans (uq_ne e285 (Or.inr (by decide))) (Eq.trans (hF267 _ _ _ h255 h272 (by decide +kernel)) (Eq.trans (congrFun (hV253 _ (K_old h233 hq249)) _) (Eq.trans (uq_ne e245 (Or.inr (by decide))) (Eq.trans (hF228 _ _ _ h217 h233 (by decide +kernel)) (Eq.trans (congrFun (hV215 _ (K_old h196 hq211)) _) (Eq.trans (uq_ne e207 (Or.inr (by decide))) (Eq.trans (hF191 _ _ _ h181 h196 (by decide +kernel)) (Eq.trans (congrFun (hV179 _ (K_old h161 hq175)) _) (uq_at e171))))))))))))))))))))))))), h461⟩
    | 12, _ => exact ⟨_, (Eq.trans (hF475 _ _ _ h453 h453 (by decide +kernel)) (Eq.trans (hF472 _ _ _ h453 h453 (by decide +kernel)) (Eq.trans (uq_ne e470 (Or.inr (by decide))) (Eq.trans (congrFun (hV451 _ (K_old h427 hq447)) _) (Eq.trans (uq_ne e443 (Or.inr (by decide))) (Eq.trans (congrFun (hV425 _ (K_old h401 hq421)) _) (Eq.trans (uq_ne e417 (Or.inr (by decide))) (Eq.trans (hF396 _ _ _ h381 h401 (by decide +kernel)) (Eq.trans (congrFun (hV379 _ (K_old h356 hq375)) _) (Eq.trans (uq_ne e371 (Or.inr (by decide))) (Eq.trans (hF351 _ _ _ h337 h356 (by decide +kernel)) (Eq.trans (congrFun (hV335 _ (K_old h313 hq331)) _) (Eq.trans (uq_ne e327 (Or.inr (by decide))) (Eq.trans (hF308 _ _ _ h295 h313 (by decide +kernel)) (Eq.trans (congrFun (hV293 _ (K_old h272 hq289)) _) (Eq.trans (uq_ne e285 (Or.inr (by decide))) (Eq.trans (hF267 _ _ _ h255 h272 (by decide +kernel)) (Eq.trans (congrFun (hV253 _ (K_old h233 hq249)) _) (Eq.trans (uq_ne e245 (Or.inr (by decide))) (Eq.trans (hF228 _ _ _ h217 h233 (by decide +kernel)) (Eq.trans (congrFun (hV215 _ (K_old h196 hq211)) _) (uq_at e207)))))))))))))))))))))), h462⟩
    | 13, _ => exact ⟨_, (Eq.trans (hF475 _ _ _ h453 h453 (by decide +kernel)) (Eq.trans (hF472 _ _ _ h453 h453 (by decide +kernel)) (Eq.trans (uq_ne e470 (Or.inr (by decide))) (Eq.trans (congrFun (hV451 _ (K_old h427 hq447)) _) (Eq.trans (uq_ne e443 (Or.inr (by decide))) (Eq.trans (congrFun (hV425 _ (K_old h401 hq421)) _) (Eq.trans (uq_ne e417 (Or.inr (by decide))) (Eq.trans (hF396 _ _ _ h381 h401 (by decide +kernel)) (Eq.trans (congrFun (hV379 _ (K_old h356 hq375)) _) (Eq.trans (uq_ne e371 (Or.inr (by decide))) (Eq.trans (hF351 _ _ _ h337 h356 (by decide +kernel)) (Eq.trans (congrFun (hV335 _ (K_old h313 hq331)) _) (Eq.trans (uq_ne e327 (Or.inr (by decide))) (Eq.trans (hF308 _ _ _ h295 h313 (by decide +kernel)) (Eq.trans (congrFun (hV293 _ (K_old h272 hq289)) _) (Eq.trans (uq_ne e285 (Or.inr (by decide))) (Eq.trans (hF267 _ _ _ h255 h272 (by decide +kernel)) (Eq.trans (congrFun (hV253 _ (K_old h233 hq249)) _) (uq_at e245))))))))))))))))))), h463⟩
    | 14, _ => exact ⟨_, (Eq.trans (hF475 _ _ _ h453 h453 (by decide +kernel)) (Eq.trans (hF472 _ _ _ h453 h453 (by decide +kernel)) (Eq.trans (uq_ne e470 (Or.inr (by decide))) (Eq.trans (congrFun (hV451 _ (K_old h427 hq447)) _) (Eq.trans (uq_ne e443 (Or.inr (by decide))) (Eq.trans (congrFun (hV425 _ (K_old h401 hq421)) _) (Eq.trans (uq_ne e417 (Or.inr (by decide))) (Eq.trans (hF396 _ _ _ h381 h401 (by decide +kernel)) (Eq.trans (congrFun (hV379 _ (K_old h356 hq375)) _) (Eq.trans (uq_ne e371 (Or.inr (by decide))) (Eq.trans (hF351 _ _ _ h337 h356 (by decide +kernel)) (Eq.trans (congrFun (hV335 _ (K_old h313 hq331)) _) (Eq.trans (uq_ne e327 (Or.inr (by decide))) (Eq.trans (hF308 _ _ _ h295 h313 (by decide +kernel)) (Eq.trans (congrFun (hV293 _ (K_old h272 hq289)) _) (uq_at e285)))))))))))))))), h464⟩
    | 15, _ => exact ⟨_, (Eq.trans (hF475 _ _ _ h453 h453 (by decide +kernel)) (Eq.trans (hF472 _ _ _ h453 h453 (by decide +kernel)) (Eq.trans (uq_ne e470 (Or.inr (by decide))) (Eq.trans (congrFun (hV451 _ (K_old h427 hq447)) _) (Eq.trans (uq_ne e443 (Or.inr (by decide))) (Eq.trans (congrFun (hV425 _ (K_old h401 hq421)) _) (Eq.trans (uq_ne e417 (Or.inr (by decide))) (Eq.trans (hF396 _ _ _ h381 h401 (by decide +kernel)) (Eq.trans (congrFun (hV379 _ (K_old h356 hq375)) _) (Eq.trans (uq_ne e371 (Or.inr (by decide))) (Eq.trans (hF351 _ _ _ h337 h356 (by decide +kernel)) (Eq.trans (congrFun (hV335 _ (K_old h313 hq331)) _) (uq_at e327))))))))))))), h465⟩
    | 16, _ => exact ⟨_, (Eq.trans (hF475 _ _ _ h453 h453 (by decide +kernel)) (Eq.trans (hF472 _ _ _ h453 h453 (by decide +kernel)) (Eq.trans (uq_ne e470 (Or.inr (by decide))) (Eq.trans (congrFun (hV451 _ (K_old h427 hq447)) _) (Eq.trans (uq_ne e443 (Or.inr (by decide))) (Eq.trans (congrFun (hV425 _ (K_old h401 hq421)) _) (Eq.trans (uq_ne e417 (Or.inr (by decide))) (Eq.trans (hF396 _ _ _ h381 h401 (by decide +kernel)) (Eq.trans (congrFun (hV379 _ (K_old h356 hq375)) _) (uq_at e371)))))))))), h466⟩
    | 17, _ => exact ⟨_, (Eq.trans (hF475 _ _ _ h453 h453 (by decide +kernel)) (Eq.trans (hF472 _ _ _ h453 h453 (by decide +kernel)) (Eq.trans (uq_ne e470 (Or.inr (by decide))) (Eq.trans (congrFun (hV451 _ (K_old h427 hq447)) _) (Eq.trans (uq_ne e443 (Or.inr (by decide))) (Eq.trans (congrFun (hV425 _ (K_old h401 hq421)) _) (uq_at e417))))))), h467⟩
    | 18, _ => exact ⟨_, (Eq.trans (hF475 _ _ _ h453 h453 (by decide +kernel)) (Eq.trans (hF472 _ _ _ h453 h453 (by decide +kernel)) (Eq.trans (uq_ne e470 (Or.inr (by decide))) (Eq.trans (congrFun (hV451 _ (K_old h427 hq447)) _) (uq_at e443))))), ⟨_, h468⟩⟩
    | 19, _ => exact ⟨_, (Eq.trans (hF475 _ _ _ h453 h453 (by decide +kernel)) (Eq.trans (hF472 _ _ _ h453 h453 (by decide +kernel)) (uq_at e470))), ⟨_, h450⟩⟩
    | j + 20, hj => exact absurd hj (by omega)
  exact GO.retv rfl rfl dX11_init_230 ⟨rfl, ⟨h481, vi_at (Eq.trans (hF475 _ _ _ h453 h453 (by decide +kernel)) (Eq.trans (hF472 _ _ _ h453 h453 (by decide +kernel)) (Eq.trans (uq_ne e470 (Or.inr (by decide))) (Eq.trans (congrFun (hV451 _ (K_old h427 hq447)) _) (Eq.trans (uq_ne e443 (Or.inr (by decide))) (Eq.trans (congrFun (hV425 _ (K_old h401 hq421)) _) (Eq.trans (uq_ne e417 (Or.inr (by decide))) (Eq.trans (hF396 _ _ _ h381 h401 (by decide +kernel)) (Eq.trans (congrFun (hV379 _ (K_old h356 hq375)) _) (Eq.trans (uq_ne e371 (Or.inr (by decide))) (Eq.trans (hF351 _ _ _ h337 h356 (by decide +kernel)) (Eq.trans (congrFun (hV335 _ (K_old h313 hq331)) _) (Eq.trans (uq_ne e327 (Or.inr (by decide))) (Eq.trans (hF308 _ _ _ h295 h313 (by decide +kernel)) (Eq.trans (congrFun (hV293 _ (K_old h272 hq289)) _) (Eq.trans (uq_ne e285 (Or.inr (by decide))) (Eq.trans (hF267 _ _ _ h255 h272 (by decide +kernel)) (Eq.trans (congrFun (hV253 _ (K_old h233 hq249)) _) (Eq.trans (uq_ne e245 (Or.inr (by decide))) (Eq.trans (hF228 _ _ _ h217 h233 (by decide +kernel)) (Eq.trans (congrFun (hV215 _ (K_old h196 hq211)) _) (Eq.trans (uq_ne e207 (Or.inr (by decide))) (Eq.trans (hF191 _ _ _ h181 h196 (by decide +kernel)) (Eq.trans (congrFun (hV179 _ (K_old h161 hq175)) _) (Eq.trans (uq_ne e171 (Or.inr (by decide))) (Eq.trans (hF156 _ _ _ h147 h161 (by decide +kernel)) (Eq.trans (congrFun (hV145 _ (K_old h127 hq141)) _) (Eq.trans (uq_ne e137 (Or.inr (by decide))) (Eq.trans (uq_ne e135 (Or.inr (by decide))) (Eq.trans (congrFun (hV125 _ (K_old h108 hq121)) _) (Eq.trans (uq_ne e117 (Or.inr (by decide))) (Eq.trans (uq_ne e115 (Or.inr (by decide))) (Eq.trans (congrFun (hV106 _ (K_old h90 hq102)) _) (Eq.trans (uq_ne e98 (Or.inr (by decide))) (Eq.trans (uq_ne e96 (Or.inr (by decide))) (Eq.trans (congrFun (hV88 _ (K_old h73 hq84)) _) (uq_at e80))))))))))))))))))))))))))))))))))))) (ir_c rfl), vi_at (Eq.trans (hF475 _ _ _ h453 h453 (by decide +kernel)) (Eq.trans (hF472 _ _ _ h453 h453 (by decide +kernel)) (Eq.trans (uq_ne e470 (Or.inr (by decide))) (Eq.trans (congrFun (hV451 _ (K_old h427 hq447)) _) (Eq.trans (uq_ne e443 (Or.inr (by decide))) (Eq.trans (congrFun (hV425 _ (K_old h401 hq421)) _) (Eq.trans (uq_ne e417 (Or.inr (by decide))) (Eq.trans (hF396 _ _ _ h381 h401 (by decide +kernel)) (Eq.trans (congrFun (hV379 _ (K_old h356 hq375)) _) (Eq.trans (uq_ne e371 (Or.inr (by decide))) (Eq.trans (hF351 _ _ _ h337 h356 (by decide +kernel)) (Eq.trans (congrFun (hV335 _ (K_old h313 hq331)) _) (Eq.trans (uq_ne e327 (Or.inr (by decide))) (Eq.trans (hF308 _ _ _ h295 h313 (by decide +kernel)) (Eq.trans (congrFun (hV293 _ (K_old h272 hq289)) _) (Eq.trans (uq_ne e285 (Or.inr (by decide))) (Eq.trans (hF267 _ _ _ h255 h272 (by decide +kernel)) (Eq.trans (congrFun (hV253 _ (K_old h233 hq249)) _) (Eq.trans (uq_ne e245 (Or.inr (by decide))) (Eq.trans (hF228 _ _ _ h217 h233 (by decide +kernel)) (Eq.trans (congrFun (hV215 _ (K_old h196 hq211)) _) (Eq.trans (uq_ne e207 (Or.inr (by decide))) (Eq.trans (hF191 _ _ _ h181 h196 (by decide +kernel)) (Eq.trans (congrFun (hV179 _ (K_old h161 hq175)) _) (Eq.trans (uq_ne e171 (Or.inr (by decide))) (Eq.trans (hF156 _ _ _ h147 h161 (by decide +kernel)) (Eq.trans (congrFun (hV145 _ (K_old h127 hq141)) _) (uq_at e137)))))))))))))))))))))))))))) (ir_c rfl), tdy_at (Eq.trans (hF475 _ _ _ h453 h453 (by decide +kernel)) (Eq.trans (hF472 _ _ _ h453 h453 (by decide +kernel)) (Eq.trans (uq_ne e470 (Or.inr (by decide))) (Eq.trans (congrFun (hV451 _ (K_old h427 hq447)) _) (Eq.trans (uq_ne e443 (Or.inr (by decide))) (Eq.trans (congrFun (hV425 _ (K_old h401 hq421)) _) (Eq.trans (uq_ne e417 (Or.inr (by decide))) (Eq.trans (hF396 _ _ _ h381 h401 (by decide +kernel)) (Eq.trans (congrFun (hV379 _ (K_old h356 hq375)) _) (Eq.trans (uq_ne e371 (Or.inr (by decide))) (Eq.trans (hF351 _ _ _ h337 h356 (by decide +kernel)) (Eq.trans (congrFun (hV335 _ (K_old h313 hq331)) _) (Eq.trans (uq_ne e327 (Or.inr (by decide))) (Eq.trans (hF308 _ _ _ h295 h313 (by decide +kernel)) (Eq.trans (congrFun (hV293 _ (K_old h272 hq289)) _) (Eq.trans (uq_ne e285 (Or.inr (by decide))) (Eq.trans (hF267 _ _ _ h255 h272 (by decide +kernel)) (Eq.trans (congrFun (hV253 _ (K_old h233 hq249)) _) (Eq.trans (uq_ne e245 (Or.inr (by decide))) (Eq.trans (hF228 _ _ _ h217 h233 (by decide +kernel)) (Eq.trans (congrFun (hV215 _ (K_old h196 hq211)) _) (Eq.trans (uq_ne e207 (Or.inr (by decide))) (Eq.trans (hF191 _ _ _ h181 h196 (by decide +kernel)) (Eq.trans (congrFun (hV179 _ (K_old h161 hq175)) _) (Eq.trans (uq_ne e171 (Or.inr (by decide))) (Eq.trans (hF156 _ _ _ h147 h161 (by decide +kernel)) (Eq.trans (congrFun (hV145 _ (K_old h127 hq141)) _) (Eq.trans (uq_ne e137 (Or.inr (by decide))) (Eq.trans (uq_ne e135 (Or.inr (by decide))) (Eq.trans (congrFun (hV125 _ (K_old h108 hq121)) _) (Eq.trans (uq_ne e117 (Or.inr (by decide))) (Eq.trans (uq_ne e115 (Or.inr (by decide))) (Eq.trans (congrFun (hV106 _ (K_old h90 hq102)) _) (Eq.trans (uq_ne e98 (Or.inr (by decide))) (Eq.trans (uq_ne e96 (Or.inr (by decide))) (Eq.trans (congrFun (hV88 _ (K_old h73 hq84)) _) (Eq.trans (uq_ne e80 (Or.inr (by decide))) (Eq.trans (uq_ne e78 (Or.inr (by decide))) (Eq.trans (congrFun (hV71 _ (K_old h59 hq67)) _) (Eq.trans (uq_ne e63 (Or.inr (by decide))) (Eq.trans (hF54 _ _ _ h50 h59 (by decide +kernel)) (Eq.trans (congrFun (hV48 _ (K_old h37 hq44)) _) (Eq.trans (uq_ne e40 (Or.inr (by decide))) (Eq.trans (hF32 _ _ _ h29 h37 (by decide +kernel)) (Eq.trans (congrFun (hV27 _ (K_old h16 hq23)) _) (uq_at e19)))))))))))))))))))))))))))))))))))))))))))))) (Eq.trans (hF475 _ _ _ h454 h454 (by decide +kernel)) (Eq.trans (hF472 _ _ _ h454 h454 (by decide +kernel)) (Eq.trans (uq_ne e470 (Or.inl (K_ne h454 h453 (by decide)))) (Eq.trans (congrFun (hV451 _ (K_old h428 hq447)) _) (Eq.trans (uq_ne e443 (Or.inl (K_ne h428 h427 (by decide)))) (Eq.trans (congrFun (hV425 _ (K_old h403 hq421)) _) (Eq.trans (uq_ne e417 (Or.inl (K_ne h403 h401 (by decide)))) (Eq.trans (hF396 _ _ _ h382 h403 (by decide +kernel)) (Eq.trans (congrFun (hV379 _ (K_old h358 hq375)) _) (Eq.trans (uq_ne e371 (Or.inl (K_ne h358 h356 (by decide)))) (Eq.trans (hF351 _ _ _ h338 h358 (by decide +kernel)) (Eq.trans (congrFun (hV335 _ (K_old h315 hq331)) _) (Eq.trans (uq_ne e327 (Or.inl (K_ne h315 h313 (by decide)))) (Eq.trans (hF308 _ _ _ h296 h315 (by decide +kernel)) (Eq.trans (congrFun (hV293 _ (K_old h274 hq289)) _) (Eq.trans (uq_ne e285 (Or.inl (K_ne h274 h272 (by decide)))) (Eq.trans (hF267 _ _ _ h256 h274 (by decide +kernel)) (Eq.trans (congrFun (hV253 _ (K_old h235 hq249)) _) (Eq.trans (uq_ne e245 (Or.inl (K_ne h235 h233 (by decide)))) (Eq.trans (hF228 _ _ _ h218 h235 (by decide +kernel)) (Eq.trans (congrFun (hV215 _ (K_old h198 hq211)) _) (Eq.trans (uq_ne e207 (Or.inl (K_ne h198 h196 (by decide)))) (Eq.trans (hF191 _ _ _ h182 h198 (by decide +kernel)) (Eq.trans (congrFun (hV179 _ (K_old h163 hq175)) _) (Eq.trans (uq_ne e171 (Or.inl (K_ne h163 h161 (by decide)))) (Eq.trans (hF156 _ _ _ h148 h163 (by decide +kernel)) (Eq.trans (congrFun (hV145 _ (K_old h128 hq141)) _) (Eq.trans (uq_ne e137 (Or.inl (K_ne h128 h127 (by decide)))) (Eq.trans (uq_ne e135 (Or.inl (K_ne h128 h127 (by decide)))) (Eq.trans (congrFun (hV125 _ (K_old h109 hq121)) _) (Eq.trans (uq_ne e117 (Or.inl (K_ne h109 h108 (by decide)))) (Eq.trans (uq_ne e115 (Or.inl (K_ne h109 h108 (by decide)))) (Eq.trans (congrFun (hV106 _ (K_old h91 hq102)) _) (Eq.trans (uq_ne e98 (Or.inl (K_ne h91 h90 (by decide)))) (Eq.trans (uq_ne e96 (Or.inl (K_ne h91 h90 (by decide)))) (Eq.trans (congrFun (hV88 _ (K_old h74 hq84)) _) (Eq.trans (uq_ne e80 (Or.inl (K_ne h74 h73 (by decide)))) (Eq.trans (uq_ne e78 (Or.inl (K_ne h74 h73 (by decide)))) (Eq.trans (congrFun (hV71 _ (K_old h61 hq67)) _) (Eq.trans (uq_ne e63 (Or.inl (K_ne h61 h59 (by decide)))) (Eq.trans (hF54 _ _ _ h51 h61 (by decide +kernel)) (Eq.trans (congrFun (hV48 _ (K_old h39 hq44)) _) (Eq.trans (uq_ne e40 (Or.inl (K_ne h39 h37 (by decide)))) (Eq.trans (hF32 _ _ _ h30 h39 (by decide +kernel)) (Eq.trans (congrFun (hV27 _ (K_old h17 hq23)) _) (uq_ne e19 (Or.inl (K_ne h17 h16 (by decide))))))))))))))))))))))))))))))))))))))))))))))))) q18, wsz_at (Eq.trans (hF475 _ _ _ h453 h453 (by decide +kernel)) (Eq.trans (hF472 _ _ _ h453 h453 (by decide +kernel)) (Eq.trans (uq_ne e470 (Or.inr (by decide))) (Eq.trans (congrFun (hV451 _ (K_old h427 hq447)) _) (Eq.trans (uq_ne e443 (Or.inr (by decide))) (Eq.trans (congrFun (hV425 _ (K_old h401 hq421)) _) (Eq.trans (uq_ne e417 (Or.inr (by decide))) (Eq.trans (hF396 _ _ _ h381 h401 (by decide +kernel)) (Eq.trans (congrFun (hV379 _ (K_old h356 hq375)) _) (uq_at e371)))))))))) (Eq.trans (hF475 _ _ _ h466 h466 (by decide +kernel)) (Eq.trans (hF472 _ _ _ h466 h466 (by decide +kernel)) (Eq.trans (uq_ne e470 (Or.inl (K_ne h466 h453 (by decide)))) (Eq.trans (congrFun (hV451 _ (K_old h440 hq447)) _) (Eq.trans (uq_ne e443 (Or.inl (K_ne h440 h427 (by decide)))) (Eq.trans (congrFun (hV425 _ (K_old h415 hq421)) _) (Eq.trans (uq_ne e417 (Or.inl (K_ne h415 h401 (by decide)))) (Eq.trans (hF396 _ _ _ h394 h415 (by decide +kernel)) (Eq.trans (congrFun (hV379 _ (K_old h357 hq375)) _) (uq_ne e371 (Or.inl (K_ne h357 h356 (by decide))))))))))))) q370, csz_at (Eq.trans (hF475 _ _ _ h453 h453 (by decide +kernel)) (Eq.trans (hF472 _ _ _ h453 h453 (by decide +kernel)) (Eq.trans (uq_ne e470 (Or.inr (by decide))) (Eq.trans (congrFun (hV451 _ (K_old h427 hq447)) _) (Eq.trans (uq_ne e443 (Or.inr (by decide))) (Eq.trans (congrFun (hV425 _ (K_old h401 hq421)) _) (Eq.trans (uq_ne e417 (Or.inr (by decide))) (Eq.trans (hF396 _ _ _ h381 h401 (by decide +kernel)) (Eq.trans (congrFun (hV379 _ (K_old h356 hq375)) _) (Eq.trans (uq_ne e371 (Or.inr (by decide))) (Eq.trans (hF351 _ _ _ h337 h356 (by decide +kernel)) (Eq.trans (congrFun (hV335 _ (K_old h313 hq331)) _) (Eq.trans (uq_ne e327 (Or.inr (by decide))) (Eq.trans (hF308 _ _ _ h295 h313 (by decide +kernel)) (Eq.trans (congrFun (hV293 _ (K_old h272 hq289)) _) (uq_at e285)))))))))))))))) (Eq.trans (hF475 _ _ _ h464 h464 (by decide +kernel)) (Eq.trans (hF472 _ _ _ h464 h464 (by decide +kernel)) (Eq.trans (uq_ne e470 (Or.inl (K_ne h464 h453 (by decide)))) (Eq.trans (congrFun (hV451 _ (K_old h438 hq447)) _) (Eq.trans (uq_ne e443 (Or.inl (K_ne h438 h427 (by decide)))) (Eq.trans (congrFun (hV425 _ (K_old h413 hq421)) _) (Eq.trans (uq_ne e417 (Or.inl (K_ne h413 h401 (by decide)))) (Eq.trans (hF396 _ _ _ h392 h413 (by decide +kernel)) (Eq.trans (congrFun (hV379 _ (K_old h368 hq375)) _) (Eq.trans (uq_ne e371 (Or.inl (K_ne h368 h356 (by decide)))) (Eq.trans (hF351 _ _ _ h348 h368 (by decide +kernel)) (Eq.trans (congrFun (hV335 _ (K_old h325 hq331)) _) (Eq.trans (uq_ne e327 (Or.inl (K_ne h325 h313 (by decide)))) (Eq.trans (hF308 _ _ _ h306 h325 (by decide +kernel)) (Eq.trans (congrFun (hV293 _ (K_old h273 hq289)) _) (uq_ne e285 (Or.inl (K_ne h273 h272 (by decide))))))))))))))))))) q284⟩, KE.promote (KE.new (KE.new (KE.call (KE.new (KE.call (KE.new (KE.call (KE.new (KE.call (KE.new (KE.call (KE.new (KE.call (KE.new (KE.call (KE.new (KE.new (KE.new (KE.new (KE.new (KE.call (KE.new (KE.call (KE.new (KE.call (KE.new KE.rf hq3 hK4) h14.2 h10) hq23 hK24) h35.2 h31) hq44 hK45) h57.2 h53) hq67 hK68) hq84 hK85) hq102 hK103) hq121 hK122) hq141 hK142) h159.2 h155) hq175 hK176) h194.2 h190) hq211 hK212) h231.2 h227) hq249 hK250) h270.2 h266) hq289 hK290) h311.2 h307) hq331 hK332) h354.2 h350) hq375 hK376) h399.2 h395) hq421 hK422) hq447 hK448) e479⟩
