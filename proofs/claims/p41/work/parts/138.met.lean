def mX8_init_k24 : MRec := (RX8, cX8_init, 3, (none : Option Jvm.ClassFile.FieldType), yX8_init, 1, 21, 1, 16, 531137992816767098689588206552468627329593117727031923199444138200403559860852242739162502265229285668889329486246501015346579337652707239409519978766587351943831270835393219031728128)
def mX4_fill_t138 : MRec := (RX4, cX4_fill, 3, (none : Option Jvm.ClassFile.FieldType), yX4_fill, 0, 0, 0, 0, 1322111937580497197903830616065542079656809365928562438569297590548811582472622691650378420879430569695182424050046716608512)
def mX6_init : MRec := (RX6, cX6_init, 1, (none : Option Jvm.ClassFile.FieldType), yX6_init, 2, 43, 9, 2220, 663922491020958873361985258190585784161991397158789903999306494862442030323263207254569193373616263895477590420246695566773772983648356671953550351879113620499484270968291570506268672)
def mX8_init_k27 : MRec := (RX8, cX8_init, 3, (none : Option Jvm.ClassFile.FieldType), yX8_init, 1, 21, 1, 200, 531137992816767098689588206552468627329593117727031923199444138200403559860852242739162502265229285668889329486246501015346579337652707239409519978766587351943831270835393219031728128)
def mX8_init_k28 : MRec := (RX8, cX8_init, 3, (none : Option Jvm.ClassFile.FieldType), yX8_init, 1, 21, 1, 300, 531137992816767098689588206552468627329593117727031923199444138200403559860852242739162502265229285668889329486246501015346579337652707239409519978766587351943831270835393219031728128)
def mX8_init_k29 : MRec := (RX8, cX8_init, 3, (none : Option Jvm.ClassFile.FieldType), yX8_init, 1, 21, 1, 30, 531137992816767098689588206552468627329593117727031923199444138200403559860852242739162502265229285668889329486246501015346579337652707239409519978766587351943831270835393219031728128)
def mX8_init_k26 : MRec := (RX8, cX8_init, 3, (none : Option Jvm.ClassFile.FieldType), yX8_init, 1, 21, 1, 1000, 531137992816767098689588206552468627329593117727031923199444138200403559860852242739162502265229285668889329486246501015346579337652707239409519978766587351943831270835393219031728128)
def mX8_init_k30 : MRec := (RX8, cX8_init, 3, (none : Option Jvm.ClassFile.FieldType), yX8_init, 1, 21, 1, 1000, 531137992816767098689588206552468627329593117727031923199444138200403559860852242739162502265229285668889329486246501015346579337652707239409519978766587351943831270835393219031728128)
def mX8_init_k25 : MRec := (RX8, cX8_init, 3, (none : Option Jvm.ClassFile.FieldType), yX8_init, 1, 21, 1, 7, 531137992816767098689588206552468627329593117727031923199444138200403559860852242739162502265229285668889329486246501015346579337652707239409519978766587351943831270835393219031728128)
def mX8_init_k31 : MRec := (RX8, cX8_init, 3, (none : Option Jvm.ClassFile.FieldType), yX8_init, 1, 21, 1, 400, 531137992816767098689588206552468627329593117727031923199444138200403559860852242739162502265229285668889329486246501015346579337652707239409519978766587351943831270835393219031728128)
def mX4_fill_t145 : MRec := (RX4, cX4_fill, 3, (none : Option Jvm.ClassFile.FieldType), yX4_fill, 0, 0, 0, 0, 169230328010303641331690318856389386196071598838855992136870091590247882556495704531248437872567112920983350278405979725889536)
set_option maxHeartbeats 1000000 in
theorem t_X8_init_k24 {K : Kmap} {V : Vmap} {x : Nat} {p0 : Int} {p1 : Int} (h_x : K x = some (0, 19)) (r_p0 : ir p0) (r_p1 : ir p1) (q_0 : p0 = 2) (q_1 : p1 = 8) : MC mX8_init_k24 K V [.ref x, ti p0, ti p1] (VX (fun K1 V1 => (K1 x = some (0, 24) ∧ vi V1 x 3 = 0) ∧ KE K K1 x)) := by
  refine MC.start 0 (by decide +kernel) rfl rfl rfl (ls0 := [some (.ref x), some (ti p0), some (ti p1)]) rfl ?_
  refine GO.aload_n dX8_init_0 rfl rfl ?_
  refine GO.objInit dX8_init_1 gw_103 gw_27 gw_28 rfl rfl ?_
  refine GO.aload_n dX8_init_4 rfl rfl ?_
  refine GO.iconst dX8_init_5 ?_
  refine GO.putRW rfl (by decide +kernel) h_x fp_raw_fp_RX8_9 rfl rfl dX8_init_6 (fun V2 e1 => ?_)
  refine GO.aload_n dX8_init_9 rfl rfl ?_
  refine GO.iload_n dX8_init_10 rfl rfl ?_
  refine GO.putRF rfl rfl (by decide +kernel) h_x fp_raw_fp_RX8_15 rfl rfl dX8_init_11 (fun V4 e3 => ?_)
  refine GO.aload_n dX8_init_14 rfl rfl ?_
  refine GO.iload_n dX8_init_15 rfl rfl ?_
  refine GO.putRF rfl rfl (by decide +kernel) h_x fp_raw_fp_RX8_18 rfl rfl dX8_init_16 (fun V6 e5 => ?_)
  refine GO.aload_n dX8_init_19 rfl rfl ?_
  refine GO.iconst dX8_init_20 ?_
  refine GO.iload_n dX8_init_21 rfl rfl ?_
  refine GO.iload_n dX8_init_22 rfl rfl ?_
  refine GO.imul dX8_init_23 ?_
  have q7 : -2147483648 ≤ p1 ∧ p1 ≤ 2147483647 := r_p1
  have q8 : -2147483648 ≤ p0 ∧ p0 ≤ 2147483647 := r_p0
  have m9 := mul_rng (a := p0) (b := p1) (A := 2) (B := 8) (by omega) (by omega) (by omega) (by omega)
  have m10 := mul_low (a := p0) (b := p1) (m := 2) (n := 8) (by omega) (by omega) (by omega) (by omega)
  refine GO.callS (N := mJ9_max_7cf53) dX8_init_24 gS_RX8_21 (t_J9_max_7cf53 (ir_c rfl) ⟨by omega, by omega⟩) rfl [.ref x] rfl rfl (Nat.le_of_ble_eq_true rfl) rfl (k_ip fun X11 r12 h13 => ?_)
  have q14 : -2147483648 ≤ X11 ∧ X11 ≤ 2147483647 := r12
  refine GO.newIT 146 16 gw_89 rfl rfl (fun _ _ => okv_df rfl rfl rfl) r12 (by omega) (by omega) rfl (Or.inr (by show _ = ((16 : Nat) : Int); omega)) rfl rfl dX8_init_27 (fun o15 K16 V22 hq17 hK18 hE19 h20 _ hV21 => ?_)
  have h23 := (by rw [hK18, updK_ne (K_old h_x hq17)]; exact h_x : K16 x = some (0, 19))
  have h24 := KE.nw KE.rf h_x hq17
  refine GO.putRF rfl rfl (by decide +kernel) h23 fp_raw_fp_RX8_27 rfl rfl dX8_init_29 (fun V26 e25 => ?_)
  refine GO.promoteT 24 rfl rfl h23 (fun j hj => ?_) (fun K27 e28 hE29 h30 => ?_)
  ·
    have hj : j < 4 := hj
    match j, hj with
    | 0, _ => exact okv_at (Eq.trans (uq_ne e25 (Or.inr (by decide))) (Eq.trans (congrFun (hV21 _ (K_old h_x hq17)) _) (Eq.trans (uq_ne e5 (Or.inr (by decide))) (uq_at e3)))) r_p0 (by omega) (by omega)
    | 1, _ => exact okv_at (Eq.trans (uq_ne e25 (Or.inr (by decide))) (Eq.trans (congrFun (hV21 _ (K_old h_x hq17)) _) (uq_at e5))) r_p1 (by omega) (by omega)
    | 2, _ => exact ⟨_, (uq_at e25), ⟨_, h20⟩⟩
    | 3, _ => exact okv_at (Eq.trans (uq_ne e25 (Or.inr (by decide))) (Eq.trans (congrFun (hV21 _ (K_old h_x hq17)) _) (Eq.trans (uq_ne e5 (Or.inr (by decide))) (Eq.trans (uq_ne e3 (Or.inr (by decide))) (uq_at e1))))) (ir_c rfl) (by omega) (by omega)
    | j + 4, hj => exact absurd hj (by omega)
  exact GO.retv rfl rfl dX8_init_32 ⟨rfl, ⟨h30, vi_at (Eq.trans (uq_ne e25 (Or.inr (by decide))) (Eq.trans (congrFun (hV21 _ (K_old h_x hq17)) _) (Eq.trans (uq_ne e5 (Or.inr (by decide))) (Eq.trans (uq_ne e3 (Or.inr (by decide))) (uq_at e1))))) (ir_c rfl)⟩, KE.promote (KE.new KE.rf hq17 hK18) e28⟩

set_option maxHeartbeats 1000000 in
theorem t_X4_fill_t138 {K : Kmap} {V : Vmap} {p0 n_p0 : Nat} {p1 : Int} (h_p0 : K p0 = some (139, n_p0)) (r_p1 : ir p1) : MC mX4_fill_t138 K V [.ref p0, ti p1] (VS K (fun V1 => (True) ∧ (FLL V V1 p0 n_p0 p1))) := by
  refine MC.start 1 (by decide +kernel) rfl rfl rfl (ls0 := [some (.ref p0), some (ti p1), none]) rfl ?_
  refine GO.aload_n dX4_fill_0 rfl rfl ?_
  refine GO.ifnonnull (tgt := 5) dX4_fill_1 (by decide) ?_
  refine GO.iconst dX4_fill_5 ?_
  refine GO.istore_n (ls1 := [some (.ref p0), some (ti p1), some (ti 0)]) dX4_fill_6 rfl rfl rfl ?_
  refine GO.loop1 (fun i1 W => 0 ≤ i1 ∧ i1 ≤ 5000 ∧ (FLI V W p0 p1 i1) ∧ True) (fun i1 => [some (.ref p0), some (ti p1), some (ti i1)]) (fun i1 W => (2147483647 - i1).toNat) 0 ⟨by omega, by omega, (by first | exact FLI.beg), trivial⟩ rfl (fun i1 Wi1 hp39 ih38 => ?_)
  obtain ⟨l_i1, u_i1, hfl, -⟩ := hp39
  have r_i1 : ir i1 := ⟨by omega, by omega⟩
  show GO mX4_fill_t138 K V (VS K (fun V1 => (True) ∧ (FLL V V1 p0 n_p0 p1))) K Wi1 0 0 7 [some (.ref p0), some (ti p1), some (ti i1)] []
  refine GO.iload_n dX4_fill_7 rfl rfl ?_
  refine GO.aload_n dX4_fill_8 rfl rfl ?_
  refine GO.alen h_p0 dX4_fill_9 (fun h40 => ?_)
  refine GO.icmp_ge (tgt := 23) dX4_fill_10 (by decide) r_i1 ⟨by omega, by omega⟩ (fun c41 => ?_) (fun c41 => ?_)
  ·
    exact GO.retv rfl rfl dX4_fill_23 ⟨rfl, rfl, ⟨trivial, FLI.end hfl (by omega)⟩⟩
  ·
    refine GO.aload_n dX4_fill_13 rfl rfl ?_
    refine GO.iload_n dX4_fill_14 rfl rfl ?_
    refine GO.iload_n dX4_fill_15 rfl rfl ?_
    refine GO.iast (t := 138) rfl rfl (by decide +kernel) h_p0 r_i1 (by omega) (by omega) r_p1 (r_p1).1 (r_p1).2 dX4_fill_16 (fun V43 e42 => ?_)
    refine GO.iinc (X := i1) (n := 1) (Y := i1 + 1) (ls1 := [some (.ref p0), some (ti p1), some (ti (i1 + 1))]) dX4_fill_17 rfl rfl rfl rfl ?_
    refine GO.goto (tgt := 7) dX4_fill_20 (by decide) ?_
    exact ih38 (i1 + 1) V43 ⟨by omega, by omega, (by first | exact FLI.beg | exact FLI.step hfl (by assumption) (by assumption) (by omega) (by omega)), trivial⟩ (by show (2147483647 - (i1 + 1)).toNat < (2147483647 - i1).toNat; omega)

set_option maxHeartbeats 1000000 in
theorem t_X6_init {K : Kmap} {V : Vmap} {x : Nat} (h_x : K x = some (0, 17)) : MC mX6_init K V [.ref x] (VX (fun K1 V1 => (K1 x = some (0, 5) ∧ (SSZ K1 V1 x)) ∧ KE K K1 x)) := by
  refine MC.start 0 (by decide +kernel) rfl rfl rfl (ls0 := [some (.ref x)]) rfl ?_
  refine GO.aload_n dX6_init_0 rfl rfl ?_
  refine GO.objInit dX6_init_1 gw_177 gw_27 gw_28 rfl rfl ?_
  refine GO.aload_n dX6_init_4 rfl rfl ?_
  refine GO.new (ci := 19) (RX8, TX8, 4) tyX8 rfl rfl lays_7 tyX8_ok gw_178 gw_99 gw_5 rfl rfl dX6_init_5 (fun o1 K2 V8 hq3 hK4 hE5 h6 _ hV7 => ?_)
  have h9 := (by rw [hK4, updK_ne (K_old h_x hq3)]; exact h_x : K2 x = some (0, 17))
  have h10 := KE.nw KE.rf h_x hq3
  refine GO.dup dX6_init_8 rfl ?_
  refine GO.iconst dX6_init_9 ?_
  refine GO.bipush dX6_init_10 rfl ?_
  refine GO.callI (N := mX8_init_k24) dX6_init_12 gI_RX6_11 rfl (t_X8_init_k24 h6 (ir_c rfl) (ir_c rfl) (by omega) (by omega)) rfl [.ref o1, .ref x] rfl rfl (Nat.le_of_ble_eq_true rfl) rfl (k_vx fun K13 V15 h14 hE12 hF11 => ?_)
  have h16 := h14.2 _ _ (K_ne h9 h6 (by decide)) h9
  have h17 := h14.1.1
  have q18 : vi V15 o1 3 = 0 := h14.1.2
  refine GO.putRF rfl rfl (by decide +kernel) h16 fp_raw_fp_RX6_14 rfl rfl dX6_init_15 (fun V20 e19 => ?_)
  refine GO.aload_n dX6_init_18 rfl rfl ?_
  refine GO.bipush dX6_init_19 rfl ?_
  refine GO.newT (atype := .int) 137 24 gw_89 rfl rfl (fun _ _ h => h) rfl rfl rfl (Or.inr rfl) (fun _ => okv_df rfl rfl rfl) rfl rfl dX6_init_21 (fun o21 K22 V28 hq23 hK24 hE25 h26 hz29 hV27 => ?_)
  have h30 := (by rw [hK24, updK_ne (K_old h16 hq23)]; exact h16 : K22 x = some (0, 17))
  have h31 := hE25.obj (by decide) h17
  have h32 := KE.nw (KE.call (KE.new KE.rf hq3 hK4) h14.2 h10) h16 hq23
  refine GO.putRF rfl rfl (by decide +kernel) h30 fp_raw_fp_RX6_20 rfl rfl dX6_init_23 (fun V34 e33 => ?_)
  refine GO.aload_n dX6_init_26 rfl rfl ?_
  refine GO.bipush dX6_init_27 rfl ?_
  refine GO.newT (atype := .int) 138 24 gw_89 rfl rfl (fun _ _ h => h) rfl rfl rfl (Or.inr rfl) (fun _ => okv_df rfl rfl rfl) rfl rfl dX6_init_29 (fun o35 K36 V42 hq37 hK38 hE39 h40 hz43 hV41 => ?_)
  have h44 := (by rw [hK38, updK_ne (K_old h30 hq37)]; exact h30 : K36 x = some (0, 17))
  have h45 := hE39.obj (by decide) h31
  have h46 := hE39.arr h26
  have h47 := KE.nw (KE.new (KE.call (KE.new KE.rf hq3 hK4) h14.2 h10) hq23 hK24) h30 hq37
  refine GO.putRF rfl rfl (by decide +kernel) h44 fp_raw_fp_RX6_24 rfl rfl dX6_init_31 (fun V49 e48 => ?_)
  refine GO.aload_n dX6_init_34 rfl rfl ?_
  refine GO.bipush dX6_init_35 rfl ?_
  refine GO.newT (atype := .int) 139 64 gw_89 rfl rfl (fun _ _ h => h) rfl rfl rfl (Or.inr rfl) (fun _ => okv_df rfl rfl rfl) rfl rfl dX6_init_37 (fun o50 K51 V57 hq52 hK53 hE54 h55 hz58 hV56 => ?_)
  have h59 := (by rw [hK53, updK_ne (K_old h44 hq52)]; exact h44 : K51 x = some (0, 17))
  have h60 := hE54.obj (by decide) h45
  have h61 := hE54.arr h46
  have h62 := hE54.arr h40
  have h63 := KE.nw (KE.new (KE.new (KE.call (KE.new KE.rf hq3 hK4) h14.2 h10) hq23 hK24) hq37 hK38) h44 hq52
  refine GO.putRF rfl rfl (by decide +kernel) h59 fp_raw_fp_RX6_27 rfl rfl dX6_init_39 (fun V65 e64 => ?_)
  refine GO.aload_n dX6_init_42 rfl rfl ?_
  refine GO.bipush dX6_init_43 rfl ?_
  refine GO.newT (atype := .int) 140 24 gw_89 rfl rfl (fun _ _ h => h) rfl rfl rfl (Or.inr rfl) (fun _ => okv_df rfl rfl rfl) rfl rfl dX6_init_45 (fun o66 K67 V73 hq68 hK69 hE70 h71 hz74 hV72 => ?_)
  have h75 := (by rw [hK69, updK_ne (K_old h59 hq68)]; exact h59 : K67 x = some (0, 17))
  have h76 := hE70.obj (by decide) h60
  have h77 := hE70.arr h61
  have h78 := hE70.arr h62
  have h79 := hE70.arr h55
  have h80 := KE.nw (KE.new (KE.new (KE.new (KE.call (KE.new KE.rf hq3 hK4) h14.2 h10) hq23 hK24) hq37 hK38) hq52 hK53) h59 hq68
  refine GO.putRF rfl rfl (by decide +kernel) h75 fp_raw_fp_RX6_30 rfl rfl dX6_init_47 (fun V82 e81 => ?_)
  refine GO.aload_n dX6_init_50 rfl rfl ?_
  refine GO.bipush dX6_init_51 rfl ?_
  refine GO.newT (atype := .int) 141 8 gw_89 rfl rfl (fun _ _ h => h) rfl rfl rfl (Or.inr rfl) (fun _ => okv_df rfl rfl rfl) rfl rfl dX6_init_53 (fun o83 K84 V90 hq85 hK86 hE87 h88 hz91 hV89 => ?_)
  have h92 := (by rw [hK86, updK_ne (K_old h75 hq85)]; exact h75 : K84 x = some (0, 17))
  have h93 := hE87.obj (by decide) h76
  have h94 := hE87.arr h77
  have h95 := hE87.arr h78
  have h96 := hE87.arr h79
  have h97 := hE87.arr h71
  have h98 := KE.nw (KE.new (KE.new (KE.new (KE.new (KE.call (KE.new KE.rf hq3 hK4) h14.2 h10) hq23 hK24) hq37 hK38) hq52 hK53) hq68 hK69) h75 hq85
  refine GO.putRF rfl rfl (by decide +kernel) h92 fp_raw_fp_RX6_33 rfl rfl dX6_init_55 (fun V100 e99 => ?_)
  refine GO.aload_n dX6_init_58 rfl rfl ?_
  refine GO.sipush dX6_init_59 rfl ?_
  refine GO.newT (atype := .int) 142 2048 gw_89 rfl rfl (fun _ _ h => h) rfl rfl rfl (Or.inr rfl) (fun _ => okv_df rfl rfl rfl) rfl rfl dX6_init_62 (fun o101 K102 V108 hq103 hK104 hE105 h106 hz109 hV107 => ?_)
  have h110 := (by rw [hK104, updK_ne (K_old h92 hq103)]; exact h92 : K102 x = some (0, 17))
  have h111 := hE105.obj (by decide) h93
  have h112 := hE105.arr h94
  have h113 := hE105.arr h95
  have h114 := hE105.arr h96
  have h115 := hE105.arr h97
  have h116 := hE105.arr h88
  have h117 := KE.nw (KE.new (KE.new (KE.new (KE.new (KE.new (KE.call (KE.new KE.rf hq3 hK4) h14.2 h10) hq23 hK24) hq37 hK38) hq52 hK53) hq68 hK69) hq85 hK86) h92 hq103
  refine GO.putRF rfl rfl (by decide +kernel) h110 fp_raw_fp_RX6_36 rfl rfl dX6_init_64 (fun V119 e118 => ?_)
  refine GO.aload_n dX6_init_67 rfl rfl ?_
  refine GO.bipush dX6_init_68 rfl ?_
  refine GO.newT (atype := .int) 143 8 gw_89 rfl rfl (fun _ _ h => h) rfl rfl rfl (Or.inr rfl) (fun _ => okv_df rfl rfl rfl) rfl rfl dX6_init_70 (fun o120 K121 V127 hq122 hK123 hE124 h125 hz128 hV126 => ?_)
  have h129 := (by rw [hK123, updK_ne (K_old h110 hq122)]; exact h110 : K121 x = some (0, 17))
  have h130 := hE124.obj (by decide) h111
  have h131 := hE124.arr h112
  have h132 := hE124.arr h113
  have h133 := hE124.arr h114
  have h134 := hE124.arr h115
  have h135 := hE124.arr h116
  have h136 := hE124.arr h106
  have h137 := KE.nw (KE.new (KE.new (KE.new (KE.new (KE.new (KE.new (KE.call (KE.new KE.rf hq3 hK4) h14.2 h10) hq23 hK24) hq37 hK38) hq52 hK53) hq68 hK69) hq85 hK86) hq103 hK104) h110 hq122
  refine GO.putRF rfl rfl (by decide +kernel) h129 fp_raw_fp_RX6_39 rfl rfl dX6_init_72 (fun V139 e138 => ?_)
  refine GO.aload_n dX6_init_75 rfl rfl ?_
  refine GO.iconst dX6_init_76 ?_
  refine GO.putRW rfl (by decide +kernel) h129 fp_raw_fp_RX6_42 rfl rfl dX6_init_77 (fun V141 e140 => ?_)
  refine GO.aload_n dX6_init_80 rfl rfl ?_
  refine GO.iconst dX6_init_81 ?_
  refine GO.putRW rfl (by decide +kernel) h129 fp_raw_fp_RX6_46 rfl rfl dX6_init_82 (fun V143 e142 => ?_)
  refine GO.aload_n dX6_init_85 rfl rfl ?_
  refine GO.getRaw h129 fl_raw_fl_RX6_24 (Eq.trans (uq_ne e142 (Or.inr (by decide))) (Eq.trans (uq_ne e140 (Or.inr (by decide))) (Eq.trans (uq_ne e138 (Or.inr (by decide))) (Eq.trans (congrFun (hV126 _ (K_old h110 hq122)) _) (Eq.trans (uq_ne e118 (Or.inr (by decide))) (Eq.trans (congrFun (hV107 _ (K_old h92 hq103)) _) (Eq.trans (uq_ne e99 (Or.inr (by decide))) (Eq.trans (congrFun (hV89 _ (K_old h75 hq85)) _) (Eq.trans (uq_ne e81 (Or.inr (by decide))) (Eq.trans (congrFun (hV72 _ (K_old h59 hq68)) _) (Eq.trans (uq_ne e64 (Or.inr (by decide))) (Eq.trans (congrFun (hV56 _ (K_old h44 hq52)) _) (uq_at e48))))))))))))) dX6_init_86 ?_
  refine GO.sipush dX6_init_89 rfl ?_
  refine GO.callS (N := mX4_fill_t138) dX6_init_92 gS_RX6_49 (t_X4_fill_t138 h132 (ir_c rfl)) rfl [] rfl rfl (Nat.le_of_ble_eq_true rfl) rfl (k_vs fun V146 h145 hF144 => ?_)
  have raw_fill := h145.2
  have rw92 := h145.2
  refine GO.promote (ci := 5) rfl h129 (fun j hj => ?_) (fun K147 e148 hE149 h150 => ?_)
  ·
    have hj : j < 10 := hj
    match j, hj with
    | 0, _ => exact ⟨_, (Eq.trans (hF144 _ _ _ h129 h129 (by decide +kernel)) (Eq.trans (uq_ne e142 (Or.inr (by decide))) (Eq.trans (uq_ne e140 (Or.inr (by decide))) (Eq.trans (uq_ne e138 (Or.inr (by decide))) (Eq.trans (congrFun (hV126 _ (K_old h110 hq122)) _) (Eq.trans (uq_ne e118 (Or.inr (by decide))) (Eq.trans (congrFun (hV107 _ (K_old h92 hq103)) _) (Eq.trans (uq_ne e99 (Or.inr (by decide))) (Eq.trans (congrFun (hV89 _ (K_old h75 hq85)) _) (Eq.trans (uq_ne e81 (Or.inr (by decide))) (Eq.trans (congrFun (hV72 _ (K_old h59 hq68)) _) (Eq.trans (uq_ne e64 (Or.inr (by decide))) (Eq.trans (congrFun (hV56 _ (K_old h44 hq52)) _) (Eq.trans (uq_ne e48 (Or.inr (by decide))) (Eq.trans (congrFun (hV41 _ (K_old h30 hq37)) _) (Eq.trans (uq_ne e33 (Or.inr (by decide))) (Eq.trans (congrFun (hV27 _ (K_old h16 hq23)) _) (uq_at e19)))))))))))))))))), h130⟩
    | 1, _ => exact ⟨_, (Eq.trans (hF144 _ _ _ h129 h129 (by decide +kernel)) (Eq.trans (uq_ne e142 (Or.inr (by decide))) (Eq.trans (uq_ne e140 (Or.inr (by decide))) (Eq.trans (uq_ne e138 (Or.inr (by decide))) (Eq.trans (congrFun (hV126 _ (K_old h110 hq122)) _) (Eq.trans (uq_ne e118 (Or.inr (by decide))) (Eq.trans (congrFun (hV107 _ (K_old h92 hq103)) _) (Eq.trans (uq_ne e99 (Or.inr (by decide))) (Eq.trans (congrFun (hV89 _ (K_old h75 hq85)) _) (Eq.trans (uq_ne e81 (Or.inr (by decide))) (Eq.trans (congrFun (hV72 _ (K_old h59 hq68)) _) (Eq.trans (uq_ne e64 (Or.inr (by decide))) (Eq.trans (congrFun (hV56 _ (K_old h44 hq52)) _) (Eq.trans (uq_ne e48 (Or.inr (by decide))) (Eq.trans (congrFun (hV41 _ (K_old h30 hq37)) _) (uq_at e33)))))))))))))))), ⟨_, h131⟩⟩
    | 2, _ => exact ⟨_, (Eq.trans (hF144 _ _ _ h129 h129 (by decide +kernel)) (Eq.trans (uq_ne e142 (Or.inr (by decide))) (Eq.trans (uq_ne e140 (Or.inr (by decide))) (Eq.trans (uq_ne e138 (Or.inr (by decide))) (Eq.trans (congrFun (hV126 _ (K_old h110 hq122)) _) (Eq.trans (uq_ne e118 (Or.inr (by decide))) (Eq.trans (congrFun (hV107 _ (K_old h92 hq103)) _) (Eq.trans (uq_ne e99 (Or.inr (by decide))) (Eq.trans (congrFun (hV89 _ (K_old h75 hq85)) _) (Eq.trans (uq_ne e81 (Or.inr (by decide))) (Eq.trans (congrFun (hV72 _ (K_old h59 hq68)) _) (Eq.trans (uq_ne e64 (Or.inr (by decide))) (Eq.trans (congrFun (hV56 _ (K_old h44 hq52)) _) (uq_at e48)))))))))))))), ⟨_, h132⟩⟩
    | 3, _ => exact ⟨_, (Eq.trans (hF144 _ _ _ h129 h129 (by decide +kernel)) (Eq.trans (uq_ne e142 (Or.inr (by decide))) (Eq.trans (uq_ne e140 (Or.inr (by decide))) (Eq.trans (uq_ne e138 (Or.inr (by decide))) (Eq.trans (congrFun (hV126 _ (K_old h110 hq122)) _) (Eq.trans (uq_ne e118 (Or.inr (by decide))) (Eq.trans (congrFun (hV107 _ (K_old h92 hq103)) _) (Eq.trans (uq_ne e99 (Or.inr (by decide))) (Eq.trans (congrFun (hV89 _ (K_old h75 hq85)) _) (Eq.trans (uq_ne e81 (Or.inr (by decide))) (Eq.trans (congrFun (hV72 _ (K_old h59 hq68)) _) (uq_at e64)))))))))))), ⟨_, h133⟩⟩
    | 4, _ => exact ⟨_, (Eq.trans (hF144 _ _ _ h129 h129 (by decide +kernel)) (Eq.trans (uq_ne e142 (Or.inr (by decide))) (Eq.trans (uq_ne e140 (Or.inr (by decide))) (Eq.trans (uq_ne e138 (Or.inr (by decide))) (Eq.trans (congrFun (hV126 _ (K_old h110 hq122)) _) (Eq.trans (uq_ne e118 (Or.inr (by decide))) (Eq.trans (congrFun (hV107 _ (K_old h92 hq103)) _) (Eq.trans (uq_ne e99 (Or.inr (by decide))) (Eq.trans (congrFun (hV89 _ (K_old h75 hq85)) _) (uq_at e81)))))))))), ⟨_, h134⟩⟩
    | 5, _ => exact ⟨_, (Eq.trans (hF144 _ _ _ h129 h129 (by decide +kernel)) (Eq.trans (uq_ne e142 (Or.inr (by decide))) (Eq.trans (uq_ne e140 (Or.inr (by decide))) (Eq.trans (uq_ne e138 (Or.inr (by decide))) (Eq.trans (congrFun (hV126 _ (K_old h110 hq122)) _) (Eq.trans (uq_ne e118 (Or.inr (by decide))) (Eq.trans (congrFun (hV107 _ (K_old h92 hq103)) _) (uq_at e99)))))))), ⟨_, h135⟩⟩
    | 6, _ => exact ⟨_, (Eq.trans (hF144 _ _ _ h129 h129 (by decide +kernel)) (Eq.trans (uq_ne e142 (Or.inr (by decide))) (Eq.trans (uq_ne e140 (Or.inr (by decide))) (Eq.trans (uq_ne e138 (Or.inr (by decide))) (Eq.trans (congrFun (hV126 _ (K_old h110 hq122)) _) (uq_at e118)))))), ⟨_, h136⟩⟩
    | 7, _ => exact ⟨_, (Eq.trans (hF144 _ _ _ h129 h129 (by decide +kernel)) (Eq.trans (uq_ne e142 (Or.inr (by decide))) (Eq.trans (uq_ne e140 (Or.inr (by decide))) (uq_at e138)))), ⟨_, h125⟩⟩
    | 8, _ => exact okv_any (Eq.trans (hF144 _ _ _ h129 h129 (by decide +kernel)) (Eq.trans (uq_ne e142 (Or.inr (by decide))) (uq_at e140)))
    | 9, _ => exact okv_any (Eq.trans (hF144 _ _ _ h129 h129 (by decide +kernel)) (uq_at e142))
    | j + 10, hj => exact absurd hj (by omega)
  exact GO.retv rfl rfl dX6_init_95 ⟨rfl, ⟨h150, (SSZ.mk (Eq.trans (hF144 _ _ _ h129 h129 (by decide +kernel)) (Eq.trans (uq_ne e142 (Or.inr (by decide))) (Eq.trans (uq_ne e140 (Or.inr (by decide))) (Eq.trans (uq_ne e138 (Or.inr (by decide))) (Eq.trans (congrFun (hV126 _ (K_old h110 hq122)) _) (Eq.trans (uq_ne e118 (Or.inr (by decide))) (Eq.trans (congrFun (hV107 _ (K_old h92 hq103)) _) (Eq.trans (uq_ne e99 (Or.inr (by decide))) (Eq.trans (congrFun (hV89 _ (K_old h75 hq85)) _) (Eq.trans (uq_ne e81 (Or.inr (by decide))) (Eq.trans (congrFun (hV72 _ (K_old h59 hq68)) _) (Eq.trans (uq_ne e64 (Or.inr (by decide))) (Eq.trans (congrFun (hV56 _ (K_old h44 hq52)) _) (Eq.trans (uq_ne e48 (Or.inr (by decide))) (Eq.trans (congrFun (hV41 _ (K_old h30 hq37)) _) (Eq.trans (uq_ne e33 (Or.inr (by decide))) (Eq.trans (congrFun (hV27 _ (K_old h16 hq23)) _) (uq_at e19)))))))))))))))))) (hE149.obj (by decide) h130) (ssq_at (Eq.trans (hF144 _ _ _ h129 h129 (by decide +kernel)) (Eq.trans (uq_ne e142 (Or.inr (by decide))) (Eq.trans (uq_ne e140 (Or.inr (by decide))) (Eq.trans (uq_ne e138 (Or.inr (by decide))) (Eq.trans (congrFun (hV126 _ (K_old h110 hq122)) _) (Eq.trans (uq_ne e118 (Or.inr (by decide))) (Eq.trans (congrFun (hV107 _ (K_old h92 hq103)) _) (Eq.trans (uq_ne e99 (Or.inr (by decide))) (Eq.trans (congrFun (hV89 _ (K_old h75 hq85)) _) (Eq.trans (uq_ne e81 (Or.inr (by decide))) (Eq.trans (congrFun (hV72 _ (K_old h59 hq68)) _) (Eq.trans (uq_ne e64 (Or.inr (by decide))) (Eq.trans (congrFun (hV56 _ (K_old h44 hq52)) _) (Eq.trans (uq_ne e48 (Or.inr (by decide))) (Eq.trans (congrFun (hV41 _ (K_old h30 hq37)) _) (Eq.trans (uq_ne e33 (Or.inr (by decide))) (Eq.trans (congrFun (hV27 _ (K_old h16 hq23)) _) (uq_at e19)))))))))))))))))) (Eq.trans (hF144 _ _ _ h130 h130 (by decide +kernel)) (Eq.trans (uq_ne e142 (Or.inl (K_ne h130 h129 (by decide)))) (Eq.trans (uq_ne e140 (Or.inl (K_ne h130 h129 (by decide)))) (Eq.trans (uq_ne e138 (Or.inl (K_ne h130 h129 (by decide)))) (Eq.trans (congrFun (hV126 _ (K_old h111 hq122)) _) (Eq.trans (uq_ne e118 (Or.inl (K_ne h111 h110 (by decide)))) (Eq.trans (congrFun (hV107 _ (K_old h93 hq103)) _) (Eq.trans (uq_ne e99 (Or.inl (K_ne h93 h92 (by decide)))) (Eq.trans (congrFun (hV89 _ (K_old h76 hq85)) _) (Eq.trans (uq_ne e81 (Or.inl (K_ne h76 h75 (by decide)))) (Eq.trans (congrFun (hV72 _ (K_old h60 hq68)) _) (Eq.trans (uq_ne e64 (Or.inl (K_ne h60 h59 (by decide)))) (Eq.trans (congrFun (hV56 _ (K_old h45 hq52)) _) (Eq.trans (uq_ne e48 (Or.inl (K_ne h45 h44 (by decide)))) (Eq.trans (congrFun (hV41 _ (K_old h31 hq37)) _) (Eq.trans (uq_ne e33 (Or.inl (K_ne h31 h30 (by decide)))) (Eq.trans (congrFun (hV27 _ (K_old h17 hq23)) _) (uq_ne e19 (Or.inl (K_ne h17 h16 (by decide))))))))))))))))))))) q18))⟩, KE.promote (KE.new (KE.new (KE.new (KE.new (KE.new (KE.new (KE.new (KE.call (KE.new KE.rf hq3 hK4) h14.2 h10) hq23 hK24) hq37 hK38) hq52 hK53) hq68 hK69) hq85 hK86) hq103 hK104) hq122 hK123) e148⟩

set_option maxHeartbeats 1000000 in
theorem t_X8_init_k27 {K : Kmap} {V : Vmap} {x : Nat} {p0 : Int} {p1 : Int} (h_x : K x = some (0, 19)) (r_p0 : ir p0) (r_p1 : ir p1) (q_0 : p0 = 5) (q_1 : p1 = 40) : MC mX8_init_k27 K V [.ref x, ti p0, ti p1] (VX (fun K1 V1 => (K1 x = some (0, 27) ∧ vi V1 x 3 = 0) ∧ KE K K1 x)) := by
  refine MC.start 0 (by decide +kernel) rfl rfl rfl (ls0 := [some (.ref x), some (ti p0), some (ti p1)]) rfl ?_
  refine GO.aload_n dX8_init_0 rfl rfl ?_
  refine GO.objInit dX8_init_1 gw_103 gw_27 gw_28 rfl rfl ?_
  refine GO.aload_n dX8_init_4 rfl rfl ?_
  refine GO.iconst dX8_init_5 ?_
  refine GO.putRW rfl (by decide +kernel) h_x fp_raw_fp_RX8_9 rfl rfl dX8_init_6 (fun V2 e1 => ?_)
  refine GO.aload_n dX8_init_9 rfl rfl ?_
  refine GO.iload_n dX8_init_10 rfl rfl ?_
  refine GO.putRF rfl rfl (by decide +kernel) h_x fp_raw_fp_RX8_15 rfl rfl dX8_init_11 (fun V4 e3 => ?_)
  refine GO.aload_n dX8_init_14 rfl rfl ?_
  refine GO.iload_n dX8_init_15 rfl rfl ?_
  refine GO.putRF rfl rfl (by decide +kernel) h_x fp_raw_fp_RX8_18 rfl rfl dX8_init_16 (fun V6 e5 => ?_)
  refine GO.aload_n dX8_init_19 rfl rfl ?_
  refine GO.iconst dX8_init_20 ?_
  refine GO.iload_n dX8_init_21 rfl rfl ?_
  refine GO.iload_n dX8_init_22 rfl rfl ?_
  refine GO.imul dX8_init_23 ?_
  have q7 : -2147483648 ≤ p1 ∧ p1 ≤ 2147483647 := r_p1
  have q8 : -2147483648 ≤ p0 ∧ p0 ≤ 2147483647 := r_p0
  have m9 := mul_rng (a := p0) (b := p1) (A := 5) (B := 40) (by omega) (by omega) (by omega) (by omega)
  have m10 := mul_low (a := p0) (b := p1) (m := 5) (n := 40) (by omega) (by omega) (by omega) (by omega)
  refine GO.callS (N := mJ9_max_7cf53) dX8_init_24 gS_RX8_21 (t_J9_max_7cf53 (ir_c rfl) ⟨by omega, by omega⟩) rfl [.ref x] rfl rfl (Nat.le_of_ble_eq_true rfl) rfl (k_ip fun X11 r12 h13 => ?_)
  have q14 : -2147483648 ≤ X11 ∧ X11 ≤ 2147483647 := r12
  refine GO.newIT 149 200 gw_89 rfl rfl (fun _ _ => okv_df rfl rfl rfl) r12 (by omega) (by omega) rfl (Or.inr (by show _ = ((200 : Nat) : Int); omega)) rfl rfl dX8_init_27 (fun o15 K16 V22 hq17 hK18 hE19 h20 _ hV21 => ?_)
  have h23 := (by rw [hK18, updK_ne (K_old h_x hq17)]; exact h_x : K16 x = some (0, 19))
  have h24 := KE.nw KE.rf h_x hq17
  refine GO.putRF rfl rfl (by decide +kernel) h23 fp_raw_fp_RX8_27 rfl rfl dX8_init_29 (fun V26 e25 => ?_)
  refine GO.promoteT 27 rfl rfl h23 (fun j hj => ?_) (fun K27 e28 hE29 h30 => ?_)
  ·
    have hj : j < 4 := hj
    match j, hj with
    | 0, _ => exact okv_at (Eq.trans (uq_ne e25 (Or.inr (by decide))) (Eq.trans (congrFun (hV21 _ (K_old h_x hq17)) _) (Eq.trans (uq_ne e5 (Or.inr (by decide))) (uq_at e3)))) r_p0 (by omega) (by omega)
    | 1, _ => exact okv_at (Eq.trans (uq_ne e25 (Or.inr (by decide))) (Eq.trans (congrFun (hV21 _ (K_old h_x hq17)) _) (uq_at e5))) r_p1 (by omega) (by omega)
    | 2, _ => exact ⟨_, (uq_at e25), ⟨_, h20⟩⟩
    | 3, _ => exact okv_at (Eq.trans (uq_ne e25 (Or.inr (by decide))) (Eq.trans (congrFun (hV21 _ (K_old h_x hq17)) _) (Eq.trans (uq_ne e5 (Or.inr (by decide))) (Eq.trans (uq_ne e3 (Or.inr (by decide))) (uq_at e1))))) (ir_c rfl) (by omega) (by omega)
    | j + 4, hj => exact absurd hj (by omega)
  exact GO.retv rfl rfl dX8_init_32 ⟨rfl, ⟨h30, vi_at (Eq.trans (uq_ne e25 (Or.inr (by decide))) (Eq.trans (congrFun (hV21 _ (K_old h_x hq17)) _) (Eq.trans (uq_ne e5 (Or.inr (by decide))) (Eq.trans (uq_ne e3 (Or.inr (by decide))) (uq_at e1))))) (ir_c rfl)⟩, KE.promote (KE.new KE.rf hq17 hK18) e28⟩

set_option maxHeartbeats 1000000 in
theorem t_X8_init_k28 {K : Kmap} {V : Vmap} {x : Nat} {p0 : Int} {p1 : Int} (h_x : K x = some (0, 19)) (r_p0 : ir p0) (r_p1 : ir p1) (q_0 : p0 = 5) (q_1 : p1 = 60) : MC mX8_init_k28 K V [.ref x, ti p0, ti p1] (VX (fun K1 V1 => (K1 x = some (0, 28) ∧ vi V1 x 3 = 0) ∧ KE K K1 x)) := by
  refine MC.start 0 (by decide +kernel) rfl rfl rfl (ls0 := [some (.ref x), some (ti p0), some (ti p1)]) rfl ?_
  refine GO.aload_n dX8_init_0 rfl rfl ?_
  refine GO.objInit dX8_init_1 gw_103 gw_27 gw_28 rfl rfl ?_
  refine GO.aload_n dX8_init_4 rfl rfl ?_
  refine GO.iconst dX8_init_5 ?_
  refine GO.putRW rfl (by decide +kernel) h_x fp_raw_fp_RX8_9 rfl rfl dX8_init_6 (fun V2 e1 => ?_)
  refine GO.aload_n dX8_init_9 rfl rfl ?_
  refine GO.iload_n dX8_init_10 rfl rfl ?_
  refine GO.putRF rfl rfl (by decide +kernel) h_x fp_raw_fp_RX8_15 rfl rfl dX8_init_11 (fun V4 e3 => ?_)
  refine GO.aload_n dX8_init_14 rfl rfl ?_
  refine GO.iload_n dX8_init_15 rfl rfl ?_
  refine GO.putRF rfl rfl (by decide +kernel) h_x fp_raw_fp_RX8_18 rfl rfl dX8_init_16 (fun V6 e5 => ?_)
  refine GO.aload_n dX8_init_19 rfl rfl ?_
  refine GO.iconst dX8_init_20 ?_
  refine GO.iload_n dX8_init_21 rfl rfl ?_
  refine GO.iload_n dX8_init_22 rfl rfl ?_
  refine GO.imul dX8_init_23 ?_
  have q7 : -2147483648 ≤ p1 ∧ p1 ≤ 2147483647 := r_p1
  have q8 : -2147483648 ≤ p0 ∧ p0 ≤ 2147483647 := r_p0
  have m9 := mul_rng (a := p0) (b := p1) (A := 5) (B := 60) (by omega) (by omega) (by omega) (by omega)
  have m10 := mul_low (a := p0) (b := p1) (m := 5) (n := 60) (by omega) (by omega) (by omega) (by omega)
  refine GO.callS (N := mJ9_max_7cf53) dX8_init_24 gS_RX8_21 (t_J9_max_7cf53 (ir_c rfl) ⟨by omega, by omega⟩) rfl [.ref x] rfl rfl (Nat.le_of_ble_eq_true rfl) rfl (k_ip fun X11 r12 h13 => ?_)
  have q14 : -2147483648 ≤ X11 ∧ X11 ≤ 2147483647 := r12
  refine GO.newIT 150 300 gw_89 rfl rfl (fun _ _ => okv_df rfl rfl rfl) r12 (by omega) (by omega) rfl (Or.inr (by show _ = ((300 : Nat) : Int); omega)) rfl rfl dX8_init_27 (fun o15 K16 V22 hq17 hK18 hE19 h20 _ hV21 => ?_)
  have h23 := (by rw [hK18, updK_ne (K_old h_x hq17)]; exact h_x : K16 x = some (0, 19))
  have h24 := KE.nw KE.rf h_x hq17
  refine GO.putRF rfl rfl (by decide +kernel) h23 fp_raw_fp_RX8_27 rfl rfl dX8_init_29 (fun V26 e25 => ?_)
  refine GO.promoteT 28 rfl rfl h23 (fun j hj => ?_) (fun K27 e28 hE29 h30 => ?_)
  ·
    have hj : j < 4 := hj
    match j, hj with
    | 0, _ => exact okv_at (Eq.trans (uq_ne e25 (Or.inr (by decide))) (Eq.trans (congrFun (hV21 _ (K_old h_x hq17)) _) (Eq.trans (uq_ne e5 (Or.inr (by decide))) (uq_at e3)))) r_p0 (by omega) (by omega)
    | 1, _ => exact okv_at (Eq.trans (uq_ne e25 (Or.inr (by decide))) (Eq.trans (congrFun (hV21 _ (K_old h_x hq17)) _) (uq_at e5))) r_p1 (by omega) (by omega)
    | 2, _ => exact ⟨_, (uq_at e25), ⟨_, h20⟩⟩
    | 3, _ => exact okv_at (Eq.trans (uq_ne e25 (Or.inr (by decide))) (Eq.trans (congrFun (hV21 _ (K_old h_x hq17)) _) (Eq.trans (uq_ne e5 (Or.inr (by decide))) (Eq.trans (uq_ne e3 (Or.inr (by decide))) (uq_at e1))))) (ir_c rfl) (by omega) (by omega)
    | j + 4, hj => exact absurd hj (by omega)
  exact GO.retv rfl rfl dX8_init_32 ⟨rfl, ⟨h30, vi_at (Eq.trans (uq_ne e25 (Or.inr (by decide))) (Eq.trans (congrFun (hV21 _ (K_old h_x hq17)) _) (Eq.trans (uq_ne e5 (Or.inr (by decide))) (Eq.trans (uq_ne e3 (Or.inr (by decide))) (uq_at e1))))) (ir_c rfl)⟩, KE.promote (KE.new KE.rf hq17 hK18) e28⟩

set_option maxHeartbeats 1000000 in
theorem t_X8_init_k29 {K : Kmap} {V : Vmap} {x : Nat} {p0 : Int} {p1 : Int} (h_x : K x = some (0, 19)) (r_p0 : ir p0) (r_p1 : ir p1) (q_0 : p0 = 3) (q_1 : p1 = 10) : MC mX8_init_k29 K V [.ref x, ti p0, ti p1] (VX (fun K1 V1 => (K1 x = some (0, 29) ∧ vi V1 x 3 = 0) ∧ KE K K1 x)) := by
  refine MC.start 0 (by decide +kernel) rfl rfl rfl (ls0 := [some (.ref x), some (ti p0), some (ti p1)]) rfl ?_
  refine GO.aload_n dX8_init_0 rfl rfl ?_
  refine GO.objInit dX8_init_1 gw_103 gw_27 gw_28 rfl rfl ?_
  refine GO.aload_n dX8_init_4 rfl rfl ?_
  refine GO.iconst dX8_init_5 ?_
  refine GO.putRW rfl (by decide +kernel) h_x fp_raw_fp_RX8_9 rfl rfl dX8_init_6 (fun V2 e1 => ?_)
  refine GO.aload_n dX8_init_9 rfl rfl ?_
  refine GO.iload_n dX8_init_10 rfl rfl ?_
  refine GO.putRF rfl rfl (by decide +kernel) h_x fp_raw_fp_RX8_15 rfl rfl dX8_init_11 (fun V4 e3 => ?_)
  refine GO.aload_n dX8_init_14 rfl rfl ?_
  refine GO.iload_n dX8_init_15 rfl rfl ?_
  refine GO.putRF rfl rfl (by decide +kernel) h_x fp_raw_fp_RX8_18 rfl rfl dX8_init_16 (fun V6 e5 => ?_)
  refine GO.aload_n dX8_init_19 rfl rfl ?_
  refine GO.iconst dX8_init_20 ?_
  refine GO.iload_n dX8_init_21 rfl rfl ?_
  refine GO.iload_n dX8_init_22 rfl rfl ?_
  refine GO.imul dX8_init_23 ?_
  have q7 : -2147483648 ≤ p1 ∧ p1 ≤ 2147483647 := r_p1
  have q8 : -2147483648 ≤ p0 ∧ p0 ≤ 2147483647 := r_p0
  have m9 := mul_rng (a := p0) (b := p1) (A := 3) (B := 10) (by omega) (by omega) (by omega) (by omega)
  have m10 := mul_low (a := p0) (b := p1) (m := 3) (n := 10) (by omega) (by omega) (by omega) (by omega)
  refine GO.callS (N := mJ9_max_7cf53) dX8_init_24 gS_RX8_21 (t_J9_max_7cf53 (ir_c rfl) ⟨by omega, by omega⟩) rfl [.ref x] rfl rfl (Nat.le_of_ble_eq_true rfl) rfl (k_ip fun X11 r12 h13 => ?_)
  have q14 : -2147483648 ≤ X11 ∧ X11 ≤ 2147483647 := r12
  refine GO.newIT 151 30 gw_89 rfl rfl (fun _ _ => okv_df rfl rfl rfl) r12 (by omega) (by omega) rfl (Or.inr (by show _ = ((30 : Nat) : Int); omega)) rfl rfl dX8_init_27 (fun o15 K16 V22 hq17 hK18 hE19 h20 _ hV21 => ?_)
  have h23 := (by rw [hK18, updK_ne (K_old h_x hq17)]; exact h_x : K16 x = some (0, 19))
  have h24 := KE.nw KE.rf h_x hq17
  refine GO.putRF rfl rfl (by decide +kernel) h23 fp_raw_fp_RX8_27 rfl rfl dX8_init_29 (fun V26 e25 => ?_)
  refine GO.promoteT 29 rfl rfl h23 (fun j hj => ?_) (fun K27 e28 hE29 h30 => ?_)
  ·
    have hj : j < 4 := hj
    match j, hj with
    | 0, _ => exact okv_at (Eq.trans (uq_ne e25 (Or.inr (by decide))) (Eq.trans (congrFun (hV21 _ (K_old h_x hq17)) _) (Eq.trans (uq_ne e5 (Or.inr (by decide))) (uq_at e3)))) r_p0 (by omega) (by omega)
    | 1, _ => exact okv_at (Eq.trans (uq_ne e25 (Or.inr (by decide))) (Eq.trans (congrFun (hV21 _ (K_old h_x hq17)) _) (uq_at e5))) r_p1 (by omega) (by omega)
    | 2, _ => exact ⟨_, (uq_at e25), ⟨_, h20⟩⟩
    | 3, _ => exact okv_at (Eq.trans (uq_ne e25 (Or.inr (by decide))) (Eq.trans (congrFun (hV21 _ (K_old h_x hq17)) _) (Eq.trans (uq_ne e5 (Or.inr (by decide))) (Eq.trans (uq_ne e3 (Or.inr (by decide))) (uq_at e1))))) (ir_c rfl) (by omega) (by omega)
    | j + 4, hj => exact absurd hj (by omega)
  exact GO.retv rfl rfl dX8_init_32 ⟨rfl, ⟨h30, vi_at (Eq.trans (uq_ne e25 (Or.inr (by decide))) (Eq.trans (congrFun (hV21 _ (K_old h_x hq17)) _) (Eq.trans (uq_ne e5 (Or.inr (by decide))) (Eq.trans (uq_ne e3 (Or.inr (by decide))) (uq_at e1))))) (ir_c rfl)⟩, KE.promote (KE.new KE.rf hq17 hK18) e28⟩

set_option maxHeartbeats 1000000 in
theorem t_X8_init_k26 {K : Kmap} {V : Vmap} {x : Nat} {p0 : Int} {p1 : Int} (h_x : K x = some (0, 19)) (r_p0 : ir p0) (r_p1 : ir p1) (q_0 : p0 = 5) (q_1 : p1 = 200) : MC mX8_init_k26 K V [.ref x, ti p0, ti p1] (VX (fun K1 V1 => (K1 x = some (0, 26) ∧ vi V1 x 3 = 0) ∧ KE K K1 x)) := by
  refine MC.start 0 (by decide +kernel) rfl rfl rfl (ls0 := [some (.ref x), some (ti p0), some (ti p1)]) rfl ?_
  refine GO.aload_n dX8_init_0 rfl rfl ?_
  refine GO.objInit dX8_init_1 gw_103 gw_27 gw_28 rfl rfl ?_
  refine GO.aload_n dX8_init_4 rfl rfl ?_
  refine GO.iconst dX8_init_5 ?_
  refine GO.putRW rfl (by decide +kernel) h_x fp_raw_fp_RX8_9 rfl rfl dX8_init_6 (fun V2 e1 => ?_)
  refine GO.aload_n dX8_init_9 rfl rfl ?_
  refine GO.iload_n dX8_init_10 rfl rfl ?_
  refine GO.putRF rfl rfl (by decide +kernel) h_x fp_raw_fp_RX8_15 rfl rfl dX8_init_11 (fun V4 e3 => ?_)
  refine GO.aload_n dX8_init_14 rfl rfl ?_
  refine GO.iload_n dX8_init_15 rfl rfl ?_
  refine GO.putRF rfl rfl (by decide +kernel) h_x fp_raw_fp_RX8_18 rfl rfl dX8_init_16 (fun V6 e5 => ?_)
  refine GO.aload_n dX8_init_19 rfl rfl ?_
  refine GO.iconst dX8_init_20 ?_
  refine GO.iload_n dX8_init_21 rfl rfl ?_
  refine GO.iload_n dX8_init_22 rfl rfl ?_
  refine GO.imul dX8_init_23 ?_
  have q7 : -2147483648 ≤ p1 ∧ p1 ≤ 2147483647 := r_p1
  have q8 : -2147483648 ≤ p0 ∧ p0 ≤ 2147483647 := r_p0
  have m9 := mul_rng (a := p0) (b := p1) (A := 5) (B := 200) (by omega) (by omega) (by omega) (by omega)
  have m10 := mul_low (a := p0) (b := p1) (m := 5) (n := 200) (by omega) (by omega) (by omega) (by omega)
  refine GO.callS (N := mJ9_max_7cf53) dX8_init_24 gS_RX8_21 (t_J9_max_7cf53 (ir_c rfl) ⟨by omega, by omega⟩) rfl [.ref x] rfl rfl (Nat.le_of_ble_eq_true rfl) rfl (k_ip fun X11 r12 h13 => ?_)
  have q14 : -2147483648 ≤ X11 ∧ X11 ≤ 2147483647 := r12
  refine GO.newIT 148 1000 gw_89 rfl rfl (fun _ _ => okv_df rfl rfl rfl) r12 (by omega) (by omega) rfl (Or.inr (by show _ = ((1000 : Nat) : Int); omega)) rfl rfl dX8_init_27 (fun o15 K16 V22 hq17 hK18 hE19 h20 _ hV21 => ?_)
  have h23 := (by rw [hK18, updK_ne (K_old h_x hq17)]; exact h_x : K16 x = some (0, 19))
  have h24 := KE.nw KE.rf h_x hq17
  refine GO.putRF rfl rfl (by decide +kernel) h23 fp_raw_fp_RX8_27 rfl rfl dX8_init_29 (fun V26 e25 => ?_)
  refine GO.promoteT 26 rfl rfl h23 (fun j hj => ?_) (fun K27 e28 hE29 h30 => ?_)
  ·
    have hj : j < 4 := hj
    match j, hj with
    | 0, _ => exact okv_at (Eq.trans (uq_ne e25 (Or.inr (by decide))) (Eq.trans (congrFun (hV21 _ (K_old h_x hq17)) _) (Eq.trans (uq_ne e5 (Or.inr (by decide))) (uq_at e3)))) r_p0 (by omega) (by omega)
    | 1, _ => exact okv_at (Eq.trans (uq_ne e25 (Or.inr (by decide))) (Eq.trans (congrFun (hV21 _ (K_old h_x hq17)) _) (uq_at e5))) r_p1 (by omega) (by omega)
    | 2, _ => exact ⟨_, (uq_at e25), ⟨_, h20⟩⟩
    | 3, _ => exact okv_at (Eq.trans (uq_ne e25 (Or.inr (by decide))) (Eq.trans (congrFun (hV21 _ (K_old h_x hq17)) _) (Eq.trans (uq_ne e5 (Or.inr (by decide))) (Eq.trans (uq_ne e3 (Or.inr (by decide))) (uq_at e1))))) (ir_c rfl) (by omega) (by omega)
    | j + 4, hj => exact absurd hj (by omega)
  exact GO.retv rfl rfl dX8_init_32 ⟨rfl, ⟨h30, vi_at (Eq.trans (uq_ne e25 (Or.inr (by decide))) (Eq.trans (congrFun (hV21 _ (K_old h_x hq17)) _) (Eq.trans (uq_ne e5 (Or.inr (by decide))) (Eq.trans (uq_ne e3 (Or.inr (by decide))) (uq_at e1))))) (ir_c rfl)⟩, KE.promote (KE.new KE.rf hq17 hK18) e28⟩

set_option maxHeartbeats 1000000 in
theorem t_X8_init_k30 {K : Kmap} {V : Vmap} {x : Nat} {p0 : Int} {p1 : Int} (h_x : K x = some (0, 19)) (r_p0 : ir p0) (r_p1 : ir p1) (q_0 : p0 = 5) (q_1 : p1 = 200) : MC mX8_init_k30 K V [.ref x, ti p0, ti p1] (VX (fun K1 V1 => (K1 x = some (0, 30) ∧ vi V1 x 3 = 0) ∧ KE K K1 x)) := by
  refine MC.start 0 (by decide +kernel) rfl rfl rfl (ls0 := [some (.ref x), some (ti p0), some (ti p1)]) rfl ?_
  refine GO.aload_n dX8_init_0 rfl rfl ?_
  refine GO.objInit dX8_init_1 gw_103 gw_27 gw_28 rfl rfl ?_
  refine GO.aload_n dX8_init_4 rfl rfl ?_
  refine GO.iconst dX8_init_5 ?_
  refine GO.putRW rfl (by decide +kernel) h_x fp_raw_fp_RX8_9 rfl rfl dX8_init_6 (fun V2 e1 => ?_)
  refine GO.aload_n dX8_init_9 rfl rfl ?_
  refine GO.iload_n dX8_init_10 rfl rfl ?_
  refine GO.putRF rfl rfl (by decide +kernel) h_x fp_raw_fp_RX8_15 rfl rfl dX8_init_11 (fun V4 e3 => ?_)
  refine GO.aload_n dX8_init_14 rfl rfl ?_
  refine GO.iload_n dX8_init_15 rfl rfl ?_
  refine GO.putRF rfl rfl (by decide +kernel) h_x fp_raw_fp_RX8_18 rfl rfl dX8_init_16 (fun V6 e5 => ?_)
  refine GO.aload_n dX8_init_19 rfl rfl ?_
  refine GO.iconst dX8_init_20 ?_
  refine GO.iload_n dX8_init_21 rfl rfl ?_
  refine GO.iload_n dX8_init_22 rfl rfl ?_
  refine GO.imul dX8_init_23 ?_
  have q7 : -2147483648 ≤ p1 ∧ p1 ≤ 2147483647 := r_p1
  have q8 : -2147483648 ≤ p0 ∧ p0 ≤ 2147483647 := r_p0
  have m9 := mul_rng (a := p0) (b := p1) (A := 5) (B := 200) (by omega) (by omega) (by omega) (by omega)
  have m10 := mul_low (a := p0) (b := p1) (m := 5) (n := 200) (by omega) (by omega) (by omega) (by omega)
  refine GO.callS (N := mJ9_max_7cf53) dX8_init_24 gS_RX8_21 (t_J9_max_7cf53 (ir_c rfl) ⟨by omega, by omega⟩) rfl [.ref x] rfl rfl (Nat.le_of_ble_eq_true rfl) rfl (k_ip fun X11 r12 h13 => ?_)
  have q14 : -2147483648 ≤ X11 ∧ X11 ≤ 2147483647 := r12
  refine GO.newIT 152 1000 gw_89 rfl rfl (fun _ _ => okv_df rfl rfl rfl) r12 (by omega) (by omega) rfl (Or.inr (by show _ = ((1000 : Nat) : Int); omega)) rfl rfl dX8_init_27 (fun o15 K16 V22 hq17 hK18 hE19 h20 _ hV21 => ?_)
  have h23 := (by rw [hK18, updK_ne (K_old h_x hq17)]; exact h_x : K16 x = some (0, 19))
  have h24 := KE.nw KE.rf h_x hq17
  refine GO.putRF rfl rfl (by decide +kernel) h23 fp_raw_fp_RX8_27 rfl rfl dX8_init_29 (fun V26 e25 => ?_)
  refine GO.promoteT 30 rfl rfl h23 (fun j hj => ?_) (fun K27 e28 hE29 h30 => ?_)
  ·
    have hj : j < 4 := hj
    match j, hj with
    | 0, _ => exact okv_at (Eq.trans (uq_ne e25 (Or.inr (by decide))) (Eq.trans (congrFun (hV21 _ (K_old h_x hq17)) _) (Eq.trans (uq_ne e5 (Or.inr (by decide))) (uq_at e3)))) r_p0 (by omega) (by omega)
    | 1, _ => exact okv_at (Eq.trans (uq_ne e25 (Or.inr (by decide))) (Eq.trans (congrFun (hV21 _ (K_old h_x hq17)) _) (uq_at e5))) r_p1 (by omega) (by omega)
    | 2, _ => exact ⟨_, (uq_at e25), ⟨_, h20⟩⟩
    | 3, _ => exact okv_at (Eq.trans (uq_ne e25 (Or.inr (by decide))) (Eq.trans (congrFun (hV21 _ (K_old h_x hq17)) _) (Eq.trans (uq_ne e5 (Or.inr (by decide))) (Eq.trans (uq_ne e3 (Or.inr (by decide))) (uq_at e1))))) (ir_c rfl) (by omega) (by omega)
    | j + 4, hj => exact absurd hj (by omega)
  exact GO.retv rfl rfl dX8_init_32 ⟨rfl, ⟨h30, vi_at (Eq.trans (uq_ne e25 (Or.inr (by decide))) (Eq.trans (congrFun (hV21 _ (K_old h_x hq17)) _) (Eq.trans (uq_ne e5 (Or.inr (by decide))) (Eq.trans (uq_ne e3 (Or.inr (by decide))) (uq_at e1))))) (ir_c rfl)⟩, KE.promote (KE.new KE.rf hq17 hK18) e28⟩

set_option maxHeartbeats 1000000 in
theorem t_X8_init_k25 {K : Kmap} {V : Vmap} {x : Nat} {p0 : Int} {p1 : Int} (h_x : K x = some (0, 19)) (r_p0 : ir p0) (r_p1 : ir p1) (q_0 : p0 = 1) (q_1 : p1 = 7) : MC mX8_init_k25 K V [.ref x, ti p0, ti p1] (VX (fun K1 V1 => (K1 x = some (0, 25) ∧ vi V1 x 3 = 0) ∧ KE K K1 x)) := by
  refine MC.start 0 (by decide +kernel) rfl rfl rfl (ls0 := [some (.ref x), some (ti p0), some (ti p1)]) rfl ?_
  refine GO.aload_n dX8_init_0 rfl rfl ?_
  refine GO.objInit dX8_init_1 gw_103 gw_27 gw_28 rfl rfl ?_
  refine GO.aload_n dX8_init_4 rfl rfl ?_
  refine GO.iconst dX8_init_5 ?_
  refine GO.putRW rfl (by decide +kernel) h_x fp_raw_fp_RX8_9 rfl rfl dX8_init_6 (fun V2 e1 => ?_)
  refine GO.aload_n dX8_init_9 rfl rfl ?_
  refine GO.iload_n dX8_init_10 rfl rfl ?_
  refine GO.putRF rfl rfl (by decide +kernel) h_x fp_raw_fp_RX8_15 rfl rfl dX8_init_11 (fun V4 e3 => ?_)
  refine GO.aload_n dX8_init_14 rfl rfl ?_
  refine GO.iload_n dX8_init_15 rfl rfl ?_
  refine GO.putRF rfl rfl (by decide +kernel) h_x fp_raw_fp_RX8_18 rfl rfl dX8_init_16 (fun V6 e5 => ?_)
  refine GO.aload_n dX8_init_19 rfl rfl ?_
  refine GO.iconst dX8_init_20 ?_
  refine GO.iload_n dX8_init_21 rfl rfl ?_
  refine GO.iload_n dX8_init_22 rfl rfl ?_
  refine GO.imul dX8_init_23 ?_
  have q7 : -2147483648 ≤ p1 ∧ p1 ≤ 2147483647 := r_p1
  have q8 : -2147483648 ≤ p0 ∧ p0 ≤ 2147483647 := r_p0
  have m9 := mul_rng (a := p0) (b := p1) (A := 1) (B := 7) (by omega) (by omega) (by omega) (by omega)
  have m10 := mul_low (a := p0) (b := p1) (m := 1) (n := 7) (by omega) (by omega) (by omega) (by omega)
  refine GO.callS (N := mJ9_max_7cf53) dX8_init_24 gS_RX8_21 (t_J9_max_7cf53 (ir_c rfl) ⟨by omega, by omega⟩) rfl [.ref x] rfl rfl (Nat.le_of_ble_eq_true rfl) rfl (k_ip fun X11 r12 h13 => ?_)
  have q14 : -2147483648 ≤ X11 ∧ X11 ≤ 2147483647 := r12
  refine GO.newIT 147 7 gw_89 rfl rfl (fun _ _ => okv_df rfl rfl rfl) r12 (by omega) (by omega) rfl (Or.inr (by show _ = ((7 : Nat) : Int); omega)) rfl rfl dX8_init_27 (fun o15 K16 V22 hq17 hK18 hE19 h20 _ hV21 => ?_)
  have h23 := (by rw [hK18, updK_ne (K_old h_x hq17)]; exact h_x : K16 x = some (0, 19))
  have h24 := KE.nw KE.rf h_x hq17
  refine GO.putRF rfl rfl (by decide +kernel) h23 fp_raw_fp_RX8_27 rfl rfl dX8_init_29 (fun V26 e25 => ?_)
  refine GO.promoteT 25 rfl rfl h23 (fun j hj => ?_) (fun K27 e28 hE29 h30 => ?_)
  ·
    have hj : j < 4 := hj
    match j, hj with
    | 0, _ => exact okv_at (Eq.trans (uq_ne e25 (Or.inr (by decide))) (Eq.trans (congrFun (hV21 _ (K_old h_x hq17)) _) (Eq.trans (uq_ne e5 (Or.inr (by decide))) (uq_at e3)))) r_p0 (by omega) (by omega)
    | 1, _ => exact okv_at (Eq.trans (uq_ne e25 (Or.inr (by decide))) (Eq.trans (congrFun (hV21 _ (K_old h_x hq17)) _) (uq_at e5))) r_p1 (by omega) (by omega)
    | 2, _ => exact ⟨_, (uq_at e25), ⟨_, h20⟩⟩
    | 3, _ => exact okv_at (Eq.trans (uq_ne e25 (Or.inr (by decide))) (Eq.trans (congrFun (hV21 _ (K_old h_x hq17)) _) (Eq.trans (uq_ne e5 (Or.inr (by decide))) (Eq.trans (uq_ne e3 (Or.inr (by decide))) (uq_at e1))))) (ir_c rfl) (by omega) (by omega)
    | j + 4, hj => exact absurd hj (by omega)
  exact GO.retv rfl rfl dX8_init_32 ⟨rfl, ⟨h30, vi_at (Eq.trans (uq_ne e25 (Or.inr (by decide))) (Eq.trans (congrFun (hV21 _ (K_old h_x hq17)) _) (Eq.trans (uq_ne e5 (Or.inr (by decide))) (Eq.trans (uq_ne e3 (Or.inr (by decide))) (uq_at e1))))) (ir_c rfl)⟩, KE.promote (KE.new KE.rf hq17 hK18) e28⟩

set_option maxHeartbeats 1000000 in
theorem t_X8_init_k31 {K : Kmap} {V : Vmap} {x : Nat} {p0 : Int} {p1 : Int} (h_x : K x = some (0, 19)) (r_p0 : ir p0) (r_p1 : ir p1) (q_0 : p0 = 1) (q_1 : p1 = 400) : MC mX8_init_k31 K V [.ref x, ti p0, ti p1] (VX (fun K1 V1 => (K1 x = some (0, 31) ∧ vi V1 x 3 = 0) ∧ KE K K1 x)) := by
  refine MC.start 0 (by decide +kernel) rfl rfl rfl (ls0 := [some (.ref x), some (ti p0), some (ti p1)]) rfl ?_
  refine GO.aload_n dX8_init_0 rfl rfl ?_
  refine GO.objInit dX8_init_1 gw_103 gw_27 gw_28 rfl rfl ?_
  refine GO.aload_n dX8_init_4 rfl rfl ?_
  refine GO.iconst dX8_init_5 ?_
  refine GO.putRW rfl (by decide +kernel) h_x fp_raw_fp_RX8_9 rfl rfl dX8_init_6 (fun V2 e1 => ?_)
  refine GO.aload_n dX8_init_9 rfl rfl ?_
  refine GO.iload_n dX8_init_10 rfl rfl ?_
  refine GO.putRF rfl rfl (by decide +kernel) h_x fp_raw_fp_RX8_15 rfl rfl dX8_init_11 (fun V4 e3 => ?_)
  refine GO.aload_n dX8_init_14 rfl rfl ?_
  refine GO.iload_n dX8_init_15 rfl rfl ?_
  refine GO.putRF rfl rfl (by decide +kernel) h_x fp_raw_fp_RX8_18 rfl rfl dX8_init_16 (fun V6 e5 => ?_)
  refine GO.aload_n dX8_init_19 rfl rfl ?_
  refine GO.iconst dX8_init_20 ?_
  refine GO.iload_n dX8_init_21 rfl rfl ?_
  refine GO.iload_n dX8_init_22 rfl rfl ?_
  refine GO.imul dX8_init_23 ?_
  have q7 : -2147483648 ≤ p1 ∧ p1 ≤ 2147483647 := r_p1
  have q8 : -2147483648 ≤ p0 ∧ p0 ≤ 2147483647 := r_p0
  have m9 := mul_rng (a := p0) (b := p1) (A := 1) (B := 400) (by omega) (by omega) (by omega) (by omega)
  have m10 := mul_low (a := p0) (b := p1) (m := 1) (n := 400) (by omega) (by omega) (by omega) (by omega)
  refine GO.callS (N := mJ9_max_7cf53) dX8_init_24 gS_RX8_21 (t_J9_max_7cf53 (ir_c rfl) ⟨by omega, by omega⟩) rfl [.ref x] rfl rfl (Nat.le_of_ble_eq_true rfl) rfl (k_ip fun X11 r12 h13 => ?_)
  have q14 : -2147483648 ≤ X11 ∧ X11 ≤ 2147483647 := r12
  refine GO.newIT 153 400 gw_89 rfl rfl (fun _ _ => okv_df rfl rfl rfl) r12 (by omega) (by omega) rfl (Or.inr (by show _ = ((400 : Nat) : Int); omega)) rfl rfl dX8_init_27 (fun o15 K16 V22 hq17 hK18 hE19 h20 _ hV21 => ?_)
  have h23 := (by rw [hK18, updK_ne (K_old h_x hq17)]; exact h_x : K16 x = some (0, 19))
  have h24 := KE.nw KE.rf h_x hq17
  refine GO.putRF rfl rfl (by decide +kernel) h23 fp_raw_fp_RX8_27 rfl rfl dX8_init_29 (fun V26 e25 => ?_)
  refine GO.promoteT 31 rfl rfl h23 (fun j hj => ?_) (fun K27 e28 hE29 h30 => ?_)
  ·
    have hj : j < 4 := hj
    match j, hj with
    | 0, _ => exact okv_at (Eq.trans (uq_ne e25 (Or.inr (by decide))) (Eq.trans (congrFun (hV21 _ (K_old h_x hq17)) _) (Eq.trans (uq_ne e5 (Or.inr (by decide))) (uq_at e3)))) r_p0 (by omega) (by omega)
    | 1, _ => exact okv_at (Eq.trans (uq_ne e25 (Or.inr (by decide))) (Eq.trans (congrFun (hV21 _ (K_old h_x hq17)) _) (uq_at e5))) r_p1 (by omega) (by omega)
    | 2, _ => exact ⟨_, (uq_at e25), ⟨_, h20⟩⟩
    | 3, _ => exact okv_at (Eq.trans (uq_ne e25 (Or.inr (by decide))) (Eq.trans (congrFun (hV21 _ (K_old h_x hq17)) _) (Eq.trans (uq_ne e5 (Or.inr (by decide))) (Eq.trans (uq_ne e3 (Or.inr (by decide))) (uq_at e1))))) (ir_c rfl) (by omega) (by omega)
    | j + 4, hj => exact absurd hj (by omega)
  exact GO.retv rfl rfl dX8_init_32 ⟨rfl, ⟨h30, vi_at (Eq.trans (uq_ne e25 (Or.inr (by decide))) (Eq.trans (congrFun (hV21 _ (K_old h_x hq17)) _) (Eq.trans (uq_ne e5 (Or.inr (by decide))) (Eq.trans (uq_ne e3 (Or.inr (by decide))) (uq_at e1))))) (ir_c rfl)⟩, KE.promote (KE.new KE.rf hq17 hK18) e28⟩

set_option maxHeartbeats 1000000 in
theorem t_X4_fill_t145 {K : Kmap} {V : Vmap} {p0 n_p0 : Nat} {p1 : Int} (h_p0 : K p0 = some (146, n_p0)) (r_p1 : ir p1) : MC mX4_fill_t145 K V [.ref p0, ti p1] (VS K (fun V1 => (True) ∧ (FLL V V1 p0 n_p0 p1))) := by
  refine MC.start 1 (by decide +kernel) rfl rfl rfl (ls0 := [some (.ref p0), some (ti p1), none]) rfl ?_
  refine GO.aload_n dX4_fill_0 rfl rfl ?_
  refine GO.ifnonnull (tgt := 5) dX4_fill_1 (by decide) ?_
  refine GO.iconst dX4_fill_5 ?_
  refine GO.istore_n (ls1 := [some (.ref p0), some (ti p1), some (ti 0)]) dX4_fill_6 rfl rfl rfl ?_
  refine GO.loop1 (fun i1 W => 0 ≤ i1 ∧ i1 ≤ 5000 ∧ (FLI V W p0 p1 i1) ∧ True) (fun i1 => [some (.ref p0), some (ti p1), some (ti i1)]) (fun i1 W => (2147483647 - i1).toNat) 0 ⟨by omega, by omega, (by first | exact FLI.beg), trivial⟩ rfl (fun i1 Wi1 hp39 ih38 => ?_)
  obtain ⟨l_i1, u_i1, hfl, -⟩ := hp39
  have r_i1 : ir i1 := ⟨by omega, by omega⟩
  show GO mX4_fill_t145 K V (VS K (fun V1 => (True) ∧ (FLL V V1 p0 n_p0 p1))) K Wi1 0 0 7 [some (.ref p0), some (ti p1), some (ti i1)] []
  refine GO.iload_n dX4_fill_7 rfl rfl ?_
  refine GO.aload_n dX4_fill_8 rfl rfl ?_
  refine GO.alen h_p0 dX4_fill_9 (fun h40 => ?_)
  refine GO.icmp_ge (tgt := 23) dX4_fill_10 (by decide) r_i1 ⟨by omega, by omega⟩ (fun c41 => ?_) (fun c41 => ?_)
  ·
    exact GO.retv rfl rfl dX4_fill_23 ⟨rfl, rfl, ⟨trivial, FLI.end hfl (by omega)⟩⟩
  ·
    refine GO.aload_n dX4_fill_13 rfl rfl ?_
    refine GO.iload_n dX4_fill_14 rfl rfl ?_
    refine GO.iload_n dX4_fill_15 rfl rfl ?_
    refine GO.iast (t := 145) rfl rfl (by decide +kernel) h_p0 r_i1 (by omega) (by omega) r_p1 (r_p1).1 (r_p1).2 dX4_fill_16 (fun V43 e42 => ?_)
    refine GO.iinc (X := i1) (n := 1) (Y := i1 + 1) (ls1 := [some (.ref p0), some (ti p1), some (ti (i1 + 1))]) dX4_fill_17 rfl rfl rfl rfl ?_
    refine GO.goto (tgt := 7) dX4_fill_20 (by decide) ?_
    exact ih38 (i1 + 1) V43 ⟨by omega, by omega, (by first | exact FLI.beg | exact FLI.step hfl (by assumption) (by assumption) (by omega) (by omega)), trivial⟩ (by show (2147483647 - (i1 + 1)).toNat < (2147483647 - i1).toNat; omega)
