def mX4_fill_t132 : MRec := (RX4, cX4_fill, 3, (none : Option Jvm.ClassFile.FieldType), yX4_fill, 0, 0, 0, 0, 20657999024695268717247353376024094994637646342633788102645274852325180976134729557037162826241102651487225375781979947008)
def mX0_init : MRec := (RX0, cX0_init, 1, (none : Option Jvm.ClassFile.FieldType), yX0_init, 1, 22, 8, 916, 4149515568880992958512407863691161151012446232242436899995678633252147028408772807732876073795067014360988727705281642122086611418293414247742569408278524824170528004570284690505728)
def mX8_init_k32 : MRec := (RX8, cX8_init, 3, (none : Option Jvm.ClassFile.FieldType), yX8_init, 1, 21, 1, 60, 531137992816767098689588206552468627329593117727031923199444138200403559860852242739162502265229285668889329486246501015346579337652707239409519978766587351943831270835393219031728128)
def mX1_init : MRec := (RX1, cX1_init, 1, (none : Option Jvm.ClassFile.FieldType), yX1_init, 2, 43, 8, 190, 539437023954529084606613022279850949631618010191516796999435452859784865483678059031961916363123493257465725259469102593711369639803530790025293728434815279317953634442196238079098880)
def mX8_init_k24 : MRec := (RX8, cX8_init, 3, (none : Option Jvm.ClassFile.FieldType), yX8_init, 1, 21, 1, 16, 531137992816767098689588206552468627329593117727031923199444138200403559860852242739162502265229285668889329486246501015346579337652707239409519978766587351943831270835393219031728128)
def mX4_fill_t138 : MRec := (RX4, cX4_fill, 3, (none : Option Jvm.ClassFile.FieldType), yX4_fill, 0, 0, 0, 0, 1322111937580497197903830616065542079656809365928562438569297590548811582472622691650378420879430569695182424050046716608512)
def mX6_init : MRec := (RX6, cX6_init, 1, (none : Option Jvm.ClassFile.FieldType), yX6_init, 2, 43, 9, 2220, 663922491020958873361985258190585784161991397158789903999306494862442030323263207254569193373616263895477590420246695566773772983648356671953550351879113620499484270968291570506268672)
def mX8_init_k27 : MRec := (RX8, cX8_init, 3, (none : Option Jvm.ClassFile.FieldType), yX8_init, 1, 21, 1, 200, 531137992816767098689588206552468627329593117727031923199444138200403559860852242739162502265229285668889329486246501015346579337652707239409519978766587351943831270835393219031728128)
def mX8_init_k28 : MRec := (RX8, cX8_init, 3, (none : Option Jvm.ClassFile.FieldType), yX8_init, 1, 21, 1, 300, 531137992816767098689588206552468627329593117727031923199444138200403559860852242739162502265229285668889329486246501015346579337652707239409519978766587351943831270835393219031728128)
def mX8_init_k29 : MRec := (RX8, cX8_init, 3, (none : Option Jvm.ClassFile.FieldType), yX8_init, 1, 21, 1, 30, 531137992816767098689588206552468627329593117727031923199444138200403559860852242739162502265229285668889329486246501015346579337652707239409519978766587351943831270835393219031728128)
def mX8_init_k26 : MRec := (RX8, cX8_init, 3, (none : Option Jvm.ClassFile.FieldType), yX8_init, 1, 21, 1, 1000, 531137992816767098689588206552468627329593117727031923199444138200403559860852242739162502265229285668889329486246501015346579337652707239409519978766587351943831270835393219031728128)
def mX8_init_k30 : MRec := (RX8, cX8_init, 3, (none : Option Jvm.ClassFile.FieldType), yX8_init, 1, 21, 1, 1000, 531137992816767098689588206552468627329593117727031923199444138200403559860852242739162502265229285668889329486246501015346579337652707239409519978766587351943831270835393219031728128)
def mX8_init_k25 : MRec := (RX8, cX8_init, 3, (none : Option Jvm.ClassFile.FieldType), yX8_init, 1, 21, 1, 7, 531137992816767098689588206552468627329593117727031923199444138200403559860852242739162502265229285668889329486246501015346579337652707239409519978766587351943831270835393219031728128)
set_option maxHeartbeats 1000000 in
theorem t_X4_fill_t132 {K : Kmap} {V : Vmap} {p0 n_p0 : Nat} {p1 : Int} (h_p0 : K p0 = some (133, n_p0)) (r_p1 : ir p1) (q_0 : p1 ≥ 0) (q_1 : p1 ≤ 90) : MC mX4_fill_t132 K V [.ref p0, ti p1] (VS K (fun V1 => (True) ∧ (FLL V V1 p0 n_p0 p1))) := by
  refine MC.start 1 (by decide +kernel) rfl rfl rfl (ls0 := [some (.ref p0), some (ti p1), none]) rfl ?_
  refine GO.aload_n dX4_fill_0 rfl rfl ?_
  refine GO.ifnonnull (tgt := 5) dX4_fill_1 (by decide) ?_
  refine GO.iconst dX4_fill_5 ?_
  refine GO.istore_n (ls1 := [some (.ref p0), some (ti p1), some (ti 0)]) dX4_fill_6 rfl rfl rfl ?_
  refine GO.loop1 (fun i1 W => 0 ≤ i1 ∧ i1 ≤ 5000 ∧ (FLI V W p0 p1 i1) ∧ True) (fun i1 => [some (.ref p0), some (ti p1), some (ti i1)]) (fun i1 W => (2147483647 - i1).toNat) 0 ⟨by omega, by omega, (by first | exact FLI.beg), trivial⟩ rfl (fun i1 Wi1 hp48 ih47 => ?_)
  obtain ⟨l_i1, u_i1, hfl, -⟩ := hp48
  have r_i1 : ir i1 := ⟨by omega, by omega⟩
  show GO mX4_fill_t132 K V (VS K (fun V1 => (True) ∧ (FLL V V1 p0 n_p0 p1))) K Wi1 0 0 7 [some (.ref p0), some (ti p1), some (ti i1)] []
  refine GO.iload_n dX4_fill_7 rfl rfl ?_
  refine GO.aload_n dX4_fill_8 rfl rfl ?_
  refine GO.alen h_p0 dX4_fill_9 (fun h49 => ?_)
  refine GO.icmp_ge (tgt := 23) dX4_fill_10 (by decide) r_i1 ⟨by omega, by omega⟩ (fun c50 => ?_) (fun c50 => ?_)
  ·
    exact GO.retv rfl rfl dX4_fill_23 ⟨rfl, rfl, ⟨trivial, FLI.end hfl (by omega)⟩⟩
  ·
    refine GO.aload_n dX4_fill_13 rfl rfl ?_
    refine GO.iload_n dX4_fill_14 rfl rfl ?_
    refine GO.iload_n dX4_fill_15 rfl rfl ?_
    have q52 : -2147483648 ≤ p1 ∧ p1 ≤ 2147483647 := r_p1
    refine GO.iast (t := 132) rfl rfl (by decide +kernel) h_p0 r_i1 (by omega) (by omega) r_p1 (by omega) (by omega) dX4_fill_16 (fun V53 e51 => ?_)
    refine GO.iinc (X := i1) (n := 1) (Y := i1 + 1) (ls1 := [some (.ref p0), some (ti p1), some (ti (i1 + 1))]) dX4_fill_17 rfl rfl rfl rfl ?_
    refine GO.goto (tgt := 7) dX4_fill_20 (by decide) ?_
    exact ih47 (i1 + 1) V53 ⟨by omega, by omega, (by first | exact FLI.beg | exact FLI.step hfl (by assumption) (by assumption) (by omega) (by omega)), trivial⟩ (by show (2147483647 - (i1 + 1)).toNat < (2147483647 - i1).toNat; omega)

set_option maxHeartbeats 1000000 in
theorem t_X0_init {K : Kmap} {V : Vmap} {x : Nat} (h_x : K x = some (0, 12)) : MC mX0_init K V [.ref x] (VX (fun K1 V1 => (K1 x = some (0, 0) ∧ vi V1 x 0 = 0) ∧ KE K K1 x)) := by
  refine MC.start 0 (by decide +kernel) rfl rfl rfl (ls0 := [some (.ref x)]) rfl ?_
  refine GO.aload_n dX0_init_0 rfl rfl ?_
  refine GO.objInit dX0_init_1 gw_34 gw_27 gw_28 rfl rfl ?_
  refine GO.aload_n dX0_init_4 rfl rfl ?_
  refine GO.iconst dX0_init_5 ?_
  refine GO.putRW rfl (by decide +kernel) h_x fp_raw_fp_RX0_9 rfl rfl dX0_init_6 (fun V2 e1 => ?_)
  refine GO.aload_n dX0_init_9 rfl rfl ?_
  refine GO.bipush dX0_init_10 rfl ?_
  refine GO.putRW rfl (by decide +kernel) h_x fp_raw_fp_RX0_15 rfl rfl dX0_init_12 (fun V4 e3 => ?_)
  refine GO.aload_n dX0_init_15 rfl rfl ?_
  refine GO.sipush dX0_init_16 rfl ?_
  refine GO.putRW rfl (by decide +kernel) h_x fp_raw_fp_RX0_18 rfl rfl dX0_init_19 (fun V6 e5 => ?_)
  refine GO.aload_n dX0_init_22 rfl rfl ?_
  refine GO.bipush dX0_init_23 rfl ?_
  refine GO.putRW rfl (by decide +kernel) h_x fp_raw_fp_RX0_21 rfl rfl dX0_init_25 (fun V8 e7 => ?_)
  refine GO.aload_n dX0_init_28 rfl rfl ?_
  refine GO.bipush dX0_init_29 rfl ?_
  refine GO.putRW rfl (by decide +kernel) h_x fp_raw_fp_RX0_24 rfl rfl dX0_init_31 (fun V10 e9 => ?_)
  refine GO.aload_n dX0_init_34 rfl rfl ?_
  refine GO.sipush dX0_init_35 rfl ?_
  refine GO.newT (atype := .int) 125 144 gw_89 rfl rfl (fun _ _ h => h) rfl rfl rfl (Or.inr rfl) (fun _ => okv_df rfl rfl rfl) rfl rfl dX0_init_38 (fun o11 K12 V18 hq13 hK14 hE15 h16 _ hV17 => ?_)
  have h19 := (by rw [hK14, updK_ne (K_old h_x hq13)]; exact h_x : K12 x = some (0, 12))
  have h20 := KE.nw KE.rf h_x hq13
  refine GO.putRF rfl rfl (by decide +kernel) h19 fp_raw_fp_RX0_27 rfl rfl dX0_init_40 (fun V22 e21 => ?_)
  refine GO.aload_n dX0_init_43 rfl rfl ?_
  refine GO.sipush dX0_init_44 rfl ?_
  refine GO.newT (atype := .int) 126 144 gw_89 rfl rfl (fun _ _ h => h) rfl rfl rfl (Or.inr rfl) (fun _ => okv_df rfl rfl rfl) rfl rfl dX0_init_47 (fun o23 K24 V30 hq25 hK26 hE27 h28 _ hV29 => ?_)
  have h31 := (by rw [hK26, updK_ne (K_old h19 hq25)]; exact h19 : K24 x = some (0, 12))
  have h32 := hE27.arr h16
  have h33 := KE.nw (KE.new KE.rf hq13 hK14) h19 hq25
  refine GO.putRF rfl rfl (by decide +kernel) h31 fp_raw_fp_RX0_31 rfl rfl dX0_init_49 (fun V35 e34 => ?_)
  refine GO.aload_n dX0_init_52 rfl rfl ?_
  refine GO.sipush dX0_init_53 rfl ?_
  refine GO.newT (atype := .int) 127 144 gw_89 rfl rfl (fun _ _ h => h) rfl rfl rfl (Or.inr rfl) (fun _ => okv_df rfl rfl rfl) rfl rfl dX0_init_56 (fun o36 K37 V43 hq38 hK39 hE40 h41 _ hV42 => ?_)
  have h44 := (by rw [hK39, updK_ne (K_old h31 hq38)]; exact h31 : K37 x = some (0, 12))
  have h45 := hE40.arr h32
  have h46 := hE40.arr h28
  have h47 := KE.nw (KE.new (KE.new KE.rf hq13 hK14) hq25 hK26) h31 hq38
  refine GO.putRF rfl rfl (by decide +kernel) h44 fp_raw_fp_RX0_34 rfl rfl dX0_init_58 (fun V49 e48 => ?_)
  refine GO.aload_n dX0_init_61 rfl rfl ?_
  refine GO.sipush dX0_init_62 rfl ?_
  refine GO.newT (atype := .int) 128 144 gw_89 rfl rfl (fun _ _ h => h) rfl rfl rfl (Or.inr rfl) (fun _ => okv_df rfl rfl rfl) rfl rfl dX0_init_65 (fun o50 K51 V57 hq52 hK53 hE54 h55 _ hV56 => ?_)
  have h58 := (by rw [hK53, updK_ne (K_old h44 hq52)]; exact h44 : K51 x = some (0, 12))
  have h59 := hE54.arr h45
  have h60 := hE54.arr h46
  have h61 := hE54.arr h41
  have h62 := KE.nw (KE.new (KE.new (KE.new KE.rf hq13 hK14) hq25 hK26) hq38 hK39) h44 hq52
  refine GO.putRF rfl rfl (by decide +kernel) h58 fp_raw_fp_RX0_37 rfl rfl dX0_init_67 (fun V64 e63 => ?_)
  refine GO.aload_n dX0_init_70 rfl rfl ?_
  refine GO.bipush dX0_init_71 rfl ?_
  refine GO.newT (atype := .int) 131 48 gw_89 rfl rfl (fun _ _ h => h) rfl rfl rfl (Or.inr rfl) (fun _ => okv_df rfl rfl rfl) rfl rfl dX0_init_73 (fun o65 K66 V72 hq67 hK68 hE69 h70 _ hV71 => ?_)
  have h73 := (by rw [hK68, updK_ne (K_old h58 hq67)]; exact h58 : K66 x = some (0, 12))
  have h74 := hE69.arr h59
  have h75 := hE69.arr h60
  have h76 := hE69.arr h61
  have h77 := hE69.arr h55
  have h78 := KE.nw (KE.new (KE.new (KE.new (KE.new KE.rf hq13 hK14) hq25 hK26) hq38 hK39) hq52 hK53) h58 hq67
  refine GO.putRF rfl rfl (by decide +kernel) h73 fp_raw_fp_RX0_40 rfl rfl dX0_init_75 (fun V80 e79 => ?_)
  refine GO.aload_n dX0_init_78 rfl rfl ?_
  refine GO.iconst dX0_init_79 ?_
  refine GO.newT (atype := .int) 132 4 gw_89 rfl rfl (fun _ _ h => h) rfl rfl rfl (Or.inr rfl) (fun _ => okv_df rfl rfl rfl) rfl rfl dX0_init_80 (fun o81 K82 V88 hq83 hK84 hE85 h86 _ hV87 => ?_)
  have h89 := (by rw [hK84, updK_ne (K_old h73 hq83)]; exact h73 : K82 x = some (0, 12))
  have h90 := hE85.arr h74
  have h91 := hE85.arr h75
  have h92 := hE85.arr h76
  have h93 := hE85.arr h77
  have h94 := hE85.arr h70
  have h95 := KE.nw (KE.new (KE.new (KE.new (KE.new (KE.new KE.rf hq13 hK14) hq25 hK26) hq38 hK39) hq52 hK53) hq67 hK68) h73 hq83
  refine GO.putRF rfl rfl (by decide +kernel) h89 fp_raw_fp_RX0_43 rfl rfl dX0_init_82 (fun V97 e96 => ?_)
  refine GO.aload_n dX0_init_85 rfl rfl ?_
  refine GO.sipush dX0_init_86 rfl ?_
  refine GO.newT (atype := .int) 129 144 gw_89 rfl rfl (fun _ _ h => h) rfl rfl rfl (Or.inr rfl) (fun _ => okv_df rfl rfl rfl) rfl rfl dX0_init_89 (fun o98 K99 V105 hq100 hK101 hE102 h103 _ hV104 => ?_)
  have h106 := (by rw [hK101, updK_ne (K_old h89 hq100)]; exact h89 : K99 x = some (0, 12))
  have h107 := hE102.arr h90
  have h108 := hE102.arr h91
  have h109 := hE102.arr h92
  have h110 := hE102.arr h93
  have h111 := hE102.arr h94
  have h112 := hE102.arr h86
  have h113 := KE.nw (KE.new (KE.new (KE.new (KE.new (KE.new (KE.new KE.rf hq13 hK14) hq25 hK26) hq38 hK39) hq52 hK53) hq67 hK68) hq83 hK84) h89 hq100
  refine GO.putRF rfl rfl (by decide +kernel) h106 fp_raw_fp_RX0_46 rfl rfl dX0_init_91 (fun V115 e114 => ?_)
  refine GO.aload_n dX0_init_94 rfl rfl ?_
  refine GO.sipush dX0_init_95 rfl ?_
  refine GO.newT (atype := .int) 130 144 gw_89 rfl rfl (fun _ _ h => h) rfl rfl rfl (Or.inr rfl) (fun _ => okv_df rfl rfl rfl) rfl rfl dX0_init_98 (fun o116 K117 V123 hq118 hK119 hE120 h121 _ hV122 => ?_)
  have h124 := (by rw [hK119, updK_ne (K_old h106 hq118)]; exact h106 : K117 x = some (0, 12))
  have h125 := hE120.arr h107
  have h126 := hE120.arr h108
  have h127 := hE120.arr h109
  have h128 := hE120.arr h110
  have h129 := hE120.arr h111
  have h130 := hE120.arr h112
  have h131 := hE120.arr h103
  have h132 := KE.nw (KE.new (KE.new (KE.new (KE.new (KE.new (KE.new (KE.new KE.rf hq13 hK14) hq25 hK26) hq38 hK39) hq52 hK53) hq67 hK68) hq83 hK84) hq100 hK101) h106 hq118
  refine GO.putRF rfl rfl (by decide +kernel) h124 fp_raw_fp_RX0_49 rfl rfl dX0_init_100 (fun V134 e133 => ?_)
  refine GO.aload_n dX0_init_103 rfl rfl ?_
  refine GO.getRaw h124 fl_raw_fl_RX0_43 (Eq.trans (uq_ne e133 (Or.inr (by decide))) (Eq.trans (congrFun (hV122 _ (K_old h106 hq118)) _) (Eq.trans (uq_ne e114 (Or.inr (by decide))) (Eq.trans (congrFun (hV104 _ (K_old h89 hq100)) _) (uq_at e96))))) dX0_init_104 ?_
  refine GO.bipush dX0_init_107 rfl ?_
  refine GO.callS (N := mX4_fill_t132) dX0_init_109 gS_RX0_52 (t_X4_fill_t132 h130 (ir_c rfl) (by omega) (by omega)) rfl [] rfl rfl (Nat.le_of_ble_eq_true rfl) rfl (k_vs fun V137 h136 hF135 => ?_)
  have raw_fill := h136.2
  have rw109 := h136.2
  refine GO.aload_n dX0_init_112 rfl rfl ?_
  refine GO.getRaw h124 fl_raw_fl_RX0_34 (Eq.trans (hF135 _ _ _ h124 h124 (by decide +kernel)) (Eq.trans (uq_ne e133 (Or.inr (by decide))) (Eq.trans (congrFun (hV122 _ (K_old h106 hq118)) _) (Eq.trans (uq_ne e114 (Or.inr (by decide))) (Eq.trans (congrFun (hV104 _ (K_old h89 hq100)) _) (Eq.trans (uq_ne e96 (Or.inr (by decide))) (Eq.trans (congrFun (hV87 _ (K_old h73 hq83)) _) (Eq.trans (uq_ne e79 (Or.inr (by decide))) (Eq.trans (congrFun (hV71 _ (K_old h58 hq67)) _) (Eq.trans (uq_ne e63 (Or.inr (by decide))) (Eq.trans (congrFun (hV56 _ (K_old h44 hq52)) _) (uq_at e48)))))))))))) dX0_init_113 ?_
  refine GO.iconst dX0_init_116 ?_
  refine GO.callS (N := mX4_fill_t127) dX0_init_117 gS_RX0_52 (t_X4_fill_t127 h127 (ir_c rfl)) rfl [] rfl rfl (Nat.le_of_ble_eq_true rfl) rfl (k_vs fun V140 h139 hF138 => ?_)
  have raw_fill := h139.2
  have rw117 := h139.2
  refine GO.promote (ci := 0) rfl h124 (fun j hj => ?_) (fun K141 e142 hE143 h144 => ?_)
  ·
    have hj : j < 13 := hj
    match j, hj with
    | 0, _ => exact okv_at (Eq.trans (hF138 _ _ _ h124 h124 (by decide +kernel)) (Eq.trans (hF135 _ _ _ h124 h124 (by decide +kernel)) (Eq.trans (uq_ne e133 (Or.inr (by decide))) (Eq.trans (congrFun (hV122 _ (K_old h106 hq118)) _) (Eq.trans (uq_ne e114 (Or.inr (by decide))) (Eq.trans (congrFun (hV104 _ (K_old h89 hq100)) _) (Eq.trans (uq_ne e96 (Or.inr (by decide))) (Eq.trans (congrFun (hV87 _ (K_old h73 hq83)) _) (Eq.trans (uq_ne e79 (Or.inr (by decide))) (Eq.trans (congrFun (hV71 _ (K_old h58 hq67)) _) (Eq.trans (uq_ne e63 (Or.inr (by decide))) (Eq.trans (congrFun (hV56 _ (K_old h44 hq52)) _) (Eq.trans (uq_ne e48 (Or.inr (by decide))) (Eq.trans (congrFun (hV42 _ (K_old h31 hq38)) _) (Eq.trans (uq_ne e34 (Or.inr (by decide))) (Eq.trans (congrFun (hV29 _ (K_old h19 hq25)) _) (Eq.trans (uq_ne e21 (Or.inr (by decide))) (Eq.trans (congrFun (hV17 _ (K_old h_x hq13)) _) (Eq.trans (uq_ne e9 (Or.inr (by decide))) (Eq.trans (uq_ne e7 (Or.inr (by decide))) (Eq.trans (uq_ne e5 (Or.inr (by decide))) (Eq.trans (uq_ne e3 (Or.inr (by decide))) (uq_at e1))))))))))))))))))))))) (ir_c rfl) (by omega) (by omega)
    | 1, _ => exact okv_any (Eq.trans (hF138 _ _ _ h124 h124 (by decide +kernel)) (Eq.trans (hF135 _ _ _ h124 h124 (by decide +kernel)) (Eq.trans (uq_ne e133 (Or.inr (by decide))) (Eq.trans (congrFun (hV122 _ (K_old h106 hq118)) _) (Eq.trans (uq_ne e114 (Or.inr (by decide))) (Eq.trans (congrFun (hV104 _ (K_old h89 hq100)) _) (Eq.trans (uq_ne e96 (Or.inr (by decide))) (Eq.trans (congrFun (hV87 _ (K_old h73 hq83)) _) (Eq.trans (uq_ne e79 (Or.inr (by decide))) (Eq.trans (congrFun (hV71 _ (K_old h58 hq67)) _) (Eq.trans (uq_ne e63 (Or.inr (by decide))) (Eq.trans (congrFun (hV56 _ (K_old h44 hq52)) _) (Eq.trans (uq_ne e48 (Or.inr (by decide))) (Eq.trans (congrFun (hV42 _ (K_old h31 hq38)) _) (Eq.trans (uq_ne e34 (Or.inr (by decide))) (Eq.trans (congrFun (hV29 _ (K_old h19 hq25)) _) (Eq.trans (uq_ne e21 (Or.inr (by decide))) (Eq.trans (congrFun (hV17 _ (K_old h_x hq13)) _) (Eq.trans (uq_ne e9 (Or.inr (by decide))) (Eq.trans (uq_ne e7 (Or.inr (by decide))) (Eq.trans (uq_ne e5 (Or.inr (by decide))) (uq_at e3))))))))))))))))))))))
    | 2, _ => exact okv_any (Eq.trans (hF138 _ _ _ h124 h124 (by decide +kernel)) (Eq.trans (hF135 _ _ _ h124 h124 (by decide +kernel)) (Eq.trans (uq_ne e133 (Or.inr (by decide))) (Eq.trans (congrFun (hV122 _ (K_old h106 hq118)) _) (Eq.trans (uq_ne e114 (Or.inr (by decide))) (Eq.trans (congrFun (hV104 _ (K_old h89 hq100)) _) (Eq.trans (uq_ne e96 (Or.inr (by decide))) (Eq.trans (congrFun (hV87 _ (K_old h73 hq83)) _) (Eq.trans (uq_ne e79 (Or.inr (by decide))) (Eq.trans (congrFun (hV71 _ (K_old h58 hq67)) _) (Eq.trans (uq_ne e63 (Or.inr (by decide))) (Eq.trans (congrFun (hV56 _ (K_old h44 hq52)) _) (Eq.trans (uq_ne e48 (Or.inr (by decide))) (Eq.trans (congrFun (hV42 _ (K_old h31 hq38)) _) (Eq.trans (uq_ne e34 (Or.inr (by decide))) (Eq.trans (congrFun (hV29 _ (K_old h19 hq25)) _) (Eq.trans (uq_ne e21 (Or.inr (by decide))) (Eq.trans (congrFun (hV17 _ (K_old h_x hq13)) _) (Eq.trans (uq_ne e9 (Or.inr (by decide))) (Eq.trans (uq_ne e7 (Or.inr (by decide))) (uq_at e5)))))))))))))))))))))
    | 3, _ => exact okv_at (Eq.trans (hF138 _ _ _ h124 h124 (by decide +kernel)) (Eq.trans (hF135 _ _ _ h124 h124 (by decide +kernel)) (Eq.trans (uq_ne e133 (Or.inr (by decide))) (Eq.trans (congrFun (hV122 _ (K_old h106 hq118)) _) (Eq.trans (uq_ne e114 (Or.inr (by decide))) (Eq.trans (congrFun (hV104 _ (K_old h89 hq100)) _) (Eq.trans (uq_ne e96 (Or.inr (by decide))) (Eq.trans (congrFun (hV87 _ (K_old h73 hq83)) _) (Eq.trans (uq_ne e79 (Or.inr (by decide))) (Eq.trans (congrFun (hV71 _ (K_old h58 hq67)) _) (Eq.trans (uq_ne e63 (Or.inr (by decide))) (Eq.trans (congrFun (hV56 _ (K_old h44 hq52)) _) (Eq.trans (uq_ne e48 (Or.inr (by decide))) (Eq.trans (congrFun (hV42 _ (K_old h31 hq38)) _) (Eq.trans (uq_ne e34 (Or.inr (by decide))) (Eq.trans (congrFun (hV29 _ (K_old h19 hq25)) _) (Eq.trans (uq_ne e21 (Or.inr (by decide))) (Eq.trans (congrFun (hV17 _ (K_old h_x hq13)) _) (Eq.trans (uq_ne e9 (Or.inr (by decide))) (uq_at e7)))))))))))))))))))) (ir_c rfl) (by omega) (by omega)
    | 4, _ => exact okv_at (Eq.trans (hF138 _ _ _ h124 h124 (by decide +kernel)) (Eq.trans (hF135 _ _ _ h124 h124 (by decide +kernel)) (Eq.trans (uq_ne e133 (Or.inr (by decide))) (Eq.trans (congrFun (hV122 _ (K_old h106 hq118)) _) (Eq.trans (uq_ne e114 (Or.inr (by decide))) (Eq.trans (congrFun (hV104 _ (K_old h89 hq100)) _) (Eq.trans (uq_ne e96 (Or.inr (by decide))) (Eq.trans (congrFun (hV87 _ (K_old h73 hq83)) _) (Eq.trans (uq_ne e79 (Or.inr (by decide))) (Eq.trans (congrFun (hV71 _ (K_old h58 hq67)) _) (Eq.trans (uq_ne e63 (Or.inr (by decide))) (Eq.trans (congrFun (hV56 _ (K_old h44 hq52)) _) (Eq.trans (uq_ne e48 (Or.inr (by decide))) (Eq.trans (congrFun (hV42 _ (K_old h31 hq38)) _) (Eq.trans (uq_ne e34 (Or.inr (by decide))) (Eq.trans (congrFun (hV29 _ (K_old h19 hq25)) _) (Eq.trans (uq_ne e21 (Or.inr (by decide))) (Eq.trans (congrFun (hV17 _ (K_old h_x hq13)) _) (uq_at e9))))))))))))))))))) (ir_c rfl) (by omega) (by omega)
    | 5, _ => exact ⟨_, (Eq.trans (hF138 _ _ _ h124 h124 (by decide +kernel)) (Eq.trans (hF135 _ _ _ h124 h124 (by decide +kernel)) (Eq.trans (uq_ne e133 (Or.inr (by decide))) (Eq.trans (congrFun (hV122 _ (K_old h106 hq118)) _) (Eq.trans (uq_ne e114 (Or.inr (by decide))) (Eq.trans (congrFun (hV104 _ (K_old h89 hq100)) _) (Eq.trans (uq_ne e96 (Or.inr (by decide))) (Eq.trans (congrFun (hV87 _ (K_old h73 hq83)) _) (Eq.trans (uq_ne e79 (Or.inr (by decide))) (Eq.trans (congrFun (hV71 _ (K_old h58 hq67)) _) (Eq.trans (uq_ne e63 (Or.inr (by decide))) (Eq.trans (congrFun (hV56 _ (K_old h44 hq52)) _) (Eq.trans (uq_ne e48 (Or.inr (by decide))) (Eq.trans (congrFun (hV42 _ (K_old h31 hq38)) _) (Eq.trans (uq_ne e34 (Or.inr (by decide))) (Eq.trans (congrFun (hV29 _ (K_old h19 hq25)) _) (uq_at e21))))))))))))))))), ⟨_, h125⟩⟩
    | 6, _ => exact ⟨_, (Eq.trans (hF138 _ _ _ h124 h124 (by decide +kernel)) (Eq.trans (hF135 _ _ _ h124 h124 (by decide +kernel)) (Eq.trans (uq_ne e133 (Or.inr (by decide))) (Eq.trans (congrFun (hV122 _ (K_old h106 hq118)) _) (Eq.trans (uq_ne e114 (Or.inr (by decide))) (Eq.trans (congrFun (hV104 _ (K_old h89 hq100)) _) (Eq.trans (uq_ne e96 (Or.inr (by decide))) (Eq.trans (congrFun (hV87 _ (K_old h73 hq83)) _) (Eq.trans (uq_ne e79 (Or.inr (by decide))) (Eq.trans (congrFun (hV71 _ (K_old h58 hq67)) _) (Eq.trans (uq_ne e63 (Or.inr (by decide))) (Eq.trans (congrFun (hV56 _ (K_old h44 hq52)) _) (Eq.trans (uq_ne e48 (Or.inr (by decide))) (Eq.trans (congrFun (hV42 _ (K_old h31 hq38)) _) (uq_at e34))))))))))))))), ⟨_, h126⟩⟩
    | 7, _ => exact ⟨_, (Eq.trans (hF138 _ _ _ h124 h124 (by decide +kernel)) (Eq.trans (hF135 _ _ _ h124 h124 (by decide +kernel)) (Eq.trans (uq_ne e133 (Or.inr (by decide))) (Eq.trans (congrFun (hV122 _ (K_old h106 hq118)) _) (Eq.trans (uq_ne e114 (Or.inr (by decide))) (Eq.trans (congrFun (hV104 _ (K_old h89 hq100)) _) (Eq.trans (uq_ne e96 (Or.inr (by decide))) (Eq.trans (congrFun (hV87 _ (K_old h73 hq83)) _) (Eq.trans (uq_ne e79 (Or.inr (by decide))) (Eq.trans (congrFun (hV71 _ (K_old h58 hq67)) _) (Eq.trans (uq_ne e63 (Or.inr (by decide))) (Eq.trans (congrFun (hV56 _ (K_old h44 hq52)) _) (uq_at e48))))))))))))), ⟨_, h127⟩⟩
    | 8, _ => exact ⟨_, (Eq.trans (hF138 _ _ _ h124 h124 (by decide +kernel)) (Eq.trans (hF135 _ _ _ h124 h124 (by decide +kernel)) (Eq.trans (uq_ne e133 (Or.inr (by decide))) (Eq.trans (congrFun (hV122 _ (K_old h106 hq118)) _) (Eq.trans (uq_ne e114 (Or.inr (by decide))) (Eq.trans (congrFun (hV104 _ (K_old h89 hq100)) _) (Eq.trans (uq_ne e96 (Or.inr (by decide))) (Eq.trans (congrFun (hV87 _ (K_old h73 hq83)) _) (Eq.trans (uq_ne e79 (Or.inr (by decide))) (Eq.trans (congrFun (hV71 _ (K_old h58 hq67)) _) (uq_at e63))))))))))), ⟨_, h128⟩⟩
    | 9, _ => exact ⟨_, (Eq.trans (hF138 _ _ _ h124 h124 (by decide +kernel)) (Eq.trans (hF135 _ _ _ h124 h124 (by decide +kernel)) (Eq.trans (uq_ne e133 (Or.inr (by decide))) (Eq.trans (congrFun (hV122 _ (K_old h106 hq118)) _) (Eq.trans (uq_ne e114 (Or.inr (by decide))) (Eq.trans (congrFun (hV104 _ (K_old h89 hq100)) _) (Eq.trans (uq_ne e96 (Or.inr (by decide))) (Eq.trans (congrFun (hV87 _ (K_old h73 hq83)) _) (uq_at e79))))))))), ⟨_, h129⟩⟩
    | 10, _ => exact ⟨_, (Eq.trans (hF138 _ _ _ h124 h124 (by decide +kernel)) (Eq.trans (hF135 _ _ _ h124 h124 (by decide +kernel)) (Eq.trans (uq_ne e133 (Or.inr (by decide))) (Eq.trans (congrFun (hV122 _ (K_old h106 hq118)) _) (Eq.trans (uq_ne e114 (Or.inr (by decide))) (Eq.trans (congrFun (hV104 _ (K_old h89 hq100)) _) (uq_at e96))))))), ⟨_, h130⟩⟩
    | 11, _ => exact ⟨_, (Eq.trans (hF138 _ _ _ h124 h124 (by decide +kernel)) (Eq.trans (hF135 _ _ _ h124 h124 (by decide +kernel)) (Eq.trans (uq_ne e133 (Or.inr (by decide))) (Eq.trans (congrFun (hV122 _ (K_old h106 hq118)) _) (uq_at e114))))), ⟨_, h131⟩⟩
    | 12, _ => exact ⟨_, (Eq.trans (hF138 _ _ _ h124 h124 (by decide +kernel)) (Eq.trans (hF135 _ _ _ h124 h124 (by decide +kernel)) (uq_at e133))), ⟨_, h121⟩⟩
    | j + 13, hj => exact absurd hj (by omega)
  exact GO.retv rfl rfl dX0_init_120 ⟨rfl, ⟨h144, vi_at (Eq.trans (hF138 _ _ _ h124 h124 (by decide +kernel)) (Eq.trans (hF135 _ _ _ h124 h124 (by decide +kernel)) (Eq.trans (uq_ne e133 (Or.inr (by decide))) (Eq.trans (congrFun (hV122 _ (K_old h106 hq118)) _) (Eq.trans (uq_ne e114 (Or.inr (by decide))) (Eq.trans (congrFun (hV104 _ (K_old h89 hq100)) _) (Eq.trans (uq_ne e96 (Or.inr (by decide))) (Eq.trans (congrFun (hV87 _ (K_old h73 hq83)) _) (Eq.trans (uq_ne e79 (Or.inr (by decide))) (Eq.trans (congrFun (hV71 _ (K_old h58 hq67)) _) (Eq.trans (uq_ne e63 (Or.inr (by decide))) (Eq.trans (congrFun (hV56 _ (K_old h44 hq52)) _) (Eq.trans (uq_ne e48 (Or.inr (by decide))) (Eq.trans (congrFun (hV42 _ (K_old h31 hq38)) _) (Eq.trans (uq_ne e34 (Or.inr (by decide))) (Eq.trans (congrFun (hV29 _ (K_old h19 hq25)) _) (Eq.trans (uq_ne e21 (Or.inr (by decide))) (Eq.trans (congrFun (hV17 _ (K_old h_x hq13)) _) (Eq.trans (uq_ne e9 (Or.inr (by decide))) (Eq.trans (uq_ne e7 (Or.inr (by decide))) (Eq.trans (uq_ne e5 (Or.inr (by decide))) (Eq.trans (uq_ne e3 (Or.inr (by decide))) (uq_at e1))))))))))))))))))))))) (ir_c rfl)⟩, KE.promote (KE.new (KE.new (KE.new (KE.new (KE.new (KE.new (KE.new (KE.new KE.rf hq13 hK14) hq25 hK26) hq38 hK39) hq52 hK53) hq67 hK68) hq83 hK84) hq100 hK101) hq118 hK119) e142⟩

set_option maxHeartbeats 1000000 in
theorem t_X8_init_k32 {K : Kmap} {V : Vmap} {x : Nat} {p0 : Int} {p1 : Int} (h_x : K x = some (0, 19)) (r_p0 : ir p0) (r_p1 : ir p1) (q_0 : p0 = 3) (q_1 : p1 = 20) : MC mX8_init_k32 K V [.ref x, ti p0, ti p1] (VX (fun K1 V1 => (K1 x = some (0, 32) ∧ vi V1 x 3 = 0) ∧ KE K K1 x)) := by
  refine MC.start 0 (by decide +kernel) rfl rfl rfl (ls0 := [some (.ref x), some (ti p0), some (ti p1)]) rfl ?_
  refine GO.aload_n dX8_init_0 rfl rfl ?_
  refine GO.objInit dX8_init_1 gw_103 gw_27 gw_28 rfl rfl ?_
  refine GO.aload_n dX8_init_4 rfl rfl ?_
  refine GO.iconst dX8_init_5 ?_
  refine GO.putRW rfl (by decide +kernel) h_x fp_raw_fp_RX8_9 rfl rfl dX8_init_6 (fun V2 e1 => ?_)
  refine GO.aload_n dX8_init_9 rfl rfl ?_
  refine GO.iload_n dX8_init_10 rfl rfl ?_
  refine GO.putRF rfl rfl (by decide +kernel) h_x fp_raw_fp_RX8_15 rfl rfl dX8_init_11 (fun V4 e3 => ?_)
  refine GO.aload_n dX8_init_14 rfl rfl ?_
  refine GO.iload_n dX8_init_15 rfl rfl ?_
  refine GO.putRF rfl rfl (by decide +kernel) h_x fp_raw_fp_RX8_18 rfl rfl dX8_init_16 (fun V6 e5 => ?_)
  refine GO.aload_n dX8_init_19 rfl rfl ?_
  refine GO.iconst dX8_init_20 ?_
  refine GO.iload_n dX8_init_21 rfl rfl ?_
  refine GO.iload_n dX8_init_22 rfl rfl ?_
  refine GO.imul dX8_init_23 ?_
  have q7 : -2147483648 ≤ p1 ∧ p1 ≤ 2147483647 := r_p1
  have q8 : -2147483648 ≤ p0 ∧ p0 ≤ 2147483647 := r_p0
  have m9 := mul_rng (a := p0) (b := p1) (A := 3) (B := 20) (by omega) (by omega) (by omega) (by omega)
  have m10 := mul_low (a := p0) (b := p1) (m := 3) (n := 20) (by omega) (by omega) (by omega) (by omega)
  refine GO.callS (N := mJ9_max_7cf53) dX8_init_24 gS_RX8_21 (t_J9_max_7cf53 (ir_c rfl) ⟨by omega, by omega⟩) rfl [.ref x] rfl rfl (Nat.le_of_ble_eq_true rfl) rfl (k_ip fun X11 r12 h13 => ?_)
  have q14 : -2147483648 ≤ X11 ∧ X11 ≤ 2147483647 := r12
  refine GO.newIT 154 60 gw_89 rfl rfl (fun _ _ => okv_df rfl rfl rfl) r12 (by omega) (by omega) rfl (Or.inr (by show _ = ((60 : Nat) : Int); omega)) rfl rfl dX8_init_27 (fun o15 K16 V22 hq17 hK18 hE19 h20 _ hV21 => ?_)
  have h23 := (by rw [hK18, updK_ne (K_old h_x hq17)]; exact h_x : K16 x = some (0, 19))
  have h24 := KE.nw KE.rf h_x hq17
  refine GO.putRF rfl rfl (by decide +kernel) h23 fp_raw_fp_RX8_27 rfl rfl dX8_init_29 (fun V26 e25 => ?_)
  refine GO.promoteT 32 rfl rfl h23 (fun j hj => ?_) (fun K27 e28 hE29 h30 => ?_)
  ·
    have hj : j < 4 := hj
    match j, hj with
    | 0, _ => exact okv_at (Eq.trans (uq_ne e25 (Or.inr (by decide))) (Eq.trans (congrFun (hV21 _ (K_old h_x hq17)) _) (Eq.trans (uq_ne e5 (Or.inr (by decide))) (uq_at e3)))) r_p0 (by omega) (by omega)
    | 1, _ => exact okv_at (Eq.trans (uq_ne e25 (Or.inr (by decide))) (Eq.trans (congrFun (hV21 _ (K_old h_x hq17)) _) (uq_at e5))) r_p1 (by omega) (by omega)
    | 2, _ => exact ⟨_, (uq_at e25), ⟨_, h20⟩⟩
    | 3, _ => exact okv_at (Eq.trans (uq_ne e25 (Or.inr (by decide))) (Eq.trans (congrFun (hV21 _ (K_old h_x hq17)) _) (Eq.trans (uq_ne e5 (Or.inr (by decide))) (Eq.trans (uq_ne e3 (Or.inr (by decide))) (uq_at e1))))) (ir_c rfl) (by omega) (by omega)
    | j + 4, hj => exact absurd hj (by omega)
  exact GO.retv rfl rfl dX8_init_32 ⟨rfl, ⟨h30, vi_at (Eq.trans (uq_ne e25 (Or.inr (by decide))) (Eq.trans (congrFun (hV21 _ (K_old h_x hq17)) _) (Eq.trans (uq_ne e5 (Or.inr (by decide))) (Eq.trans (uq_ne e3 (Or.inr (by decide))) (uq_at e1))))) (ir_c rfl)⟩, KE.promote (KE.new KE.rf hq17 hK18) e28⟩

set_option maxHeartbeats 1000000 in
theorem t_X1_init {K : Kmap} {V : Vmap} {x : Nat} (h_x : K x = some (0, 13)) : MC mX1_init K V [.ref x] (VX (fun K1 V1 => (K1 x = some (0, 1) ∧ vi V1 x 1 = 0 ∧ vi V1 x 7 = (-1) ∧ (RSZ K1 V1 x)) ∧ KE K K1 x)) := by
  refine MC.start 0 (by decide +kernel) rfl rfl rfl (ls0 := [some (.ref x)]) rfl ?_
  refine GO.aload_n dX1_init_0 rfl rfl ?_
  refine GO.objInit dX1_init_1 gw_95 gw_27 gw_28 rfl rfl ?_
  refine GO.aload_n dX1_init_4 rfl rfl ?_
  refine GO.bipush dX1_init_5 rfl ?_
  refine GO.newQ 8 20 8 rfl rfl gw_96 (List.mem_of_getElem? (i := 4) rfl) rfl rfl (Or.inr rfl) rfl rfl rfl dX1_init_7 (fun o1 K2 V8 hq3 hK4 hE5 h6 hz9 hV7 => ?_)
  have h10 := (by rw [hK4, updK_ne (K_old h_x hq3)]; exact h_x : K2 x = some (0, 13))
  have h11 := KE.nw KE.rf h_x hq3
  refine GO.putRF rfl rfl (by decide +kernel) h10 fp_raw_fp_RX1_11 rfl rfl dX1_init_10 (fun V13 e12 => ?_)
  refine GO.aload_n dX1_init_13 rfl rfl ?_
  refine GO.iconst dX1_init_14 ?_
  refine GO.putRW rfl (by decide +kernel) h10 fp_raw_fp_RX1_17 rfl rfl dX1_init_15 (fun V15 e14 => ?_)
  refine GO.aload_n dX1_init_18 rfl rfl ?_
  refine GO.new (ci := 19) (RX8, TX8, 4) tyX8 rfl rfl lays_7 tyX8_ok gw_98 gw_99 gw_5 rfl rfl dX1_init_19 (fun o16 K17 V23 hq18 hK19 hE20 h21 _ hV22 => ?_)
  have h24 := (by rw [hK19, updK_ne (K_old h10 hq18)]; exact h10 : K17 x = some (0, 13))
  have h25 := hE20.arr h6
  have h26 := KE.nw (KE.new KE.rf hq3 hK4) h10 hq18
  refine GO.dup dX1_init_22 rfl ?_
  refine GO.iconst dX1_init_23 ?_
  refine GO.bipush dX1_init_24 rfl ?_
  refine GO.callI (N := mX8_init_k32) dX1_init_26 gI_RX1_23 rfl (t_X8_init_k32 h21 (ir_c rfl) (ir_c rfl) (by omega) (by omega)) rfl [.ref o16, .ref x] rfl rfl (Nat.le_of_ble_eq_true rfl) rfl (k_vx fun K29 V31 h30 hE28 hF27 => ?_)
  have h32 := h30.2 _ _ (K_ne h24 h21 (by decide)) h24
  have h33 := h30.1.1
  have h34 := hE28.arr h25
  have q35 : vi V31 o16 3 = 0 := h30.1.2
  refine GO.putRF rfl rfl (by decide +kernel) h32 fp_raw_fp_RX1_26 rfl rfl dX1_init_29 (fun V37 e36 => ?_)
  refine GO.aload_n dX1_init_32 rfl rfl ?_
  refine GO.bipush dX1_init_33 rfl ?_
  refine GO.newQ 157 20 8 rfl rfl gw_96 (List.mem_of_getElem? (i := 4) rfl) rfl rfl (Or.inr rfl) rfl rfl rfl dX1_init_35 (fun o38 K39 V45 hq40 hK41 hE42 h43 hz46 hV44 => ?_)
  have h47 := (by rw [hK41, updK_ne (K_old h32 hq40)]; exact h32 : K39 x = some (0, 13))
  have h48 := hE42.arr h34
  have h49 := hE42.obj (by decide) h33
  have h50 := KE.nw (KE.call (KE.new (KE.new KE.rf hq3 hK4) hq18 hK19) h30.2 h26) h32 hq40
  refine GO.putRF rfl rfl (by decide +kernel) h47 fp_raw_fp_RX1_30 rfl rfl dX1_init_38 (fun V52 e51 => ?_)
  refine GO.aload_n dX1_init_41 rfl rfl ?_
  refine GO.bipush dX1_init_42 rfl ?_
  refine GO.newT (atype := .int) 133 20 gw_89 rfl rfl (fun _ _ h => h) rfl rfl rfl (Or.inr rfl) (fun _ => okv_df rfl rfl rfl) rfl rfl dX1_init_44 (fun o53 K54 V60 hq55 hK56 hE57 h58 hz61 hV59 => ?_)
  have h62 := (by rw [hK56, updK_ne (K_old h47 hq55)]; exact h47 : K54 x = some (0, 13))
  have h63 := hE57.arr h48
  have h64 := hE57.obj (by decide) h49
  have h65 := hE57.arr h43
  have h66 := KE.nw (KE.new (KE.call (KE.new (KE.new KE.rf hq3 hK4) hq18 hK19) h30.2 h26) hq40 hK41) h47 hq55
  refine GO.putRF rfl rfl (by decide +kernel) h62 fp_raw_fp_RX1_33 rfl rfl dX1_init_46 (fun V68 e67 => ?_)
  refine GO.aload_n dX1_init_49 rfl rfl ?_
  refine GO.bipush dX1_init_50 rfl ?_
  refine GO.newT (atype := .int) 134 20 gw_89 rfl rfl (fun _ _ h => h) rfl rfl rfl (Or.inr rfl) (fun _ => okv_df rfl rfl rfl) rfl rfl dX1_init_52 (fun o69 K70 V76 hq71 hK72 hE73 h74 hz77 hV75 => ?_)
  have h78 := (by rw [hK72, updK_ne (K_old h62 hq71)]; exact h62 : K70 x = some (0, 13))
  have h79 := hE73.arr h63
  have h80 := hE73.obj (by decide) h64
  have h81 := hE73.arr h65
  have h82 := hE73.arr h58
  have h83 := KE.nw (KE.new (KE.new (KE.call (KE.new (KE.new KE.rf hq3 hK4) hq18 hK19) h30.2 h26) hq40 hK41) hq55 hK56) h62 hq71
  refine GO.putRF rfl rfl (by decide +kernel) h78 fp_raw_fp_RX1_37 rfl rfl dX1_init_54 (fun V85 e84 => ?_)
  refine GO.aload_n dX1_init_57 rfl rfl ?_
  refine GO.iconst dX1_init_58 ?_
  refine GO.putRW rfl (by decide +kernel) h78 fp_raw_fp_RX1_40 rfl rfl dX1_init_59 (fun V87 e86 => ?_)
  refine GO.aload_n dX1_init_62 rfl rfl ?_
  refine GO.iconst dX1_init_63 ?_
  refine GO.putRW rfl (by decide +kernel) h78 fp_raw_fp_RX1_43 rfl rfl dX1_init_64 (fun V89 e88 => ?_)
  refine GO.aload_n dX1_init_67 rfl rfl ?_
  refine GO.bipush dX1_init_68 rfl ?_
  refine GO.newT (atype := .int) 135 14 gw_89 rfl rfl (fun _ _ h => h) rfl rfl rfl (Or.inr rfl) (fun _ => okv_df rfl rfl rfl) rfl rfl dX1_init_70 (fun o90 K91 V97 hq92 hK93 hE94 h95 hz98 hV96 => ?_)
  have h99 := (by rw [hK93, updK_ne (K_old h78 hq92)]; exact h78 : K91 x = some (0, 13))
  have h100 := hE94.arr h79
  have h101 := hE94.obj (by decide) h80
  have h102 := hE94.arr h81
  have h103 := hE94.arr h82
  have h104 := hE94.arr h74
  have h105 := KE.nw (KE.new (KE.new (KE.new (KE.call (KE.new (KE.new KE.rf hq3 hK4) hq18 hK19) h30.2 h26) hq40 hK41) hq55 hK56) hq71 hK72) h78 hq92
  refine GO.putRF rfl rfl (by decide +kernel) h99 fp_raw_fp_RX1_46 rfl rfl dX1_init_72 (fun V107 e106 => ?_)
  refine GO.aload_n dX1_init_75 rfl rfl ?_
  refine GO.bipush dX1_init_76 rfl ?_
  refine GO.newT (atype := .int) 136 32 gw_89 rfl rfl (fun _ _ h => h) rfl rfl rfl (Or.inr rfl) (fun _ => okv_df rfl rfl rfl) rfl rfl dX1_init_78 (fun o108 K109 V115 hq110 hK111 hE112 h113 hz116 hV114 => ?_)
  have h117 := (by rw [hK111, updK_ne (K_old h99 hq110)]; exact h99 : K109 x = some (0, 13))
  have h118 := hE112.arr h100
  have h119 := hE112.obj (by decide) h101
  have h120 := hE112.arr h102
  have h121 := hE112.arr h103
  have h122 := hE112.arr h104
  have h123 := hE112.arr h95
  have h124 := KE.nw (KE.new (KE.new (KE.new (KE.new (KE.call (KE.new (KE.new KE.rf hq3 hK4) hq18 hK19) h30.2 h26) hq40 hK41) hq55 hK56) hq71 hK72) hq92 hK93) h99 hq110
  refine GO.putRF rfl rfl (by decide +kernel) h117 fp_raw_fp_RX1_49 rfl rfl dX1_init_80 (fun V126 e125 => ?_)
  refine GO.aload_n dX1_init_83 rfl rfl ?_
  refine GO.iconst dX1_init_84 ?_
  refine GO.putRW rfl (by decide +kernel) h117 fp_raw_fp_RX1_52 rfl rfl dX1_init_85 (fun V128 e127 => ?_)
  refine GO.aload_n dX1_init_88 rfl rfl ?_
  refine GO.iconst dX1_init_89 ?_
  refine GO.putRW rfl (by decide +kernel) h117 fp_raw_fp_RX1_55 rfl rfl dX1_init_90 (fun V130 e129 => ?_)
  refine GO.aload_n dX1_init_93 rfl rfl ?_
  refine GO.iconst dX1_init_94 ?_
  refine GO.putRW rfl (by decide +kernel) h117 fp_raw_fp_RX1_58 rfl rfl dX1_init_95 (fun V132 e131 => ?_)
  refine GO.promote (ci := 1) rfl h117 (fun j hj => ?_) (fun K133 e134 hE135 h136 => ?_)
  ·
    have hj : j < 13 := hj
    match j, hj with
    | 0, _ => exact ⟨_, (Eq.trans (uq_ne e131 (Or.inr (by decide))) (Eq.trans (uq_ne e129 (Or.inr (by decide))) (Eq.trans (uq_ne e127 (Or.inr (by decide))) (Eq.trans (uq_ne e125 (Or.inr (by decide))) (Eq.trans (congrFun (hV114 _ (K_old h99 hq110)) _) (Eq.trans (uq_ne e106 (Or.inr (by decide))) (Eq.trans (congrFun (hV96 _ (K_old h78 hq92)) _) (Eq.trans (uq_ne e88 (Or.inr (by decide))) (Eq.trans (uq_ne e86 (Or.inr (by decide))) (Eq.trans (uq_ne e84 (Or.inr (by decide))) (Eq.trans (congrFun (hV75 _ (K_old h62 hq71)) _) (Eq.trans (uq_ne e67 (Or.inr (by decide))) (Eq.trans (congrFun (hV59 _ (K_old h47 hq55)) _) (Eq.trans (uq_ne e51 (Or.inr (by decide))) (Eq.trans (congrFun (hV44 _ (K_old h32 hq40)) _) (Eq.trans (uq_ne e36 (Or.inr (by decide))) (Eq.trans (hF27 _ _ _ h24 h32 (by decide +kernel)) (Eq.trans (congrFun (hV22 _ (K_old h10 hq18)) _) (Eq.trans (uq_ne e14 (Or.inr (by decide))) (uq_at e12)))))))))))))))))))), ⟨_, h118⟩⟩
    | 1, _ => exact okv_at (Eq.trans (uq_ne e131 (Or.inr (by decide))) (Eq.trans (uq_ne e129 (Or.inr (by decide))) (Eq.trans (uq_ne e127 (Or.inr (by decide))) (Eq.trans (uq_ne e125 (Or.inr (by decide))) (Eq.trans (congrFun (hV114 _ (K_old h99 hq110)) _) (Eq.trans (uq_ne e106 (Or.inr (by decide))) (Eq.trans (congrFun (hV96 _ (K_old h78 hq92)) _) (Eq.trans (uq_ne e88 (Or.inr (by decide))) (Eq.trans (uq_ne e86 (Or.inr (by decide))) (Eq.trans (uq_ne e84 (Or.inr (by decide))) (Eq.trans (congrFun (hV75 _ (K_old h62 hq71)) _) (Eq.trans (uq_ne e67 (Or.inr (by decide))) (Eq.trans (congrFun (hV59 _ (K_old h47 hq55)) _) (Eq.trans (uq_ne e51 (Or.inr (by decide))) (Eq.trans (congrFun (hV44 _ (K_old h32 hq40)) _) (Eq.trans (uq_ne e36 (Or.inr (by decide))) (Eq.trans (hF27 _ _ _ h24 h32 (by decide +kernel)) (Eq.trans (congrFun (hV22 _ (K_old h10 hq18)) _) (uq_at e14))))))))))))))))))) (ir_c rfl) (by omega) (by omega)
    | 2, _ => exact ⟨_, (Eq.trans (uq_ne e131 (Or.inr (by decide))) (Eq.trans (uq_ne e129 (Or.inr (by decide))) (Eq.trans (uq_ne e127 (Or.inr (by decide))) (Eq.trans (uq_ne e125 (Or.inr (by decide))) (Eq.trans (congrFun (hV114 _ (K_old h99 hq110)) _) (Eq.trans (uq_ne e106 (Or.inr (by decide))) (Eq.trans (congrFun (hV96 _ (K_old h78 hq92)) _) (Eq.trans (uq_ne e88 (Or.inr (by decide))) (Eq.trans (uq_ne e86 (Or.inr (by decide))) (Eq.trans (uq_ne e84 (Or.inr (by decide))) (Eq.trans (congrFun (hV75 _ (K_old h62 hq71)) _) (Eq.trans (uq_ne e67 (Or.inr (by decide))) (Eq.trans (congrFun (hV59 _ (K_old h47 hq55)) _) (Eq.trans (uq_ne e51 (Or.inr (by decide))) (Eq.trans (congrFun (hV44 _ (K_old h32 hq40)) _) (uq_at e36)))))))))))))))), h119⟩
    | 3, _ => exact ⟨_, (Eq.trans (uq_ne e131 (Or.inr (by decide))) (Eq.trans (uq_ne e129 (Or.inr (by decide))) (Eq.trans (uq_ne e127 (Or.inr (by decide))) (Eq.trans (uq_ne e125 (Or.inr (by decide))) (Eq.trans (congrFun (hV114 _ (K_old h99 hq110)) _) (Eq.trans (uq_ne e106 (Or.inr (by decide))) (Eq.trans (congrFun (hV96 _ (K_old h78 hq92)) _) (Eq.trans (uq_ne e88 (Or.inr (by decide))) (Eq.trans (uq_ne e86 (Or.inr (by decide))) (Eq.trans (uq_ne e84 (Or.inr (by decide))) (Eq.trans (congrFun (hV75 _ (K_old h62 hq71)) _) (Eq.trans (uq_ne e67 (Or.inr (by decide))) (Eq.trans (congrFun (hV59 _ (K_old h47 hq55)) _) (uq_at e51)))))))))))))), ⟨_, h120⟩⟩
    | 4, _ => exact ⟨_, (Eq.trans (uq_ne e131 (Or.inr (by decide))) (Eq.trans (uq_ne e129 (Or.inr (by decide))) (Eq.trans (uq_ne e127 (Or.inr (by decide))) (Eq.trans (uq_ne e125 (Or.inr (by decide))) (Eq.trans (congrFun (hV114 _ (K_old h99 hq110)) _) (Eq.trans (uq_ne e106 (Or.inr (by decide))) (Eq.trans (congrFun (hV96 _ (K_old h78 hq92)) _) (Eq.trans (uq_ne e88 (Or.inr (by decide))) (Eq.trans (uq_ne e86 (Or.inr (by decide))) (Eq.trans (uq_ne e84 (Or.inr (by decide))) (Eq.trans (congrFun (hV75 _ (K_old h62 hq71)) _) (uq_at e67)))))))))))), ⟨_, h121⟩⟩
    | 5, _ => exact ⟨_, (Eq.trans (uq_ne e131 (Or.inr (by decide))) (Eq.trans (uq_ne e129 (Or.inr (by decide))) (Eq.trans (uq_ne e127 (Or.inr (by decide))) (Eq.trans (uq_ne e125 (Or.inr (by decide))) (Eq.trans (congrFun (hV114 _ (K_old h99 hq110)) _) (Eq.trans (uq_ne e106 (Or.inr (by decide))) (Eq.trans (congrFun (hV96 _ (K_old h78 hq92)) _) (Eq.trans (uq_ne e88 (Or.inr (by decide))) (Eq.trans (uq_ne e86 (Or.inr (by decide))) (uq_at e84)))))))))), ⟨_, h122⟩⟩
    | 6, _ => exact okv_any (Eq.trans (uq_ne e131 (Or.inr (by decide))) (Eq.trans (uq_ne e129 (Or.inr (by decide))) (Eq.trans (uq_ne e127 (Or.inr (by decide))) (Eq.trans (uq_ne e125 (Or.inr (by decide))) (Eq.trans (congrFun (hV114 _ (K_old h99 hq110)) _) (Eq.trans (uq_ne e106 (Or.inr (by decide))) (Eq.trans (congrFun (hV96 _ (K_old h78 hq92)) _) (Eq.trans (uq_ne e88 (Or.inr (by decide))) (uq_at e86)))))))))
    | 7, _ => exact okv_any (Eq.trans (uq_ne e131 (Or.inr (by decide))) (Eq.trans (uq_ne e129 (Or.inr (by decide))) (Eq.trans (uq_ne e127 (Or.inr (by decide))) (Eq.trans (uq_ne e125 (Or.inr (by decide))) (Eq.trans (congrFun (hV114 _ (K_old h99 hq110)) _) (Eq.trans (uq_ne e106 (Or.inr (by decide))) (Eq.trans (congrFun (hV96 _ (K_old h78 hq92)) _) (uq_at e88))))))))
    | 8, _ => exact ⟨_, (Eq.trans (uq_ne e131 (Or.inr (by decide))) (Eq.trans (uq_ne e129 (Or.inr (by decide))) (Eq.trans (uq_ne e127 (Or.inr (by decide))) (Eq.trans (uq_ne e125 (Or.inr (by decide))) (Eq.trans (congrFun (hV114 _ (K_old h99 hq110)) _) (uq_at e106)))))), ⟨_, h123⟩⟩
    | 9, _ => exact ⟨_, (Eq.trans (uq_ne e131 (Or.inr (by decide))) (Eq.trans (uq_ne e129 (Or.inr (by decide))) (Eq.trans (uq_ne e127 (Or.inr (by decide))) (uq_at e125)))), ⟨_, h113⟩⟩
    | 10, _ => exact okv_any (Eq.trans (uq_ne e131 (Or.inr (by decide))) (Eq.trans (uq_ne e129 (Or.inr (by decide))) (uq_at e127)))
    | 11, _ => exact okv_any (Eq.trans (uq_ne e131 (Or.inr (by decide))) (uq_at e129))
    | 12, _ => exact okv_any (uq_at e131)
    | j + 13, hj => exact absurd hj (by omega)
  exact GO.retv rfl rfl dX1_init_98 ⟨rfl, ⟨h136, vi_at (Eq.trans (uq_ne e131 (Or.inr (by decide))) (Eq.trans (uq_ne e129 (Or.inr (by decide))) (Eq.trans (uq_ne e127 (Or.inr (by decide))) (Eq.trans (uq_ne e125 (Or.inr (by decide))) (Eq.trans (congrFun (hV114 _ (K_old h99 hq110)) _) (Eq.trans (uq_ne e106 (Or.inr (by decide))) (Eq.trans (congrFun (hV96 _ (K_old h78 hq92)) _) (Eq.trans (uq_ne e88 (Or.inr (by decide))) (Eq.trans (uq_ne e86 (Or.inr (by decide))) (Eq.trans (uq_ne e84 (Or.inr (by decide))) (Eq.trans (congrFun (hV75 _ (K_old h62 hq71)) _) (Eq.trans (uq_ne e67 (Or.inr (by decide))) (Eq.trans (congrFun (hV59 _ (K_old h47 hq55)) _) (Eq.trans (uq_ne e51 (Or.inr (by decide))) (Eq.trans (congrFun (hV44 _ (K_old h32 hq40)) _) (Eq.trans (uq_ne e36 (Or.inr (by decide))) (Eq.trans (hF27 _ _ _ h24 h32 (by decide +kernel)) (Eq.trans (congrFun (hV22 _ (K_old h10 hq18)) _) (uq_at e14))))))))))))))))))) (ir_c rfl), vi_at (Eq.trans (uq_ne e131 (Or.inr (by decide))) (Eq.trans (uq_ne e129 (Or.inr (by decide))) (Eq.trans (uq_ne e127 (Or.inr (by decide))) (Eq.trans (uq_ne e125 (Or.inr (by decide))) (Eq.trans (congrFun (hV114 _ (K_old h99 hq110)) _) (Eq.trans (uq_ne e106 (Or.inr (by decide))) (Eq.trans (congrFun (hV96 _ (K_old h78 hq92)) _) (uq_at e88)))))))) (ir_c rfl), (RSZ.mk (Eq.trans (uq_ne e131 (Or.inr (by decide))) (Eq.trans (uq_ne e129 (Or.inr (by decide))) (Eq.trans (uq_ne e127 (Or.inr (by decide))) (Eq.trans (uq_ne e125 (Or.inr (by decide))) (Eq.trans (congrFun (hV114 _ (K_old h99 hq110)) _) (Eq.trans (uq_ne e106 (Or.inr (by decide))) (Eq.trans (congrFun (hV96 _ (K_old h78 hq92)) _) (Eq.trans (uq_ne e88 (Or.inr (by decide))) (Eq.trans (uq_ne e86 (Or.inr (by decide))) (Eq.trans (uq_ne e84 (Or.inr (by decide))) (Eq.trans (congrFun (hV75 _ (K_old h62 hq71)) _) (Eq.trans (uq_ne e67 (Or.inr (by decide))) (Eq.trans (congrFun (hV59 _ (K_old h47 hq55)) _) (Eq.trans (uq_ne e51 (Or.inr (by decide))) (Eq.trans (congrFun (hV44 _ (K_old h32 hq40)) _) (uq_at e36)))))))))))))))) (hE135.obj (by decide) h119) (rsz_at (Eq.trans (uq_ne e131 (Or.inr (by decide))) (Eq.trans (uq_ne e129 (Or.inr (by decide))) (Eq.trans (uq_ne e127 (Or.inr (by decide))) (Eq.trans (uq_ne e125 (Or.inr (by decide))) (Eq.trans (congrFun (hV114 _ (K_old h99 hq110)) _) (Eq.trans (uq_ne e106 (Or.inr (by decide))) (Eq.trans (congrFun (hV96 _ (K_old h78 hq92)) _) (Eq.trans (uq_ne e88 (Or.inr (by decide))) (Eq.trans (uq_ne e86 (Or.inr (by decide))) (Eq.trans (uq_ne e84 (Or.inr (by decide))) (Eq.trans (congrFun (hV75 _ (K_old h62 hq71)) _) (Eq.trans (uq_ne e67 (Or.inr (by decide))) (Eq.trans (congrFun (hV59 _ (K_old h47 hq55)) _) (Eq.trans (uq_ne e51 (Or.inr (by decide))) (Eq.trans (congrFun (hV44 _ (K_old h32 hq40)) _) (uq_at e36)))))))))))))))) (Eq.trans (uq_ne e131 (Or.inl (K_ne h119 h117 (by decide)))) (Eq.trans (uq_ne e129 (Or.inl (K_ne h119 h117 (by decide)))) (Eq.trans (uq_ne e127 (Or.inl (K_ne h119 h117 (by decide)))) (Eq.trans (uq_ne e125 (Or.inl (K_ne h119 h117 (by decide)))) (Eq.trans (congrFun (hV114 _ (K_old h101 hq110)) _) (Eq.trans (uq_ne e106 (Or.inl (K_ne h101 h99 (by decide)))) (Eq.trans (congrFun (hV96 _ (K_old h80 hq92)) _) (Eq.trans (uq_ne e88 (Or.inl (K_ne h80 h78 (by decide)))) (Eq.trans (uq_ne e86 (Or.inl (K_ne h80 h78 (by decide)))) (Eq.trans (uq_ne e84 (Or.inl (K_ne h80 h78 (by decide)))) (Eq.trans (congrFun (hV75 _ (K_old h64 hq71)) _) (Eq.trans (uq_ne e67 (Or.inl (K_ne h64 h62 (by decide)))) (Eq.trans (congrFun (hV59 _ (K_old h49 hq55)) _) (Eq.trans (uq_ne e51 (Or.inl (K_ne h49 h47 (by decide)))) (Eq.trans (congrFun (hV44 _ (K_old h33 hq40)) _) (uq_ne e36 (Or.inl (K_ne h33 h32 (by decide))))))))))))))))))) q35))⟩, KE.promote (KE.new (KE.new (KE.new (KE.new (KE.new (KE.call (KE.new (KE.new KE.rf hq3 hK4) hq18 hK19) h30.2 h26) hq40 hK41) hq55 hK56) hq71 hK72) hq92 hK93) hq110 hK111) e134⟩

set_option maxHeartbeats 1000000 in
theorem t_X8_init_k24 {K : Kmap} {V : Vmap} {x : Nat} {p0 : Int} {p1 : Int} (h_x : K x = some (0, 19)) (r_p0 : ir p0) (r_p1 : ir p1) (q_0 : p0 = 2) (q_1 : p1 = 8) : MC mX8_init_k24 K V [.ref x, ti p0, ti p1] (VX (fun K1 V1 => (K1 x = some (0, 24) ∧ vi V1 x 3 = 0) ∧ KE K K1 x)) := by
  refine MC.start 0 (by decide +kernel) rfl rfl rfl (ls0 := [some (.ref x), some (ti p0), some (ti p1)]) rfl ?_
  refine GO.aload_n dX8_init_0 rfl rfl ?_
  refine GO.objInit dX8_init_1 gw_103 gw_27 gw_28 rfl rfl ?_
  refine GO.aload_n dX8_init_4 rfl rfl ?_
  refine GO.iconst dX8_init_5 ?_
  refine GO.putRW rfl (by decide +kernel) h_x fp_raw_fp_RX8_9 rfl rfl dX8_init_6 (fun V2 e1 => ?_)
  refine GO.aload_n dX8_init_9 rfl rfl ?_
  refine GO.iload_n dX8_init_10 rfl rfl ?_
  refine GO.putRF rfl rfl (by decide +kernel) h_x fp_raw_fp_RX8_15 rfl rfl dX8_init_11 (fun V4 e3 => ?_)
  refine GO.aload_n dX8_init_14 rfl rfl ?_
  refine GO.iload_n dX8_init_15 rfl rfl ?_
  refine GO.putRF rfl rfl (by decide +kernel) h_x fp_raw_fp_RX8_18 rfl rfl dX8_init_16 (fun V6 e5 => ?_)
  refine GO.aload_n dX8_init_19 rfl rfl ?_
  refine GO.iconst dX8_init_20 ?_
  refine GO.iload_n dX8_init_21 rfl rfl ?_
  refine GO.iload_n dX8_init_22 rfl rfl ?_
  refine GO.imul dX8_init_23 ?_
  have q7 : -2147483648 ≤ p1 ∧ p1 ≤ 2147483647 := r_p1
  have q8 : -2147483648 ≤ p0 ∧ p0 ≤ 2147483647 := r_p0
  have m9 := mul_rng (a := p0) (b := p1) (A := 2) (B := 8) (by omega) (by omega) (by omega) (by omega)
  have m10 := mul_low (a := p0) (b := p1) (m := 2) (n := 8) (by omega) (by omega) (by omega) (by omega)
  refine GO.callS (N := mJ9_max_7cf53) dX8_init_24 gS_RX8_21 (t_J9_max_7cf53 (ir_c rfl) ⟨by omega, by omega⟩) rfl [.ref x] rfl rfl (Nat.le_of_ble_eq_true rfl) rfl (k_ip fun X11 r12 h13 => ?_)
  have q14 : -2147483648 ≤ X11 ∧ X11 ≤ 2147483647 := r12
  refine GO.newIT 146 16 gw_89 rfl rfl (fun _ _ => okv_df rfl rfl rfl) r12 (by omega) (by omega) rfl (Or.inr (by show _ = ((16 : Nat) : Int); omega)) rfl rfl dX8_init_27 (fun o15 K16 V22 hq17 hK18 hE19 h20 _ hV21 => ?_)
  have h23 := (by rw [hK18, updK_ne (K_old h_x hq17)]; exact h_x : K16 x = some (0, 19))
  have h24 := KE.nw KE.rf h_x hq17
  refine GO.putRF rfl rfl (by decide +kernel) h23 fp_raw_fp_RX8_27 rfl rfl dX8_init_29 (fun V26 e25 => ?_)
  refine GO.promoteT 24 rfl rfl h23 (fun j hj => ?_) (fun K27 e28 hE29 h30 => ?_)
  ·
    have hj : j < 4 := hj
    match j, hj with
    | 0, _ => exact okv_at (Eq.trans (uq_ne e25 (Or.inr (by decide))) (Eq.trans (congrFun (hV21 _ (K_old h_x hq17)) _) (Eq.trans (uq_ne e5 (Or.inr (by decide))) (uq_at e3)))) r_p0 (by omega) (by omega)
    | 1, _ => exact okv_at (Eq.trans (uq_ne e25 (Or.inr (by decide))) (Eq.trans (congrFun (hV21 _ (K_old h_x hq17)) _) (uq_at e5))) r_p1 (by omega) (by omega)
    | 2, _ => exact ⟨_, (uq_at e25), ⟨_, h20⟩⟩
    | 3, _ => exact okv_at (Eq.trans (uq_ne e25 (Or.inr (by decide))) (Eq.trans (congrFun (hV21 _ (K_old h_x hq17)) _) (Eq.trans (uq_ne e5 (Or.inr (by decide))) (Eq.trans (uq_ne e3 (Or.inr (by decide))) (uq_at e1))))) (ir_c rfl) (by omega) (by omega)
    | j + 4, hj => exact absurd hj (by omega)
  exact GO.retv rfl rfl dX8_init_32 ⟨rfl, ⟨h30, vi_at (Eq.trans (uq_ne e25 (Or.inr (by decide))) (Eq.trans (congrFun (hV21 _ (K_old h_x hq17)) _) (Eq.trans (uq_ne e5 (Or.inr (by decide))) (Eq.trans (uq_ne e3 (Or.inr (by decide))) (uq_at e1))))) (ir_c rfl)⟩, KE.promote (KE.new KE.rf hq17 hK18) e28⟩

set_option maxHeartbeats 1000000 in
theorem t_X4_fill_t138 {K : Kmap} {V : Vmap} {p0 n_p0 : Nat} {p1 : Int} (h_p0 : K p0 = some (139, n_p0)) (r_p1 : ir p1) : MC mX4_fill_t138 K V [.ref p0, ti p1] (VS K (fun V1 => (True) ∧ (FLL V V1 p0 n_p0 p1))) := by
  refine MC.start 1 (by decide +kernel) rfl rfl rfl (ls0 := [some (.ref p0), some (ti p1), none]) rfl ?_
  refine GO.aload_n dX4_fill_0 rfl rfl ?_
  refine GO.ifnonnull (tgt := 5) dX4_fill_1 (by decide) ?_
  refine GO.iconst dX4_fill_5 ?_
  refine GO.istore_n (ls1 := [some (.ref p0), some (ti p1), some (ti 0)]) dX4_fill_6 rfl rfl rfl ?_
  refine GO.loop1 (fun i1 W => 0 ≤ i1 ∧ i1 ≤ 5000 ∧ (FLI V W p0 p1 i1) ∧ True) (fun i1 => [some (.ref p0), some (ti p1), some (ti i1)]) (fun i1 W => (2147483647 - i1).toNat) 0 ⟨by omega, by omega, (by first | exact FLI.beg), trivial⟩ rfl (fun i1 Wi1 hp39 ih38 => ?_)
  obtain ⟨l_i1, u_i1, hfl, -⟩ := hp39
  have r_i1 : ir i1 := ⟨by omega, by omega⟩
  show GO mX4_fill_t138 K V (VS K (fun V1 => (True) ∧ (FLL V V1 p0 n_p0 p1))) K Wi1 0 0 7 [some (.ref p0), some (ti p1), some (ti i1)] []
  refine GO.iload_n dX4_fill_7 rfl rfl ?_
  refine GO.aload_n dX4_fill_8 rfl rfl ?_
  refine GO.alen h_p0 dX4_fill_9 (fun h40 => ?_)
  refine GO.icmp_ge (tgt := 23) dX4_fill_10 (by decide) r_i1 ⟨by omega, by omega⟩ (fun c41 => ?_) (fun c41 => ?_)
  ·
    exact GO.retv rfl rfl dX4_fill_23 ⟨rfl, rfl, ⟨trivial, FLI.end hfl (by omega)⟩⟩
  ·
    refine GO.aload_n dX4_fill_13 rfl rfl ?_
    refine GO.iload_n dX4_fill_14 rfl rfl ?_
    refine GO.iload_n dX4_fill_15 rfl rfl ?_
    refine GO.iast (t := 138) rfl rfl (by decide +kernel) h_p0 r_i1 (by omega) (by omega) r_p1 (r_p1).1 (r_p1).2 dX4_fill_16 (fun V43 e42 => ?_)
    refine GO.iinc (X := i1) (n := 1) (Y := i1 + 1) (ls1 := [some (.ref p0), some (ti p1), some (ti (i1 + 1))]) dX4_fill_17 rfl rfl rfl rfl ?_
    refine GO.goto (tgt := 7) dX4_fill_20 (by decide) ?_
    exact ih38 (i1 + 1) V43 ⟨by omega, by omega, (by first | exact FLI.beg | exact FLI.step hfl (by assumption) (by assumption) (by omega) (by omega)), trivial⟩ (by show (2147483647 - (i1 + 1)).toNat < (2147483647 - i1).toNat; omega)

set_option maxHeartbeats 1000000 in
theorem t_X6_init {K : Kmap} {V : Vmap} {x : Nat} (h_x : K x = some (0, 17)) : MC mX6_init K V [.ref x] (VX (fun K1 _ => K1 x = some (0, 5) ∧ KE K K1 x)) := by
  refine MC.start 0 (by decide +kernel) rfl rfl rfl (ls0 := [some (.ref x)]) rfl ?_
  refine GO.aload_n dX6_init_0 rfl rfl ?_
  refine GO.objInit dX6_init_1 gw_177 gw_27 gw_28 rfl rfl ?_
  refine GO.aload_n dX6_init_4 rfl rfl ?_
  refine GO.new (ci := 19) (RX8, TX8, 4) tyX8 rfl rfl lays_7 tyX8_ok gw_178 gw_99 gw_5 rfl rfl dX6_init_5 (fun o1 K2 V8 hq3 hK4 hE5 h6 _ hV7 => ?_)
  have h9 := (by rw [hK4, updK_ne (K_old h_x hq3)]; exact h_x : K2 x = some (0, 17))
  have h10 := KE.nw KE.rf h_x hq3
  refine GO.dup dX6_init_8 rfl ?_
  refine GO.iconst dX6_init_9 ?_
  refine GO.bipush dX6_init_10 rfl ?_
  refine GO.callI (N := mX8_init_k24) dX6_init_12 gI_RX6_11 rfl (t_X8_init_k24 h6 (ir_c rfl) (ir_c rfl) (by omega) (by omega)) rfl [.ref o1, .ref x] rfl rfl (Nat.le_of_ble_eq_true rfl) rfl (k_vx fun K13 V15 h14 hE12 hF11 => ?_)
  have h16 := h14.2 _ _ (K_ne h9 h6 (by decide)) h9
  have h17 := h14.1.1
  have q18 : vi V15 o1 3 = 0 := h14.1.2
  refine GO.putRF rfl rfl (by decide +kernel) h16 fp_raw_fp_RX6_14 rfl rfl dX6_init_15 (fun V20 e19 => ?_)
  refine GO.aload_n dX6_init_18 rfl rfl ?_
  refine GO.bipush dX6_init_19 rfl ?_
  refine GO.newT (atype := .int) 137 24 gw_89 rfl rfl (fun _ _ h => h) rfl rfl rfl (Or.inr rfl) (fun _ => okv_df rfl rfl rfl) rfl rfl dX6_init_21 (fun o21 K22 V28 hq23 hK24 hE25 h26 _ hV27 => ?_)
  have h29 := (by rw [hK24, updK_ne (K_old h16 hq23)]; exact h16 : K22 x = some (0, 17))
  have h30 := hE25.obj (by decide) h17
  have h31 := KE.nw (KE.call (KE.new KE.rf hq3 hK4) h14.2 h10) h16 hq23
  refine GO.putRF rfl rfl (by decide +kernel) h29 fp_raw_fp_RX6_20 rfl rfl dX6_init_23 (fun V33 e32 => ?_)
  refine GO.aload_n dX6_init_26 rfl rfl ?_
  refine GO.bipush dX6_init_27 rfl ?_
  refine GO.newT (atype := .int) 138 24 gw_89 rfl rfl (fun _ _ h => h) rfl rfl rfl (Or.inr rfl) (fun _ => okv_df rfl rfl rfl) rfl rfl dX6_init_29 (fun o34 K35 V41 hq36 hK37 hE38 h39 _ hV40 => ?_)
  have h42 := (by rw [hK37, updK_ne (K_old h29 hq36)]; exact h29 : K35 x = some (0, 17))
  have h43 := hE38.obj (by decide) h30
  have h44 := hE38.arr h26
  have h45 := KE.nw (KE.new (KE.call (KE.new KE.rf hq3 hK4) h14.2 h10) hq23 hK24) h29 hq36
  refine GO.putRF rfl rfl (by decide +kernel) h42 fp_raw_fp_RX6_24 rfl rfl dX6_init_31 (fun V47 e46 => ?_)
  refine GO.aload_n dX6_init_34 rfl rfl ?_
  refine GO.bipush dX6_init_35 rfl ?_
  refine GO.newT (atype := .int) 139 64 gw_89 rfl rfl (fun _ _ h => h) rfl rfl rfl (Or.inr rfl) (fun _ => okv_df rfl rfl rfl) rfl rfl dX6_init_37 (fun o48 K49 V55 hq50 hK51 hE52 h53 _ hV54 => ?_)
  have h56 := (by rw [hK51, updK_ne (K_old h42 hq50)]; exact h42 : K49 x = some (0, 17))
  have h57 := hE52.obj (by decide) h43
  have h58 := hE52.arr h44
  have h59 := hE52.arr h39
  have h60 := KE.nw (KE.new (KE.new (KE.call (KE.new KE.rf hq3 hK4) h14.2 h10) hq23 hK24) hq36 hK37) h42 hq50
  refine GO.putRF rfl rfl (by decide +kernel) h56 fp_raw_fp_RX6_27 rfl rfl dX6_init_39 (fun V62 e61 => ?_)
  refine GO.aload_n dX6_init_42 rfl rfl ?_
  refine GO.bipush dX6_init_43 rfl ?_
  refine GO.newT (atype := .int) 140 24 gw_89 rfl rfl (fun _ _ h => h) rfl rfl rfl (Or.inr rfl) (fun _ => okv_df rfl rfl rfl) rfl rfl dX6_init_45 (fun o63 K64 V70 hq65 hK66 hE67 h68 _ hV69 => ?_)
  have h71 := (by rw [hK66, updK_ne (K_old h56 hq65)]; exact h56 : K64 x = some (0, 17))
  have h72 := hE67.obj (by decide) h57
  have h73 := hE67.arr h58
  have h74 := hE67.arr h59
  have h75 := hE67.arr h53
  have h76 := KE.nw (KE.new (KE.new (KE.new (KE.call (KE.new KE.rf hq3 hK4) h14.2 h10) hq23 hK24) hq36 hK37) hq50 hK51) h56 hq65
  refine GO.putRF rfl rfl (by decide +kernel) h71 fp_raw_fp_RX6_30 rfl rfl dX6_init_47 (fun V78 e77 => ?_)
  refine GO.aload_n dX6_init_50 rfl rfl ?_
  refine GO.bipush dX6_init_51 rfl ?_
  refine GO.newT (atype := .int) 141 8 gw_89 rfl rfl (fun _ _ h => h) rfl rfl rfl (Or.inr rfl) (fun _ => okv_df rfl rfl rfl) rfl rfl dX6_init_53 (fun o79 K80 V86 hq81 hK82 hE83 h84 _ hV85 => ?_)
  have h87 := (by rw [hK82, updK_ne (K_old h71 hq81)]; exact h71 : K80 x = some (0, 17))
  have h88 := hE83.obj (by decide) h72
  have h89 := hE83.arr h73
  have h90 := hE83.arr h74
  have h91 := hE83.arr h75
  have h92 := hE83.arr h68
  have h93 := KE.nw (KE.new (KE.new (KE.new (KE.new (KE.call (KE.new KE.rf hq3 hK4) h14.2 h10) hq23 hK24) hq36 hK37) hq50 hK51) hq65 hK66) h71 hq81
  refine GO.putRF rfl rfl (by decide +kernel) h87 fp_raw_fp_RX6_33 rfl rfl dX6_init_55 (fun V95 e94 => ?_)
  refine GO.aload_n dX6_init_58 rfl rfl ?_
  refine GO.sipush dX6_init_59 rfl ?_
  refine GO.newT (atype := .int) 142 2048 gw_89 rfl rfl (fun _ _ h => h) rfl rfl rfl (Or.inr rfl) (fun _ => okv_df rfl rfl rfl) rfl rfl dX6_init_62 (fun o96 K97 V103 hq98 hK99 hE100 h101 _ hV102 => ?_)
  have h104 := (by rw [hK99, updK_ne (K_old h87 hq98)]; exact h87 : K97 x = some (0, 17))
  have h105 := hE100.obj (by decide) h88
  have h106 := hE100.arr h89
  have h107 := hE100.arr h90
  have h108 := hE100.arr h91
  have h109 := hE100.arr h92
  have h110 := hE100.arr h84
  have h111 := KE.nw (KE.new (KE.new (KE.new (KE.new (KE.new (KE.call (KE.new KE.rf hq3 hK4) h14.2 h10) hq23 hK24) hq36 hK37) hq50 hK51) hq65 hK66) hq81 hK82) h87 hq98
  refine GO.putRF rfl rfl (by decide +kernel) h104 fp_raw_fp_RX6_36 rfl rfl dX6_init_64 (fun V113 e112 => ?_)
  refine GO.aload_n dX6_init_67 rfl rfl ?_
  refine GO.bipush dX6_init_68 rfl ?_
  refine GO.newT (atype := .int) 143 8 gw_89 rfl rfl (fun _ _ h => h) rfl rfl rfl (Or.inr rfl) (fun _ => okv_df rfl rfl rfl) rfl rfl dX6_init_70 (fun o114 K115 V121 hq116 hK117 hE118 h119 _ hV120 => ?_)
  have h122 := (by rw [hK117, updK_ne (K_old h104 hq116)]; exact h104 : K115 x = some (0, 17))
  have h123 := hE118.obj (by decide) h105
  have h124 := hE118.arr h106
  have h125 := hE118.arr h107
  have h126 := hE118.arr h108
  have h127 := hE118.arr h109
  have h128 := hE118.arr h110
  have h129 := hE118.arr h101
  have h130 := KE.nw (KE.new (KE.new (KE.new (KE.new (KE.new (KE.new (KE.call (KE.new KE.rf hq3 hK4) h14.2 h10) hq23 hK24) hq36 hK37) hq50 hK51) hq65 hK66) hq81 hK82) hq98 hK99) h104 hq116
  refine GO.putRF rfl rfl (by decide +kernel) h122 fp_raw_fp_RX6_39 rfl rfl dX6_init_72 (fun V132 e131 => ?_)
  refine GO.aload_n dX6_init_75 rfl rfl ?_
  refine GO.iconst dX6_init_76 ?_
  refine GO.putRW rfl (by decide +kernel) h122 fp_raw_fp_RX6_42 rfl rfl dX6_init_77 (fun V134 e133 => ?_)
  refine GO.aload_n dX6_init_80 rfl rfl ?_
  refine GO.iconst dX6_init_81 ?_
  refine GO.putRW rfl (by decide +kernel) h122 fp_raw_fp_RX6_46 rfl rfl dX6_init_82 (fun V136 e135 => ?_)
  refine GO.aload_n dX6_init_85 rfl rfl ?_
  refine GO.getRaw h122 fl_raw_fl_RX6_24 (Eq.trans (uq_ne e135 (Or.inr (by decide))) (Eq.trans (uq_ne e133 (Or.inr (by decide))) (Eq.trans (uq_ne e131 (Or.inr (by decide))) (Eq.trans (congrFun (hV120 _ (K_old h104 hq116)) _) (Eq.trans (uq_ne e112 (Or.inr (by decide))) (Eq.trans (congrFun (hV102 _ (K_old h87 hq98)) _) (Eq.trans (uq_ne e94 (Or.inr (by decide))) (Eq.trans (congrFun (hV85 _ (K_old h71 hq81)) _) (Eq.trans (uq_ne e77 (Or.inr (by decide))) (Eq.trans (congrFun (hV69 _ (K_old h56 hq65)) _) (Eq.trans (uq_ne e61 (Or.inr (by decide))) (Eq.trans (congrFun (hV54 _ (K_old h42 hq50)) _) (uq_at e46))))))))))))) dX6_init_86 ?_
  refine GO.sipush dX6_init_89 rfl ?_
  refine GO.callS (N := mX4_fill_t138) dX6_init_92 gS_RX6_49 (t_X4_fill_t138 h125 (ir_c rfl)) rfl [] rfl rfl (Nat.le_of_ble_eq_true rfl) rfl (k_vs fun V139 h138 hF137 => ?_)
  have raw_fill := h138.2
  have rw92 := h138.2
  refine GO.promote (ci := 5) rfl h122 (fun j hj => ?_) (fun K140 e141 hE142 h143 => ?_)
  ·
    have hj : j < 10 := hj
    match j, hj with
    | 0, _ => exact ⟨_, (Eq.trans (hF137 _ _ _ h122 h122 (by decide +kernel)) (Eq.trans (uq_ne e135 (Or.inr (by decide))) (Eq.trans (uq_ne e133 (Or.inr (by decide))) (Eq.trans (uq_ne e131 (Or.inr (by decide))) (Eq.trans (congrFun (hV120 _ (K_old h104 hq116)) _) (Eq.trans (uq_ne e112 (Or.inr (by decide))) (Eq.trans (congrFun (hV102 _ (K_old h87 hq98)) _) (Eq.trans (uq_ne e94 (Or.inr (by decide))) (Eq.trans (congrFun (hV85 _ (K_old h71 hq81)) _) (Eq.trans (uq_ne e77 (Or.inr (by decide))) (Eq.trans (congrFun (hV69 _ (K_old h56 hq65)) _) (Eq.trans (uq_ne e61 (Or.inr (by decide))) (Eq.trans (congrFun (hV54 _ (K_old h42 hq50)) _) (Eq.trans (uq_ne e46 (Or.inr (by decide))) (Eq.trans (congrFun (hV40 _ (K_old h29 hq36)) _) (Eq.trans (uq_ne e32 (Or.inr (by decide))) (Eq.trans (congrFun (hV27 _ (K_old h16 hq23)) _) (uq_at e19)))))))))))))))))), h123⟩
    | 1, _ => exact ⟨_, (Eq.trans (hF137 _ _ _ h122 h122 (by decide +kernel)) (Eq.trans (uq_ne e135 (Or.inr (by decide))) (Eq.trans (uq_ne e133 (Or.inr (by decide))) (Eq.trans (uq_ne e131 (Or.inr (by decide))) (Eq.trans (congrFun (hV120 _ (K_old h104 hq116)) _) (Eq.trans (uq_ne e112 (Or.inr (by decide))) (Eq.trans (congrFun (hV102 _ (K_old h87 hq98)) _) (Eq.trans (uq_ne e94 (Or.inr (by decide))) (Eq.trans (congrFun (hV85 _ (K_old h71 hq81)) _) (Eq.trans (uq_ne e77 (Or.inr (by decide))) (Eq.trans (congrFun (hV69 _ (K_old h56 hq65)) _) (Eq.trans (uq_ne e61 (Or.inr (by decide))) (Eq.trans (congrFun (hV54 _ (K_old h42 hq50)) _) (Eq.trans (uq_ne e46 (Or.inr (by decide))) (Eq.trans (congrFun (hV40 _ (K_old h29 hq36)) _) (uq_at e32)))))))))))))))), ⟨_, h124⟩⟩
    | 2, _ => exact ⟨_, (Eq.trans (hF137 _ _ _ h122 h122 (by decide +kernel)) (Eq.trans (uq_ne e135 (Or.inr (by decide))) (Eq.trans (uq_ne e133 (Or.inr (by decide))) (Eq.trans (uq_ne e131 (Or.inr (by decide))) (Eq.trans (congrFun (hV120 _ (K_old h104 hq116)) _) (Eq.trans (uq_ne e112 (Or.inr (by decide))) (Eq.trans (congrFun (hV102 _ (K_old h87 hq98)) _) (Eq.trans (uq_ne e94 (Or.inr (by decide))) (Eq.trans (congrFun (hV85 _ (K_old h71 hq81)) _) (Eq.trans (uq_ne e77 (Or.inr (by decide))) (Eq.trans (congrFun (hV69 _ (K_old h56 hq65)) _) (Eq.trans (uq_ne e61 (Or.inr (by decide))) (Eq.trans (congrFun (hV54 _ (K_old h42 hq50)) _) (uq_at e46)))))))))))))), ⟨_, h125⟩⟩
    | 3, _ => exact ⟨_, (Eq.trans (hF137 _ _ _ h122 h122 (by decide +kernel)) (Eq.trans (uq_ne e135 (Or.inr (by decide))) (Eq.trans (uq_ne e133 (Or.inr (by decide))) (Eq.trans (uq_ne e131 (Or.inr (by decide))) (Eq.trans (congrFun (hV120 _ (K_old h104 hq116)) _) (Eq.trans (uq_ne e112 (Or.inr (by decide))) (Eq.trans (congrFun (hV102 _ (K_old h87 hq98)) _) (Eq.trans (uq_ne e94 (Or.inr (by decide))) (Eq.trans (congrFun (hV85 _ (K_old h71 hq81)) _) (Eq.trans (uq_ne e77 (Or.inr (by decide))) (Eq.trans (congrFun (hV69 _ (K_old h56 hq65)) _) (uq_at e61)))))))))))), ⟨_, h126⟩⟩
    | 4, _ => exact ⟨_, (Eq.trans (hF137 _ _ _ h122 h122 (by decide +kernel)) (Eq.trans (uq_ne e135 (Or.inr (by decide))) (Eq.trans (uq_ne e133 (Or.inr (by decide))) (Eq.trans (uq_ne e131 (Or.inr (by decide))) (Eq.trans (congrFun (hV120 _ (K_old h104 hq116)) _) (Eq.trans (uq_ne e112 (Or.inr (by decide))) (Eq.trans (congrFun (hV102 _ (K_old h87 hq98)) _) (Eq.trans (uq_ne e94 (Or.inr (by decide))) (Eq.trans (congrFun (hV85 _ (K_old h71 hq81)) _) (uq_at e77)))))))))), ⟨_, h127⟩⟩
    | 5, _ => exact ⟨_, (Eq.trans (hF137 _ _ _ h122 h122 (by decide +kernel)) (Eq.trans (uq_ne e135 (Or.inr (by decide))) (Eq.trans (uq_ne e133 (Or.inr (by decide))) (Eq.trans (uq_ne e131 (Or.inr (by decide))) (Eq.trans (congrFun (hV120 _ (K_old h104 hq116)) _) (Eq.trans (uq_ne e112 (Or.inr (by decide))) (Eq.trans (congrFun (hV102 _ (K_old h87 hq98)) _) (uq_at e94)))))))), ⟨_, h128⟩⟩
    | 6, _ => exact ⟨_, (Eq.trans (hF137 _ _ _ h122 h122 (by decide +kernel)) (Eq.trans (uq_ne e135 (Or.inr (by decide))) (Eq.trans (uq_ne e133 (Or.inr (by decide))) (Eq.trans (uq_ne e131 (Or.inr (by decide))) (Eq.trans (congrFun (hV120 _ (K_old h104 hq116)) _) (uq_at e112)))))), ⟨_, h129⟩⟩
    | 7, _ => exact ⟨_, (Eq.trans (hF137 _ _ _ h122 h122 (by decide +kernel)) (Eq.trans (uq_ne e135 (Or.inr (by decide))) (Eq.trans (uq_ne e133 (Or.inr (by decide))) (uq_at e131)))), ⟨_, h119⟩⟩
    | 8, _ => exact okv_any (Eq.trans (hF137 _ _ _ h122 h122 (by decide +kernel)) (Eq.trans (uq_ne e135 (Or.inr (by decide))) (uq_at e133)))
    | 9, _ => exact okv_any (Eq.trans (hF137 _ _ _ h122 h122 (by decide +kernel)) (uq_at e135))
    | j + 10, hj => exact absurd hj (by omega)
  exact GO.retv rfl rfl dX6_init_95 ⟨rfl, h143, KE.promote (KE.new (KE.new (KE.new (KE.new (KE.new (KE.new (KE.new (KE.call (KE.new KE.rf hq3 hK4) h14.2 h10) hq23 hK24) hq36 hK37) hq50 hK51) hq65 hK66) hq81 hK82) hq98 hK99) hq116 hK117) e141⟩

set_option maxHeartbeats 1000000 in
theorem t_X8_init_k27 {K : Kmap} {V : Vmap} {x : Nat} {p0 : Int} {p1 : Int} (h_x : K x = some (0, 19)) (r_p0 : ir p0) (r_p1 : ir p1) (q_0 : p0 = 5) (q_1 : p1 = 40) : MC mX8_init_k27 K V [.ref x, ti p0, ti p1] (VX (fun K1 V1 => (K1 x = some (0, 27) ∧ vi V1 x 3 = 0) ∧ KE K K1 x)) := by
  refine MC.start 0 (by decide +kernel) rfl rfl rfl (ls0 := [some (.ref x), some (ti p0), some (ti p1)]) rfl ?_
  refine GO.aload_n dX8_init_0 rfl rfl ?_
  refine GO.objInit dX8_init_1 gw_103 gw_27 gw_28 rfl rfl ?_
  refine GO.aload_n dX8_init_4 rfl rfl ?_
  refine GO.iconst dX8_init_5 ?_
  refine GO.putRW rfl (by decide +kernel) h_x fp_raw_fp_RX8_9 rfl rfl dX8_init_6 (fun V2 e1 => ?_)
  refine GO.aload_n dX8_init_9 rfl rfl ?_
  refine GO.iload_n dX8_init_10 rfl rfl ?_
  refine GO.putRF rfl rfl (by decide +kernel) h_x fp_raw_fp_RX8_15 rfl rfl dX8_init_11 (fun V4 e3 => ?_)
  refine GO.aload_n dX8_init_14 rfl rfl ?_
  refine GO.iload_n dX8_init_15 rfl rfl ?_
  refine GO.putRF rfl rfl (by decide +kernel) h_x fp_raw_fp_RX8_18 rfl rfl dX8_init_16 (fun V6 e5 => ?_)
  refine GO.aload_n dX8_init_19 rfl rfl ?_
  refine GO.iconst dX8_init_20 ?_
  refine GO.iload_n dX8_init_21 rfl rfl ?_
  refine GO.iload_n dX8_init_22 rfl rfl ?_
  refine GO.imul dX8_init_23 ?_
  have q7 : -2147483648 ≤ p1 ∧ p1 ≤ 2147483647 := r_p1
  have q8 : -2147483648 ≤ p0 ∧ p0 ≤ 2147483647 := r_p0
  have m9 := mul_rng (a := p0) (b := p1) (A := 5) (B := 40) (by omega) (by omega) (by omega) (by omega)
  have m10 := mul_low (a := p0) (b := p1) (m := 5) (n := 40) (by omega) (by omega) (by omega) (by omega)
  refine GO.callS (N := mJ9_max_7cf53) dX8_init_24 gS_RX8_21 (t_J9_max_7cf53 (ir_c rfl) ⟨by omega, by omega⟩) rfl [.ref x] rfl rfl (Nat.le_of_ble_eq_true rfl) rfl (k_ip fun X11 r12 h13 => ?_)
  have q14 : -2147483648 ≤ X11 ∧ X11 ≤ 2147483647 := r12
  refine GO.newIT 149 200 gw_89 rfl rfl (fun _ _ => okv_df rfl rfl rfl) r12 (by omega) (by omega) rfl (Or.inr (by show _ = ((200 : Nat) : Int); omega)) rfl rfl dX8_init_27 (fun o15 K16 V22 hq17 hK18 hE19 h20 _ hV21 => ?_)
  have h23 := (by rw [hK18, updK_ne (K_old h_x hq17)]; exact h_x : K16 x = some (0, 19))
  have h24 := KE.nw KE.rf h_x hq17
  refine GO.putRF rfl rfl (by decide +kernel) h23 fp_raw_fp_RX8_27 rfl rfl dX8_init_29 (fun V26 e25 => ?_)
  refine GO.promoteT 27 rfl rfl h23 (fun j hj => ?_) (fun K27 e28 hE29 h30 => ?_)
  ·
    have hj : j < 4 := hj
    match j, hj with
    | 0, _ => exact okv_at (Eq.trans (uq_ne e25 (Or.inr (by decide))) (Eq.trans (congrFun (hV21 _ (K_old h_x hq17)) _) (Eq.trans (uq_ne e5 (Or.inr (by decide))) (uq_at e3)))) r_p0 (by omega) (by omega)
    | 1, _ => exact okv_at (Eq.trans (uq_ne e25 (Or.inr (by decide))) (Eq.trans (congrFun (hV21 _ (K_old h_x hq17)) _) (uq_at e5))) r_p1 (by omega) (by omega)
    | 2, _ => exact ⟨_, (uq_at e25), ⟨_, h20⟩⟩
    | 3, _ => exact okv_at (Eq.trans (uq_ne e25 (Or.inr (by decide))) (Eq.trans (congrFun (hV21 _ (K_old h_x hq17)) _) (Eq.trans (uq_ne e5 (Or.inr (by decide))) (Eq.trans (uq_ne e3 (Or.inr (by decide))) (uq_at e1))))) (ir_c rfl) (by omega) (by omega)
    | j + 4, hj => exact absurd hj (by omega)
  exact GO.retv rfl rfl dX8_init_32 ⟨rfl, ⟨h30, vi_at (Eq.trans (uq_ne e25 (Or.inr (by decide))) (Eq.trans (congrFun (hV21 _ (K_old h_x hq17)) _) (Eq.trans (uq_ne e5 (Or.inr (by decide))) (Eq.trans (uq_ne e3 (Or.inr (by decide))) (uq_at e1))))) (ir_c rfl)⟩, KE.promote (KE.new KE.rf hq17 hK18) e28⟩

set_option maxHeartbeats 1000000 in
theorem t_X8_init_k28 {K : Kmap} {V : Vmap} {x : Nat} {p0 : Int} {p1 : Int} (h_x : K x = some (0, 19)) (r_p0 : ir p0) (r_p1 : ir p1) (q_0 : p0 = 5) (q_1 : p1 = 60) : MC mX8_init_k28 K V [.ref x, ti p0, ti p1] (VX (fun K1 V1 => (K1 x = some (0, 28) ∧ vi V1 x 3 = 0) ∧ KE K K1 x)) := by
  refine MC.start 0 (by decide +kernel) rfl rfl rfl (ls0 := [some (.ref x), some (ti p0), some (ti p1)]) rfl ?_
  refine GO.aload_n dX8_init_0 rfl rfl ?_
  refine GO.objInit dX8_init_1 gw_103 gw_27 gw_28 rfl rfl ?_
  refine GO.aload_n dX8_init_4 rfl rfl ?_
  refine GO.iconst dX8_init_5 ?_
  refine GO.putRW rfl (by decide +kernel) h_x fp_raw_fp_RX8_9 rfl rfl dX8_init_6 (fun V2 e1 => ?_)
  refine GO.aload_n dX8_init_9 rfl rfl ?_
  refine GO.iload_n dX8_init_10 rfl rfl ?_
  refine GO.putRF rfl rfl (by decide +kernel) h_x fp_raw_fp_RX8_15 rfl rfl dX8_init_11 (fun V4 e3 => ?_)
  refine GO.aload_n dX8_init_14 rfl rfl ?_
  refine GO.iload_n dX8_init_15 rfl rfl ?_
  refine GO.putRF rfl rfl (by decide +kernel) h_x fp_raw_fp_RX8_18 rfl rfl dX8_init_16 (fun V6 e5 => ?_)
  refine GO.aload_n dX8_init_19 rfl rfl ?_
  refine GO.iconst dX8_init_20 ?_
  refine GO.iload_n dX8_init_21 rfl rfl ?_
  refine GO.iload_n dX8_init_22 rfl rfl ?_
  refine GO.imul dX8_init_23 ?_
  have q7 : -2147483648 ≤ p1 ∧ p1 ≤ 2147483647 := r_p1
  have q8 : -2147483648 ≤ p0 ∧ p0 ≤ 2147483647 := r_p0
  have m9 := mul_rng (a := p0) (b := p1) (A := 5) (B := 60) (by omega) (by omega) (by omega) (by omega)
  have m10 := mul_low (a := p0) (b := p1) (m := 5) (n := 60) (by omega) (by omega) (by omega) (by omega)
  refine GO.callS (N := mJ9_max_7cf53) dX8_init_24 gS_RX8_21 (t_J9_max_7cf53 (ir_c rfl) ⟨by omega, by omega⟩) rfl [.ref x] rfl rfl (Nat.le_of_ble_eq_true rfl) rfl (k_ip fun X11 r12 h13 => ?_)
  have q14 : -2147483648 ≤ X11 ∧ X11 ≤ 2147483647 := r12
  refine GO.newIT 150 300 gw_89 rfl rfl (fun _ _ => okv_df rfl rfl rfl) r12 (by omega) (by omega) rfl (Or.inr (by show _ = ((300 : Nat) : Int); omega)) rfl rfl dX8_init_27 (fun o15 K16 V22 hq17 hK18 hE19 h20 _ hV21 => ?_)
  have h23 := (by rw [hK18, updK_ne (K_old h_x hq17)]; exact h_x : K16 x = some (0, 19))
  have h24 := KE.nw KE.rf h_x hq17
  refine GO.putRF rfl rfl (by decide +kernel) h23 fp_raw_fp_RX8_27 rfl rfl dX8_init_29 (fun V26 e25 => ?_)
  refine GO.promoteT 28 rfl rfl h23 (fun j hj => ?_) (fun K27 e28 hE29 h30 => ?_)
  ·
    have hj : j < 4 := hj
    match j, hj with
    | 0, _ => exact okv_at (Eq.trans (uq_ne e25 (Or.inr (by decide))) (Eq.trans (congrFun (hV21 _ (K_old h_x hq17)) _) (Eq.trans (uq_ne e5 (Or.inr (by decide))) (uq_at e3)))) r_p0 (by omega) (by omega)
    | 1, _ => exact okv_at (Eq.trans (uq_ne e25 (Or.inr (by decide))) (Eq.trans (congrFun (hV21 _ (K_old h_x hq17)) _) (uq_at e5))) r_p1 (by omega) (by omega)
    | 2, _ => exact ⟨_, (uq_at e25), ⟨_, h20⟩⟩
    | 3, _ => exact okv_at (Eq.trans (uq_ne e25 (Or.inr (by decide))) (Eq.trans (congrFun (hV21 _ (K_old h_x hq17)) _) (Eq.trans (uq_ne e5 (Or.inr (by decide))) (Eq.trans (uq_ne e3 (Or.inr (by decide))) (uq_at e1))))) (ir_c rfl) (by omega) (by omega)
    | j + 4, hj => exact absurd hj (by omega)
  exact GO.retv rfl rfl dX8_init_32 ⟨rfl, ⟨h30, vi_at (Eq.trans (uq_ne e25 (Or.inr (by decide))) (Eq.trans (congrFun (hV21 _ (K_old h_x hq17)) _) (Eq.trans (uq_ne e5 (Or.inr (by decide))) (Eq.trans (uq_ne e3 (Or.inr (by decide))) (uq_at e1))))) (ir_c rfl)⟩, KE.promote (KE.new KE.rf hq17 hK18) e28⟩

set_option maxHeartbeats 1000000 in
theorem t_X8_init_k29 {K : Kmap} {V : Vmap} {x : Nat} {p0 : Int} {p1 : Int} (h_x : K x = some (0, 19)) (r_p0 : ir p0) (r_p1 : ir p1) (q_0 : p0 = 3) (q_1 : p1 = 10) : MC mX8_init_k29 K V [.ref x, ti p0, ti p1] (VX (fun K1 V1 => (K1 x = some (0, 29) ∧ vi V1 x 3 = 0) ∧ KE K K1 x)) := by
  refine MC.start 0 (by decide +kernel) rfl rfl rfl (ls0 := [some (.ref x), some (ti p0), some (ti p1)]) rfl ?_
  refine GO.aload_n dX8_init_0 rfl rfl ?_
  refine GO.objInit dX8_init_1 gw_103 gw_27 gw_28 rfl rfl ?_
  refine GO.aload_n dX8_init_4 rfl rfl ?_
  refine GO.iconst dX8_init_5 ?_
  refine GO.putRW rfl (by decide +kernel) h_x fp_raw_fp_RX8_9 rfl rfl dX8_init_6 (fun V2 e1 => ?_)
  refine GO.aload_n dX8_init_9 rfl rfl ?_
  refine GO.iload_n dX8_init_10 rfl rfl ?_
  refine GO.putRF rfl rfl (by decide +kernel) h_x fp_raw_fp_RX8_15 rfl rfl dX8_init_11 (fun V4 e3 => ?_)
  refine GO.aload_n dX8_init_14 rfl rfl ?_
  refine GO.iload_n dX8_init_15 rfl rfl ?_
  refine GO.putRF rfl rfl (by decide +kernel) h_x fp_raw_fp_RX8_18 rfl rfl dX8_init_16 (fun V6 e5 => ?_)
  refine GO.aload_n dX8_init_19 rfl rfl ?_
  refine GO.iconst dX8_init_20 ?_
  refine GO.iload_n dX8_init_21 rfl rfl ?_
  refine GO.iload_n dX8_init_22 rfl rfl ?_
  refine GO.imul dX8_init_23 ?_
  have q7 : -2147483648 ≤ p1 ∧ p1 ≤ 2147483647 := r_p1
  have q8 : -2147483648 ≤ p0 ∧ p0 ≤ 2147483647 := r_p0
  have m9 := mul_rng (a := p0) (b := p1) (A := 3) (B := 10) (by omega) (by omega) (by omega) (by omega)
  have m10 := mul_low (a := p0) (b := p1) (m := 3) (n := 10) (by omega) (by omega) (by omega) (by omega)
  refine GO.callS (N := mJ9_max_7cf53) dX8_init_24 gS_RX8_21 (t_J9_max_7cf53 (ir_c rfl) ⟨by omega, by omega⟩) rfl [.ref x] rfl rfl (Nat.le_of_ble_eq_true rfl) rfl (k_ip fun X11 r12 h13 => ?_)
  have q14 : -2147483648 ≤ X11 ∧ X11 ≤ 2147483647 := r12
  refine GO.newIT 151 30 gw_89 rfl rfl (fun _ _ => okv_df rfl rfl rfl) r12 (by omega) (by omega) rfl (Or.inr (by show _ = ((30 : Nat) : Int); omega)) rfl rfl dX8_init_27 (fun o15 K16 V22 hq17 hK18 hE19 h20 _ hV21 => ?_)
  have h23 := (by rw [hK18, updK_ne (K_old h_x hq17)]; exact h_x : K16 x = some (0, 19))
  have h24 := KE.nw KE.rf h_x hq17
  refine GO.putRF rfl rfl (by decide +kernel) h23 fp_raw_fp_RX8_27 rfl rfl dX8_init_29 (fun V26 e25 => ?_)
  refine GO.promoteT 29 rfl rfl h23 (fun j hj => ?_) (fun K27 e28 hE29 h30 => ?_)
  ·
    have hj : j < 4 := hj
    match j, hj with
    | 0, _ => exact okv_at (Eq.trans (uq_ne e25 (Or.inr (by decide))) (Eq.trans (congrFun (hV21 _ (K_old h_x hq17)) _) (Eq.trans (uq_ne e5 (Or.inr (by decide))) (uq_at e3)))) r_p0 (by omega) (by omega)
    | 1, _ => exact okv_at (Eq.trans (uq_ne e25 (Or.inr (by decide))) (Eq.trans (congrFun (hV21 _ (K_old h_x hq17)) _) (uq_at e5))) r_p1 (by omega) (by omega)
    | 2, _ => exact ⟨_, (uq_at e25), ⟨_, h20⟩⟩
    | 3, _ => exact okv_at (Eq.trans (uq_ne e25 (Or.inr (by decide))) (Eq.trans (congrFun (hV21 _ (K_old h_x hq17)) _) (Eq.trans (uq_ne e5 (Or.inr (by decide))) (Eq.trans (uq_ne e3 (Or.inr (by decide))) (uq_at e1))))) (ir_c rfl) (by omega) (by omega)
    | j + 4, hj => exact absurd hj (by omega)
  exact GO.retv rfl rfl dX8_init_32 ⟨rfl, ⟨h30, vi_at (Eq.trans (uq_ne e25 (Or.inr (by decide))) (Eq.trans (congrFun (hV21 _ (K_old h_x hq17)) _) (Eq.trans (uq_ne e5 (Or.inr (by decide))) (Eq.trans (uq_ne e3 (Or.inr (by decide))) (uq_at e1))))) (ir_c rfl)⟩, KE.promote (KE.new KE.rf hq17 hK18) e28⟩

set_option maxHeartbeats 1000000 in
theorem t_X8_init_k26 {K : Kmap} {V : Vmap} {x : Nat} {p0 : Int} {p1 : Int} (h_x : K x = some (0, 19)) (r_p0 : ir p0) (r_p1 : ir p1) (q_0 : p0 = 5) (q_1 : p1 = 200) : MC mX8_init_k26 K V [.ref x, ti p0, ti p1] (VX (fun K1 V1 => (K1 x = some (0, 26) ∧ vi V1 x 3 = 0) ∧ KE K K1 x)) := by
  refine MC.start 0 (by decide +kernel) rfl rfl rfl (ls0 := [some (.ref x), some (ti p0), some (ti p1)]) rfl ?_
  refine GO.aload_n dX8_init_0 rfl rfl ?_
  refine GO.objInit dX8_init_1 gw_103 gw_27 gw_28 rfl rfl ?_
  refine GO.aload_n dX8_init_4 rfl rfl ?_
  refine GO.iconst dX8_init_5 ?_
  refine GO.putRW rfl (by decide +kernel) h_x fp_raw_fp_RX8_9 rfl rfl dX8_init_6 (fun V2 e1 => ?_)
  refine GO.aload_n dX8_init_9 rfl rfl ?_
  refine GO.iload_n dX8_init_10 rfl rfl ?_
  refine GO.putRF rfl rfl (by decide +kernel) h_x fp_raw_fp_RX8_15 rfl rfl dX8_init_11 (fun V4 e3 => ?_)
  refine GO.aload_n dX8_init_14 rfl rfl ?_
  refine GO.iload_n dX8_init_15 rfl rfl ?_
  refine GO.putRF rfl rfl (by decide +kernel) h_x fp_raw_fp_RX8_18 rfl rfl dX8_init_16 (fun V6 e5 => ?_)
  refine GO.aload_n dX8_init_19 rfl rfl ?_
  refine GO.iconst dX8_init_20 ?_
  refine GO.iload_n dX8_init_21 rfl rfl ?_
  refine GO.iload_n dX8_init_22 rfl rfl ?_
  refine GO.imul dX8_init_23 ?_
  have q7 : -2147483648 ≤ p1 ∧ p1 ≤ 2147483647 := r_p1
  have q8 : -2147483648 ≤ p0 ∧ p0 ≤ 2147483647 := r_p0
  have m9 := mul_rng (a := p0) (b := p1) (A := 5) (B := 200) (by omega) (by omega) (by omega) (by omega)
  have m10 := mul_low (a := p0) (b := p1) (m := 5) (n := 200) (by omega) (by omega) (by omega) (by omega)
  refine GO.callS (N := mJ9_max_7cf53) dX8_init_24 gS_RX8_21 (t_J9_max_7cf53 (ir_c rfl) ⟨by omega, by omega⟩) rfl [.ref x] rfl rfl (Nat.le_of_ble_eq_true rfl) rfl (k_ip fun X11 r12 h13 => ?_)
  have q14 : -2147483648 ≤ X11 ∧ X11 ≤ 2147483647 := r12
  refine GO.newIT 148 1000 gw_89 rfl rfl (fun _ _ => okv_df rfl rfl rfl) r12 (by omega) (by omega) rfl (Or.inr (by show _ = ((1000 : Nat) : Int); omega)) rfl rfl dX8_init_27 (fun o15 K16 V22 hq17 hK18 hE19 h20 _ hV21 => ?_)
  have h23 := (by rw [hK18, updK_ne (K_old h_x hq17)]; exact h_x : K16 x = some (0, 19))
  have h24 := KE.nw KE.rf h_x hq17
  refine GO.putRF rfl rfl (by decide +kernel) h23 fp_raw_fp_RX8_27 rfl rfl dX8_init_29 (fun V26 e25 => ?_)
  refine GO.promoteT 26 rfl rfl h23 (fun j hj => ?_) (fun K27 e28 hE29 h30 => ?_)
  ·
    have hj : j < 4 := hj
    match j, hj with
    | 0, _ => exact okv_at (Eq.trans (uq_ne e25 (Or.inr (by decide))) (Eq.trans (congrFun (hV21 _ (K_old h_x hq17)) _) (Eq.trans (uq_ne e5 (Or.inr (by decide))) (uq_at e3)))) r_p0 (by omega) (by omega)
    | 1, _ => exact okv_at (Eq.trans (uq_ne e25 (Or.inr (by decide))) (Eq.trans (congrFun (hV21 _ (K_old h_x hq17)) _) (uq_at e5))) r_p1 (by omega) (by omega)
    | 2, _ => exact ⟨_, (uq_at e25), ⟨_, h20⟩⟩
    | 3, _ => exact okv_at (Eq.trans (uq_ne e25 (Or.inr (by decide))) (Eq.trans (congrFun (hV21 _ (K_old h_x hq17)) _) (Eq.trans (uq_ne e5 (Or.inr (by decide))) (Eq.trans (uq_ne e3 (Or.inr (by decide))) (uq_at e1))))) (ir_c rfl) (by omega) (by omega)
    | j + 4, hj => exact absurd hj (by omega)
  exact GO.retv rfl rfl dX8_init_32 ⟨rfl, ⟨h30, vi_at (Eq.trans (uq_ne e25 (Or.inr (by decide))) (Eq.trans (congrFun (hV21 _ (K_old h_x hq17)) _) (Eq.trans (uq_ne e5 (Or.inr (by decide))) (Eq.trans (uq_ne e3 (Or.inr (by decide))) (uq_at e1))))) (ir_c rfl)⟩, KE.promote (KE.new KE.rf hq17 hK18) e28⟩

set_option maxHeartbeats 1000000 in
theorem t_X8_init_k30 {K : Kmap} {V : Vmap} {x : Nat} {p0 : Int} {p1 : Int} (h_x : K x = some (0, 19)) (r_p0 : ir p0) (r_p1 : ir p1) (q_0 : p0 = 5) (q_1 : p1 = 200) : MC mX8_init_k30 K V [.ref x, ti p0, ti p1] (VX (fun K1 V1 => (K1 x = some (0, 30) ∧ vi V1 x 3 = 0) ∧ KE K K1 x)) := by
  refine MC.start 0 (by decide +kernel) rfl rfl rfl (ls0 := [some (.ref x), some (ti p0), some (ti p1)]) rfl ?_
  refine GO.aload_n dX8_init_0 rfl rfl ?_
  refine GO.objInit dX8_init_1 gw_103 gw_27 gw_28 rfl rfl ?_
  refine GO.aload_n dX8_init_4 rfl rfl ?_
  refine GO.iconst dX8_init_5 ?_
  refine GO.putRW rfl (by decide +kernel) h_x fp_raw_fp_RX8_9 rfl rfl dX8_init_6 (fun V2 e1 => ?_)
  refine GO.aload_n dX8_init_9 rfl rfl ?_
  refine GO.iload_n dX8_init_10 rfl rfl ?_
  refine GO.putRF rfl rfl (by decide +kernel) h_x fp_raw_fp_RX8_15 rfl rfl dX8_init_11 (fun V4 e3 => ?_)
  refine GO.aload_n dX8_init_14 rfl rfl ?_
  refine GO.iload_n dX8_init_15 rfl rfl ?_
  refine GO.putRF rfl rfl (by decide +kernel) h_x fp_raw_fp_RX8_18 rfl rfl dX8_init_16 (fun V6 e5 => ?_)
  refine GO.aload_n dX8_init_19 rfl rfl ?_
  refine GO.iconst dX8_init_20 ?_
  refine GO.iload_n dX8_init_21 rfl rfl ?_
  refine GO.iload_n dX8_init_22 rfl rfl ?_
  refine GO.imul dX8_init_23 ?_
  have q7 : -2147483648 ≤ p1 ∧ p1 ≤ 2147483647 := r_p1
  have q8 : -2147483648 ≤ p0 ∧ p0 ≤ 2147483647 := r_p0
  have m9 := mul_rng (a := p0) (b := p1) (A := 5) (B := 200) (by omega) (by omega) (by omega) (by omega)
  have m10 := mul_low (a := p0) (b := p1) (m := 5) (n := 200) (by omega) (by omega) (by omega) (by omega)
  refine GO.callS (N := mJ9_max_7cf53) dX8_init_24 gS_RX8_21 (t_J9_max_7cf53 (ir_c rfl) ⟨by omega, by omega⟩) rfl [.ref x] rfl rfl (Nat.le_of_ble_eq_true rfl) rfl (k_ip fun X11 r12 h13 => ?_)
  have q14 : -2147483648 ≤ X11 ∧ X11 ≤ 2147483647 := r12
  refine GO.newIT 152 1000 gw_89 rfl rfl (fun _ _ => okv_df rfl rfl rfl) r12 (by omega) (by omega) rfl (Or.inr (by show _ = ((1000 : Nat) : Int); omega)) rfl rfl dX8_init_27 (fun o15 K16 V22 hq17 hK18 hE19 h20 _ hV21 => ?_)
  have h23 := (by rw [hK18, updK_ne (K_old h_x hq17)]; exact h_x : K16 x = some (0, 19))
  have h24 := KE.nw KE.rf h_x hq17
  refine GO.putRF rfl rfl (by decide +kernel) h23 fp_raw_fp_RX8_27 rfl rfl dX8_init_29 (fun V26 e25 => ?_)
  refine GO.promoteT 30 rfl rfl h23 (fun j hj => ?_) (fun K27 e28 hE29 h30 => ?_)
  ·
    have hj : j < 4 := hj
    match j, hj with
    | 0, _ => exact okv_at (Eq.trans (uq_ne e25 (Or.inr (by decide))) (Eq.trans (congrFun (hV21 _ (K_old h_x hq17)) _) (Eq.trans (uq_ne e5 (Or.inr (by decide))) (uq_at e3)))) r_p0 (by omega) (by omega)
    | 1, _ => exact okv_at (Eq.trans (uq_ne e25 (Or.inr (by decide))) (Eq.trans (congrFun (hV21 _ (K_old h_x hq17)) _) (uq_at e5))) r_p1 (by omega) (by omega)
    | 2, _ => exact ⟨_, (uq_at e25), ⟨_, h20⟩⟩
    | 3, _ => exact okv_at (Eq.trans (uq_ne e25 (Or.inr (by decide))) (Eq.trans (congrFun (hV21 _ (K_old h_x hq17)) _) (Eq.trans (uq_ne e5 (Or.inr (by decide))) (Eq.trans (uq_ne e3 (Or.inr (by decide))) (uq_at e1))))) (ir_c rfl) (by omega) (by omega)
    | j + 4, hj => exact absurd hj (by omega)
  exact GO.retv rfl rfl dX8_init_32 ⟨rfl, ⟨h30, vi_at (Eq.trans (uq_ne e25 (Or.inr (by decide))) (Eq.trans (congrFun (hV21 _ (K_old h_x hq17)) _) (Eq.trans (uq_ne e5 (Or.inr (by decide))) (Eq.trans (uq_ne e3 (Or.inr (by decide))) (uq_at e1))))) (ir_c rfl)⟩, KE.promote (KE.new KE.rf hq17 hK18) e28⟩

set_option maxHeartbeats 1000000 in
theorem t_X8_init_k25 {K : Kmap} {V : Vmap} {x : Nat} {p0 : Int} {p1 : Int} (h_x : K x = some (0, 19)) (r_p0 : ir p0) (r_p1 : ir p1) (q_0 : p0 = 1) (q_1 : p1 = 7) : MC mX8_init_k25 K V [.ref x, ti p0, ti p1] (VX (fun K1 V1 => (K1 x = some (0, 25) ∧ vi V1 x 3 = 0) ∧ KE K K1 x)) := by
  refine MC.start 0 (by decide +kernel) rfl rfl rfl (ls0 := [some (.ref x), some (ti p0), some (ti p1)]) rfl ?_
  refine GO.aload_n dX8_init_0 rfl rfl ?_
  refine GO.objInit dX8_init_1 gw_103 gw_27 gw_28 rfl rfl ?_
  refine GO.aload_n dX8_init_4 rfl rfl ?_
  refine GO.iconst dX8_init_5 ?_
  refine GO.putRW rfl (by decide +kernel) h_x fp_raw_fp_RX8_9 rfl rfl dX8_init_6 (fun V2 e1 => ?_)
  refine GO.aload_n dX8_init_9 rfl rfl ?_
  refine GO.iload_n dX8_init_10 rfl rfl ?_
  refine GO.putRF rfl rfl (by decide +kernel) h_x fp_raw_fp_RX8_15 rfl rfl dX8_init_11 (fun V4 e3 => ?_)
  refine GO.aload_n dX8_init_14 rfl rfl ?_
  refine GO.iload_n dX8_init_15 rfl rfl ?_
  refine GO.putRF rfl rfl (by decide +kernel) h_x fp_raw_fp_RX8_18 rfl rfl dX8_init_16 (fun V6 e5 => ?_)
  refine GO.aload_n dX8_init_19 rfl rfl ?_
  refine GO.iconst dX8_init_20 ?_
  refine GO.iload_n dX8_init_21 rfl rfl ?_
  refine GO.iload_n dX8_init_22 rfl rfl ?_
  refine GO.imul dX8_init_23 ?_
  have q7 : -2147483648 ≤ p1 ∧ p1 ≤ 2147483647 := r_p1
  have q8 : -2147483648 ≤ p0 ∧ p0 ≤ 2147483647 := r_p0
  have m9 := mul_rng (a := p0) (b := p1) (A := 1) (B := 7) (by omega) (by omega) (by omega) (by omega)
  have m10 := mul_low (a := p0) (b := p1) (m := 1) (n := 7) (by omega) (by omega) (by omega) (by omega)
  refine GO.callS (N := mJ9_max_7cf53) dX8_init_24 gS_RX8_21 (t_J9_max_7cf53 (ir_c rfl) ⟨by omega, by omega⟩) rfl [.ref x] rfl rfl (Nat.le_of_ble_eq_true rfl) rfl (k_ip fun X11 r12 h13 => ?_)
  have q14 : -2147483648 ≤ X11 ∧ X11 ≤ 2147483647 := r12
  refine GO.newIT 147 7 gw_89 rfl rfl (fun _ _ => okv_df rfl rfl rfl) r12 (by omega) (by omega) rfl (Or.inr (by show _ = ((7 : Nat) : Int); omega)) rfl rfl dX8_init_27 (fun o15 K16 V22 hq17 hK18 hE19 h20 _ hV21 => ?_)
  have h23 := (by rw [hK18, updK_ne (K_old h_x hq17)]; exact h_x : K16 x = some (0, 19))
  have h24 := KE.nw KE.rf h_x hq17
  refine GO.putRF rfl rfl (by decide +kernel) h23 fp_raw_fp_RX8_27 rfl rfl dX8_init_29 (fun V26 e25 => ?_)
  refine GO.promoteT 25 rfl rfl h23 (fun j hj => ?_) (fun K27 e28 hE29 h30 => ?_)
  ·
    have hj : j < 4 := hj
    match j, hj with
    | 0, _ => exact okv_at (Eq.trans (uq_ne e25 (Or.inr (by decide))) (Eq.trans (congrFun (hV21 _ (K_old h_x hq17)) _) (Eq.trans (uq_ne e5 (Or.inr (by decide))) (uq_at e3)))) r_p0 (by omega) (by omega)
    | 1, _ => exact okv_at (Eq.trans (uq_ne e25 (Or.inr (by decide))) (Eq.trans (congrFun (hV21 _ (K_old h_x hq17)) _) (uq_at e5))) r_p1 (by omega) (by omega)
    | 2, _ => exact ⟨_, (uq_at e25), ⟨_, h20⟩⟩
    | 3, _ => exact okv_at (Eq.trans (uq_ne e25 (Or.inr (by decide))) (Eq.trans (congrFun (hV21 _ (K_old h_x hq17)) _) (Eq.trans (uq_ne e5 (Or.inr (by decide))) (Eq.trans (uq_ne e3 (Or.inr (by decide))) (uq_at e1))))) (ir_c rfl) (by omega) (by omega)
    | j + 4, hj => exact absurd hj (by omega)
  exact GO.retv rfl rfl dX8_init_32 ⟨rfl, ⟨h30, vi_at (Eq.trans (uq_ne e25 (Or.inr (by decide))) (Eq.trans (congrFun (hV21 _ (K_old h_x hq17)) _) (Eq.trans (uq_ne e5 (Or.inr (by decide))) (Eq.trans (uq_ne e3 (Or.inr (by decide))) (uq_at e1))))) (ir_c rfl)⟩, KE.promote (KE.new KE.rf hq17 hK18) e28⟩
