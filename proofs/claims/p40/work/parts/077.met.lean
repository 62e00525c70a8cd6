def mX0_init : MRec := (RX0, cX0_init, 1, (none : Option Jvm.ClassFile.FieldType), yX0_init, 1, 22, 8, 916, 2582249878086908589655919172003011874333500068009351889922298930577412307381377145487169063282582777548674469404788916224)
def mX1_init : MRec := (RX1, cX1_init, 1, (none : Option Jvm.ClassFile.FieldType), yX1_init, 2, 43, 8, 2530, 335692484151298116655269492360391543662861753067799056667985716350284190862189355301853895926417918086667412356457174138880)
def mX8_init_k24 : MRec := (RX8, cX8_init, 3, (none : Option Jvm.ClassFile.FieldType), yX8_init, 1, 21, 1, 16, 330527984395124299475957654016385519914202341482140609642324397637202895618155672912594605219857642423795606012511679152128)
def mX6_init : MRec := (RX6, cX6_init, 1, (none : Option Jvm.ClassFile.FieldType), yX6_init, 2, 43, 9, 2220, 413159980493905374344947067520481899892756721127855890429997136620540384208059127091600780234824497975857278813071640363008)
def mX11_init : MRec := (RX11, cX11_init, 1, (none : Option Jvm.ClassFile.FieldType), yX11_init, 3, 63, 48, 22728, 3065130605289160495921576057167575094829364570363468438107084295787785492019355033976246558053526050860529836429083316060160)
set_option maxHeartbeats 1000000 in
theorem t_X0_init {K : Kmap} {V : Vmap} {x : Nat} (h_x : K x = some (0, 12)) : MC mX0_init K V [.ref x] (VX (fun K1 _ => K1 x = some (0, 0) ∧ KE K K1 x)) := by
  refine MC.start 0 (by decide +kernel) rfl rfl rfl (ls0 := [some (.ref x)]) rfl ?_
  refine GO.aload_n dX0_init_0 rfl rfl ?_
  refine GO.objInit dX0_init_1 gw_34 gw_27 gw_28 rfl rfl ?_
  refine GO.aload_n dX0_init_4 rfl rfl ?_
  refine GO.iconst dX0_init_5 ?_
  refine GO.putRW rfl (by decide +kernel) h_x fp_raw_fp_RX0_9 rfl rfl dX0_init_6 (fun V2 e1 => ?_)
  refine GO.aload_n dX0_init_9 rfl rfl ?_
  refine GO.bipush dX0_init_10 rfl ?_
  refine GO.putRW rfl (by decide +kernel) h_x fp_raw_fp_RX0_15 rfl rfl dX0_init_12 (fun V4 e3 => ?_)
  refine GO.aload_n dX0_init_15 rfl rfl ?_
  refine GO.sipush dX0_init_16 rfl ?_
  refine GO.putRW rfl (by decide +kernel) h_x fp_raw_fp_RX0_18 rfl rfl dX0_init_19 (fun V6 e5 => ?_)
  refine GO.aload_n dX0_init_22 rfl rfl ?_
  refine GO.bipush dX0_init_23 rfl ?_
  refine GO.putRW rfl (by decide +kernel) h_x fp_raw_fp_RX0_21 rfl rfl dX0_init_25 (fun V8 e7 => ?_)
  refine GO.aload_n dX0_init_28 rfl rfl ?_
  refine GO.bipush dX0_init_29 rfl ?_
  refine GO.putRW rfl (by decide +kernel) h_x fp_raw_fp_RX0_24 rfl rfl dX0_init_31 (fun V10 e9 => ?_)
  refine GO.aload_n dX0_init_34 rfl rfl ?_
  refine GO.sipush dX0_init_35 rfl ?_
  refine GO.newI gw_89 (ir_c rfl) (by omega) 144 (by omega) rfl rfl rfl dX0_init_38 (fun o11 K12 V18 hq13 hK14 hE15 h16 _ hV17 => ?_)
  have h19 := (by rw [hK14, updK_ne (K_old h_x hq13)]; exact h_x : K12 x = some (0, 12))
  have h20 := KE.nw KE.rf h_x hq13
  refine GO.putRF rfl rfl (by decide +kernel) h19 fp_raw_fp_RX0_27 rfl rfl dX0_init_40 (fun V22 e21 => ?_)
  refine GO.aload_n dX0_init_43 rfl rfl ?_
  refine GO.sipush dX0_init_44 rfl ?_
  refine GO.newI gw_89 (ir_c rfl) (by omega) 144 (by omega) rfl rfl rfl dX0_init_47 (fun o23 K24 V30 hq25 hK26 hE27 h28 _ hV29 => ?_)
  have h31 := (by rw [hK26, updK_ne (K_old h19 hq25)]; exact h19 : K24 x = some (0, 12))
  have h32 := hE27.arr h16
  have h33 := KE.nw (KE.new KE.rf hq13 hK14) h19 hq25
  refine GO.putRF rfl rfl (by decide +kernel) h31 fp_raw_fp_RX0_31 rfl rfl dX0_init_49 (fun V35 e34 => ?_)
  refine GO.aload_n dX0_init_52 rfl rfl ?_
  refine GO.sipush dX0_init_53 rfl ?_
  refine GO.newI gw_89 (ir_c rfl) (by omega) 144 (by omega) rfl rfl rfl dX0_init_56 (fun o36 K37 V43 hq38 hK39 hE40 h41 _ hV42 => ?_)
  have h44 := (by rw [hK39, updK_ne (K_old h31 hq38)]; exact h31 : K37 x = some (0, 12))
  have h45 := hE40.arr h32
  have h46 := hE40.arr h28
  have h47 := KE.nw (KE.new (KE.new KE.rf hq13 hK14) hq25 hK26) h31 hq38
  refine GO.putRF rfl rfl (by decide +kernel) h44 fp_raw_fp_RX0_34 rfl rfl dX0_init_58 (fun V49 e48 => ?_)
  refine GO.aload_n dX0_init_61 rfl rfl ?_
  refine GO.sipush dX0_init_62 rfl ?_
  refine GO.newI gw_89 (ir_c rfl) (by omega) 144 (by omega) rfl rfl rfl dX0_init_65 (fun o50 K51 V57 hq52 hK53 hE54 h55 _ hV56 => ?_)
  have h58 := (by rw [hK53, updK_ne (K_old h44 hq52)]; exact h44 : K51 x = some (0, 12))
  have h59 := hE54.arr h45
  have h60 := hE54.arr h46
  have h61 := hE54.arr h41
  have h62 := KE.nw (KE.new (KE.new (KE.new KE.rf hq13 hK14) hq25 hK26) hq38 hK39) h44 hq52
  refine GO.putRF rfl rfl (by decide +kernel) h58 fp_raw_fp_RX0_37 rfl rfl dX0_init_67 (fun V64 e63 => ?_)
  refine GO.aload_n dX0_init_70 rfl rfl ?_
  refine GO.bipush dX0_init_71 rfl ?_
  refine GO.newI gw_89 (ir_c rfl) (by omega) 48 (by omega) rfl rfl rfl dX0_init_73 (fun o65 K66 V72 hq67 hK68 hE69 h70 _ hV71 => ?_)
  have h73 := (by rw [hK68, updK_ne (K_old h58 hq67)]; exact h58 : K66 x = some (0, 12))
  have h74 := hE69.arr h59
  have h75 := hE69.arr h60
  have h76 := hE69.arr h61
  have h77 := hE69.arr h55
  have h78 := KE.nw (KE.new (KE.new (KE.new (KE.new KE.rf hq13 hK14) hq25 hK26) hq38 hK39) hq52 hK53) h58 hq67
  refine GO.putRF rfl rfl (by decide +kernel) h73 fp_raw_fp_RX0_40 rfl rfl dX0_init_75 (fun V80 e79 => ?_)
  refine GO.aload_n dX0_init_78 rfl rfl ?_
  refine GO.iconst dX0_init_79 ?_
  refine GO.newI gw_89 (ir_c rfl) (by omega) 4 (by omega) rfl rfl rfl dX0_init_80 (fun o81 K82 V88 hq83 hK84 hE85 h86 _ hV87 => ?_)
  have h89 := (by rw [hK84, updK_ne (K_old h73 hq83)]; exact h73 : K82 x = some (0, 12))
  have h90 := hE85.arr h74
  have h91 := hE85.arr h75
  have h92 := hE85.arr h76
  have h93 := hE85.arr h77
  have h94 := hE85.arr h70
  have h95 := KE.nw (KE.new (KE.new (KE.new (KE.new (KE.new KE.rf hq13 hK14) hq25 hK26) hq38 hK39) hq52 hK53) hq67 hK68) h73 hq83
  refine GO.putRF rfl rfl (by decide +kernel) h89 fp_raw_fp_RX0_43 rfl rfl dX0_init_82 (fun V97 e96 => ?_)
  refine GO.aload_n dX0_init_85 rfl rfl ?_
  refine GO.sipush dX0_init_86 rfl ?_
  refine GO.newI gw_89 (ir_c rfl) (by omega) 144 (by omega) rfl rfl rfl dX0_init_89 (fun o98 K99 V105 hq100 hK101 hE102 h103 _ hV104 => ?_)
  have h106 := (by rw [hK101, updK_ne (K_old h89 hq100)]; exact h89 : K99 x = some (0, 12))
  have h107 := hE102.arr h90
  have h108 := hE102.arr h91
  have h109 := hE102.arr h92
  have h110 := hE102.arr h93
  have h111 := hE102.arr h94
  have h112 := hE102.arr h86
  have h113 := KE.nw (KE.new (KE.new (KE.new (KE.new (KE.new (KE.new KE.rf hq13 hK14) hq25 hK26) hq38 hK39) hq52 hK53) hq67 hK68) hq83 hK84) h89 hq100
  refine GO.putRF rfl rfl (by decide +kernel) h106 fp_raw_fp_RX0_46 rfl rfl dX0_init_91 (fun V115 e114 => ?_)
  refine GO.aload_n dX0_init_94 rfl rfl ?_
  refine GO.sipush dX0_init_95 rfl ?_
  refine GO.newI gw_89 (ir_c rfl) (by omega) 144 (by omega) rfl rfl rfl dX0_init_98 (fun o116 K117 V123 hq118 hK119 hE120 h121 _ hV122 => ?_)
  have h124 := (by rw [hK119, updK_ne (K_old h106 hq118)]; exact h106 : K117 x = some (0, 12))
  have h125 := hE120.arr h107
  have h126 := hE120.arr h108
  have h127 := hE120.arr h109
  have h128 := hE120.arr h110
  have h129 := hE120.arr h111
  have h130 := hE120.arr h112
  have h131 := hE120.arr h103
  have h132 := KE.nw (KE.new (KE.new (KE.new (KE.new (KE.new (KE.new (KE.new KE.rf hq13 hK14) hq25 hK26) hq38 hK39) hq52 hK53) hq67 hK68) hq83 hK84) hq100 hK101) h106 hq118
  refine GO.putRF rfl rfl (by decide +kernel) h124 fp_raw_fp_RX0_49 rfl rfl dX0_init_100 (fun V134 e133 => ?_)
  refine GO.aload_n dX0_init_103 rfl rfl ?_
  refine GO.getRaw h124 fl_raw_fl_RX0_43 (Eq.trans (uq_ne e133 (Or.inr (by decide))) (Eq.trans (congrFun (hV122 _ (K_old h106 hq118)) _) (Eq.trans (uq_ne e114 (Or.inr (by decide))) (Eq.trans (congrFun (hV104 _ (K_old h89 hq100)) _) (uq_at e96))))) dX0_init_104 ?_
  refine GO.bipush dX0_init_107 rfl ?_
  refine GO.callS (N := mX4_fill) dX0_init_109 gS_RX0_52 (t_X4_fill h130 (ir_c rfl)) rfl [] rfl rfl (Nat.le_of_ble_eq_true rfl) rfl (k_vs fun V137 h136 hF135 => ?_)
  refine GO.aload_n dX0_init_112 rfl rfl ?_
  refine GO.getRaw h124 fl_raw_fl_RX0_34 (Eq.trans (hF135 _ _ _ h124 h124 (by decide +kernel)) (Eq.trans (uq_ne e133 (Or.inr (by decide))) (Eq.trans (congrFun (hV122 _ (K_old h106 hq118)) _) (Eq.trans (uq_ne e114 (Or.inr (by decide))) (Eq.trans (congrFun (hV104 _ (K_old h89 hq100)) _) (Eq.trans (uq_ne e96 (Or.inr (by decide))) (Eq.trans (congrFun (hV87 _ (K_old h73 hq83)) _) (Eq.trans (uq_ne e79 (Or.inr (by decide))) (Eq.trans (congrFun (hV71 _ (K_old h58 hq67)) _) (Eq.trans (uq_ne e63 (Or.inr (by decide))) (Eq.trans (congrFun (hV56 _ (K_old h44 hq52)) _) (uq_at e48)))))))))))) dX0_init_113 ?_
  refine GO.iconst dX0_init_116 ?_
  refine GO.callS (N := mX4_fill) dX0_init_117 gS_RX0_52 (t_X4_fill h127 (ir_c rfl)) rfl [] rfl rfl (Nat.le_of_ble_eq_true rfl) rfl (k_vs fun V140 h139 hF138 => ?_)
  refine GO.promote (ci := 0) rfl h124 (fun j hj => ?_) (fun K141 e142 hE143 h144 => ?_)
  ·
    have hj : j < 13 := hj
    match j, hj with
    | 0, _ => exact okv_any (Eq.trans (hF138 _ _ _ h124 h124 (by decide +kernel)) (Eq.trans (hF135 _ _ _ h124 h124 (by decide +kernel)) (Eq.trans (uq_ne e133 (Or.inr (by decide))) (Eq.trans (congrFun (hV122 _ (K_old h106 hq118)) _) (Eq.trans (uq_ne e114 (Or.inr (by decide))) (Eq.trans (congrFun (hV104 _ (K_old h89 hq100)) _) (Eq.trans (uq_ne e96 (Or.inr (by decide))) (Eq.trans (congrFun (hV87 _ (K_old h73 hq83)) _) (Eq.trans (uq_ne e79 (Or.inr (by decide))) (Eq.trans (congrFun (hV71 _ (K_old h58 hq67)) _) (Eq.trans (uq_ne e63 (Or.inr (by decide))) (Eq.trans (congrFun (hV56 _ (K_old h44 hq52)) _) (Eq.trans (uq_ne e48 (Or.inr (by decide))) (Eq.trans (congrFun (hV42 _ (K_old h31 hq38)) _) (Eq.trans (uq_ne e34 (Or.inr (by decide))) (Eq.trans (congrFun (hV29 _ (K_old h19 hq25)) _) (Eq.trans (uq_ne e21 (Or.inr (by decide))) (Eq.trans (congrFun (hV17 _ (K_old h_x hq13)) _) (Eq.trans (uq_ne e9 (Or.inr (by decide))) (Eq.trans (uq_ne e7 (Or.inr (by decide))) (Eq.trans (uq_ne e5 (Or.inr (by decide))) (Eq.trans (uq_ne e3 (Or.inr (by decide))) (uq_at e1)))))))))))))))))))))))
    | 1, _ => exact okv_any (Eq.trans (hF138 _ _ _ h124 h124 (by decide +kernel)) (Eq.trans (hF135 _ _ _ h124 h124 (by decide +kernel)) (Eq.trans (uq_ne e133 (Or.inr (by decide))) (Eq.trans (congrFun (hV122 _ (K_old h106 hq118)) _) (Eq.trans (uq_ne e114 (Or.inr (by decide))) (Eq.trans (congrFun (hV104 _ (K_old h89 hq100)) _) (Eq.trans (uq_ne e96 (Or.inr (by decide))) (Eq.trans (congrFun (hV87 _ (K_old h73 hq83)) _) (Eq.trans (uq_ne e79 (Or.inr (by decide))) (Eq.trans (congrFun (hV71 _ (K_old h58 hq67)) _) (Eq.trans (uq_ne e63 (Or.inr (by decide))) (Eq.trans (congrFun (hV56 _ (K_old h44 hq52)) _) (Eq.trans (uq_ne e48 (Or.inr (by decide))) (Eq.trans (congrFun (hV42 _ (K_old h31 hq38)) _) (Eq.trans (uq_ne e34 (Or.inr (by decide))) (Eq.trans (congrFun (hV29 _ (K_old h19 hq25)) _) (Eq.trans (uq_ne e21 (Or.inr (by decide))) (Eq.trans (congrFun (hV17 _ (K_old h_x hq13)) _) (Eq.trans (uq_ne e9 (Or.inr (by decide))) (Eq.trans (uq_ne e7 (Or.inr (by decide))) (Eq.trans (uq_ne e5 (Or.inr (by decide))) (uq_at e3))))))))))))))))))))))
    | 2, _ => exact okv_any (Eq.trans (hF138 _ _ _ h124 h124 (by decide +kernel)) (Eq.trans (hF135 _ _ _ h124 h124 (by decide +kernel)) (Eq.trans (uq_ne e133 (Or.inr (by decide))) (Eq.trans (congrFun (hV122 _ (K_old h106 hq118)) _) (Eq.trans (uq_ne e114 (Or.inr (by decide))) (Eq.trans (congrFun (hV104 _ (K_old h89 hq100)) _) (Eq.trans (uq_ne e96 (Or.inr (by decide))) (Eq.trans (congrFun (hV87 _ (K_old h73 hq83)) _) (Eq.trans (uq_ne e79 (Or.inr (by decide))) (Eq.trans (congrFun (hV71 _ (K_old h58 hq67)) _) (Eq.trans (uq_ne e63 (Or.inr (by decide))) (Eq.trans (congrFun (hV56 _ (K_old h44 hq52)) _) (Eq.trans (uq_ne e48 (Or.inr (by decide))) (Eq.trans (congrFun (hV42 _ (K_old h31 hq38)) _) (Eq.trans (uq_ne e34 (Or.inr (by decide))) (Eq.trans (congrFun (hV29 _ (K_old h19 hq25)) _) (Eq.trans (uq_ne e21 (Or.inr (by decide))) (Eq.trans (congrFun (hV17 _ (K_old h_x hq13)) _) (Eq.trans (uq_ne e9 (Or.inr (by decide))) (Eq.trans (uq_ne e7 (Or.inr (by decide))) (uq_at e5)))))))))))))))))))))
    | 3, _ => exact okv_any (Eq.trans (hF138 _ _ _ h124 h124 (by decide +kernel)) (Eq.trans (hF135 _ _ _ h124 h124 (by decide +kernel)) (Eq.trans (uq_ne e133 (Or.inr (by decide))) (Eq.trans (congrFun (hV122 _ (K_old h106 hq118)) _) (Eq.trans (uq_ne e114 (Or.inr (by decide))) (Eq.trans (congrFun (hV104 _ (K_old h89 hq100)) _) (Eq.trans (uq_ne e96 (Or.inr (by decide))) (Eq.trans (congrFun (hV87 _ (K_old h73 hq83)) _) (Eq.trans (uq_ne e79 (Or.inr (by decide))) (Eq.trans (congrFun (hV71 _ (K_old h58 hq67)) _) (Eq.trans (uq_ne e63 (Or.inr (by decide))) (Eq.trans (congrFun (hV56 _ (K_old h44 hq52)) _) (Eq.trans (uq_ne e48 (Or.inr (by decide))) (Eq.trans (congrFun (hV42 _ (K_old h31 hq38)) _) (Eq.trans (uq_ne e34 (Or.inr (by decide))) (Eq.trans (congrFun (hV29 _ (K_old h19 hq25)) _) (Eq.trans (uq_ne e21 (Or.inr (by decide))) (Eq.trans (congrFun (hV17 _ (K_old h_x hq13)) _) (Eq.trans (uq_ne e9 (Or.inr (by decide))) (uq_at e7))))))))))))))))))))
    | 4, _ => exact okv_any (Eq.trans (hF138 _ _ _ h124 h124 (by decide +kernel)) (Eq.trans (hF135 _ _ _ h124 h124 (by decide +kernel)) (Eq.trans (uq_ne e133 (Or.inr (by decide))) (Eq.trans (congrFun (hV122 _ (K_old h106 hq118)) _) (Eq.trans (uq_ne e114 (Or.inr (by decide))) (Eq.trans (congrFun (hV104 _ (K_old h89 hq100)) _) (Eq.trans (uq_ne e96 (Or.inr (by decide))) (Eq.trans (congrFun (hV87 _ (K_old h73 hq83)) _) (Eq.trans (uq_ne e79 (Or.inr (by decide))) (Eq.trans (congrFun (hV71 _ (K_old h58 hq67)) _) (Eq.trans (uq_ne e63 (Or.inr (by decide))) (Eq.trans (congrFun (hV56 _ (K_old h44 hq52)) _) (Eq.trans (uq_ne e48 (Or.inr (by decide))) (Eq.trans (congrFun (hV42 _ (K_old h31 hq38)) _) (Eq.trans (uq_ne e34 (Or.inr (by decide))) (Eq.trans (congrFun (hV29 _ (K_old h19 hq25)) _) (Eq.trans (uq_ne e21 (Or.inr (by decide))) (Eq.trans (congrFun (hV17 _ (K_old h_x hq13)) _) (uq_at e9)))))))))))))))))))
    | 5, _ => exact ⟨_, (Eq.trans (hF138 _ _ _ h124 h124 (by decide +kernel)) (Eq.trans (hF135 _ _ _ h124 h124 (by decide +kernel)) (Eq.trans (uq_ne e133 (Or.inr (by decide))) (Eq.trans (congrFun (hV122 _ (K_old h106 hq118)) _) (Eq.trans (uq_ne e114 (Or.inr (by decide))) (Eq.trans (congrFun (hV104 _ (K_old h89 hq100)) _) (Eq.trans (uq_ne e96 (Or.inr (by decide))) (Eq.trans (congrFun (hV87 _ (K_old h73 hq83)) _) (Eq.trans (uq_ne e79 (Or.inr (by decide))) (Eq.trans (congrFun (hV71 _ (K_old h58 hq67)) _) (Eq.trans (uq_ne e63 (Or.inr (by decide))) (Eq.trans (congrFun (hV56 _ (K_old h44 hq52)) _) (Eq.trans (uq_ne e48 (Or.inr (by decide))) (Eq.trans (congrFun (hV42 _ (K_old h31 hq38)) _) (Eq.trans (uq_ne e34 (Or.inr (by decide))) (Eq.trans (congrFun (hV29 _ (K_old h19 hq25)) _) (uq_at e21))))))))))))))))), ⟨_, h125⟩⟩
    | 6, _ => exact ⟨_, (Eq.trans (hF138 _ _ _ h124 h124 (by decide +kernel)) (Eq.trans (hF135 _ _ _ h124 h124 (by decide +kernel)) (Eq.trans (uq_ne e133 (Or.inr (by decide))) (Eq.trans (congrFun (hV122 _ (K_old h106 hq118)) _) (Eq.trans (uq_ne e114 (Or.inr (by decide))) (Eq.trans (congrFun (hV104 _ (K_old h89 hq100)) _) (Eq.trans (uq_ne e96 (Or.inr (by decide))) (Eq.trans (congrFun (hV87 _ (K_old h73 hq83)) _) (Eq.trans (uq_ne e79 (Or.inr (by decide))) (Eq.trans (congrFun (hV71 _ (K_old h58 hq67)) _) (Eq.trans (uq_ne e63 (Or.inr (by decide))) (Eq.trans (congrFun (hV56 _ (K_old h44 hq52)) _) (Eq.trans (uq_ne e48 (Or.inr (by decide))) (Eq.trans (congrFun (hV42 _ (K_old h31 hq38)) _) (uq_at e34))))))))))))))), ⟨_, h126⟩⟩
    | 7, _ => exact ⟨_, (Eq.trans (hF138 _ _ _ h124 h124 (by decide +kernel)) (Eq.trans (hF135 _ _ _ h124 h124 (by decide +kernel)) (Eq.trans (uq_ne e133 (Or.inr (by decide))) (Eq.trans (congrFun (hV122 _ (K_old h106 hq118)) _) (Eq.trans (uq_ne e114 (Or.inr (by decide))) (Eq.trans (congrFun (hV104 _ (K_old h89 hq100)) _) (Eq.trans (uq_ne e96 (Or.inr (by decide))) (Eq.trans (congrFun (hV87 _ (K_old h73 hq83)) _) (Eq.trans (uq_ne e79 (Or.inr (by decide))) (Eq.trans (congrFun (hV71 _ (K_old h58 hq67)) _) (Eq.trans (uq_ne e63 (Or.inr (by decide))) (Eq.trans (congrFun (hV56 _ (K_old h44 hq52)) _) (uq_at e48))))))))))))), ⟨_, h127⟩⟩
    | 8, _ => exact ⟨_, (Eq.trans (hF138 _ _ _ h124 h124 (by decide +kernel)) (Eq.trans (hF135 _ _ _ h124 h124 (by decide +kernel)) (Eq.trans (uq_ne e133 (Or.inr (by decide))) (Eq.trans (congrFun (hV122 _ (K_old h106 hq118)) _) (Eq.trans (uq_ne e114 (Or.inr (by decide))) (Eq.trans (congrFun (hV104 _ (K_old h89 hq100)) _) (Eq.trans (uq_ne e96 (Or.inr (by decide))) (Eq.trans (congrFun (hV87 _ (K_old h73 hq83)) _) (Eq.trans (uq_ne e79 (Or.inr (by decide))) (Eq.trans (congrFun (hV71 _ (K_old h58 hq67)) _) (uq_at e63))))))))))), ⟨_, h128⟩⟩
    | 9, _ => exact ⟨_, (Eq.trans (hF138 _ _ _ h124 h124 (by decide +kernel)) (Eq.trans (hF135 _ _ _ h124 h124 (by decide +kernel)) (Eq.trans (uq_ne e133 (Or.inr (by decide))) (Eq.trans (congrFun (hV122 _ (K_old h106 hq118)) _) (Eq.trans (uq_ne e114 (Or.inr (by decide))) (Eq.trans (congrFun (hV104 _ (K_old h89 hq100)) _) (Eq.trans (uq_ne e96 (Or.inr (by decide))) (Eq.trans (congrFun (hV87 _ (K_old h73 hq83)) _) (uq_at e79))))))))), ⟨_, h129⟩⟩
    | 10, _ => exact ⟨_, (Eq.trans (hF138 _ _ _ h124 h124 (by decide +kernel)) (Eq.trans (hF135 _ _ _ h124 h124 (by decide +kernel)) (Eq.trans (uq_ne e133 (Or.inr (by decide))) (Eq.trans (congrFun (hV122 _ (K_old h106 hq118)) _) (Eq.trans (uq_ne e114 (Or.inr (by decide))) (Eq.trans (congrFun (hV104 _ (K_old h89 hq100)) _) (uq_at e96))))))), ⟨_, h130⟩⟩
    | 11, _ => exact ⟨_, (Eq.trans (hF138 _ _ _ h124 h124 (by decide +kernel)) (Eq.trans (hF135 _ _ _ h124 h124 (by decide +kernel)) (Eq.trans (uq_ne e133 (Or.inr (by decide))) (Eq.trans (congrFun (hV122 _ (K_old h106 hq118)) _) (uq_at e114))))), ⟨_, h131⟩⟩
    | 12, _ => exact ⟨_, (Eq.trans (hF138 _ _ _ h124 h124 (by decide +kernel)) (Eq.trans (hF135 _ _ _ h124 h124 (by decide +kernel)) (uq_at e133))), ⟨_, h121⟩⟩
    | j + 13, hj => exact absurd hj (by omega)
  exact GO.retv rfl rfl dX0_init_120 ⟨rfl, h144, KE.promote (KE.new (KE.new (KE.new (KE.new (KE.new (KE.new (KE.new (KE.new KE.rf hq13 hK14) hq25 hK26) hq38 hK39) hq52 hK53) hq67 hK68) hq83 hK84) hq100 hK101) hq118 hK119) e142⟩

set_option maxHeartbeats 1000000 in
theorem t_X1_init {K : Kmap} {V : Vmap} {x : Nat} (h_x : K x = some (0, 13)) : MC mX1_init K V [.ref x] (VX (fun K1 _ => K1 x = some (0, 1) ∧ KE K K1 x)) := by
  refine MC.start 0 (by decide +kernel) rfl rfl rfl (ls0 := [some (.ref x)]) rfl ?_
  refine GO.aload_n dX1_init_0 rfl rfl ?_
  refine GO.objInit dX1_init_1 gw_95 gw_27 gw_28 rfl rfl ?_
  refine GO.aload_n dX1_init_4 rfl rfl ?_
  refine GO.bipush dX1_init_5 rfl ?_
  refine GO.newQ 8 20 8 rfl rfl gw_96 (List.mem_of_getElem? (i := 4) rfl) rfl rfl (Or.inr rfl) rfl rfl rfl dX1_init_7 (fun o1 K2 V8 hq3 hK4 hE5 h6 _ hV7 => ?_)
  have h9 := (by rw [hK4, updK_ne (K_old h_x hq3)]; exact h_x : K2 x = some (0, 13))
  have h10 := KE.nw KE.rf h_x hq3
  refine GO.putRF rfl rfl (by decide +kernel) h9 fp_raw_fp_RX1_11 rfl rfl dX1_init_10 (fun V12 e11 => ?_)
  refine GO.aload_n dX1_init_13 rfl rfl ?_
  refine GO.iconst dX1_init_14 ?_
  refine GO.putRW rfl (by decide +kernel) h9 fp_raw_fp_RX1_17 rfl rfl dX1_init_15 (fun V14 e13 => ?_)
  refine GO.aload_n dX1_init_18 rfl rfl ?_
  refine GO.new (ci := 19) (RX8, TX8, 4) tyX8 rfl rfl lays_7 tyX8_ok gw_98 gw_99 gw_5 rfl rfl dX1_init_19 (fun o15 K16 V22 hq17 hK18 hE19 h20 _ hV21 => ?_)
  have h23 := (by rw [hK18, updK_ne (K_old h9 hq17)]; exact h9 : K16 x = some (0, 13))
  have h24 := hE19.arr h6
  have h25 := KE.nw (KE.new KE.rf hq3 hK4) h9 hq17
  refine GO.dup dX1_init_22 rfl ?_
  refine GO.iconst dX1_init_23 ?_
  refine GO.bipush dX1_init_24 rfl ?_
  refine GO.callI (N := mX8_init) dX1_init_26 gI_RX1_23 rfl (t_X8_init h20 (ir_c rfl) (ir_c rfl) (by omega) (by omega) (by omega) (by omega)) rfl [.ref o15, .ref x] rfl rfl (Nat.le_of_ble_eq_true rfl) rfl (k_vx fun K28 V30 h29 hE27 hF26 => ?_)
  have h31 := h29.2 _ _ (K_ne h23 h20 (by decide)) h23
  have h32 := h29.1
  have h33 := hE27.arr h24
  refine GO.putRF rfl rfl (by decide +kernel) h31 fp_raw_fp_RX1_26 rfl rfl dX1_init_29 (fun V35 e34 => ?_)
  refine GO.aload_n dX1_init_32 rfl rfl ?_
  refine GO.bipush dX1_init_33 rfl ?_
  refine GO.newQ 8 20 8 rfl rfl gw_96 (List.mem_of_getElem? (i := 4) rfl) rfl rfl (Or.inr rfl) rfl rfl rfl dX1_init_35 (fun o36 K37 V43 hq38 hK39 hE40 h41 _ hV42 => ?_)
  have h44 := (by rw [hK39, updK_ne (K_old h31 hq38)]; exact h31 : K37 x = some (0, 13))
  have h45 := hE40.arr h33
  have h46 := hE40.obj (by decide) h32
  have h47 := KE.nw (KE.call (KE.new (KE.new KE.rf hq3 hK4) hq17 hK18) h29.2 h25) h31 hq38
  refine GO.putRF rfl rfl (by decide +kernel) h44 fp_raw_fp_RX1_30 rfl rfl dX1_init_38 (fun V49 e48 => ?_)
  refine GO.aload_n dX1_init_41 rfl rfl ?_
  refine GO.bipush dX1_init_42 rfl ?_
  refine GO.newI gw_89 (ir_c rfl) (by omega) 20 (by omega) rfl rfl rfl dX1_init_44 (fun o50 K51 V57 hq52 hK53 hE54 h55 _ hV56 => ?_)
  have h58 := (by rw [hK53, updK_ne (K_old h44 hq52)]; exact h44 : K51 x = some (0, 13))
  have h59 := hE54.arr h45
  have h60 := hE54.obj (by decide) h46
  have h61 := hE54.arr h41
  have h62 := KE.nw (KE.new (KE.call (KE.new (KE.new KE.rf hq3 hK4) hq17 hK18) h29.2 h25) hq38 hK39) h44 hq52
  refine GO.putRF rfl rfl (by decide +kernel) h58 fp_raw_fp_RX1_33 rfl rfl dX1_init_46 (fun V64 e63 => ?_)
  refine GO.aload_n dX1_init_49 rfl rfl ?_
  refine GO.bipush dX1_init_50 rfl ?_
  refine GO.newI gw_89 (ir_c rfl) (by omega) 20 (by omega) rfl rfl rfl dX1_init_52 (fun o65 K66 V72 hq67 hK68 hE69 h70 _ hV71 => ?_)
  have h73 := (by rw [hK68, updK_ne (K_old h58 hq67)]; exact h58 : K66 x = some (0, 13))
  have h74 := hE69.arr h59
  have h75 := hE69.obj (by decide) h60
  have h76 := hE69.arr h61
  have h77 := hE69.arr h55
  have h78 := KE.nw (KE.new (KE.new (KE.call (KE.new (KE.new KE.rf hq3 hK4) hq17 hK18) h29.2 h25) hq38 hK39) hq52 hK53) h58 hq67
  refine GO.putRF rfl rfl (by decide +kernel) h73 fp_raw_fp_RX1_37 rfl rfl dX1_init_54 (fun V80 e79 => ?_)
  refine GO.aload_n dX1_init_57 rfl rfl ?_
  refine GO.iconst dX1_init_58 ?_
  refine GO.putRW rfl (by decide +kernel) h73 fp_raw_fp_RX1_40 rfl rfl dX1_init_59 (fun V82 e81 => ?_)
  refine GO.aload_n dX1_init_62 rfl rfl ?_
  refine GO.iconst dX1_init_63 ?_
  refine GO.putRW rfl (by decide +kernel) h73 fp_raw_fp_RX1_43 rfl rfl dX1_init_64 (fun V84 e83 => ?_)
  refine GO.aload_n dX1_init_67 rfl rfl ?_
  refine GO.bipush dX1_init_68 rfl ?_
  refine GO.newI gw_89 (ir_c rfl) (by omega) 14 (by omega) rfl rfl rfl dX1_init_70 (fun o85 K86 V92 hq87 hK88 hE89 h90 _ hV91 => ?_)
  have h93 := (by rw [hK88, updK_ne (K_old h73 hq87)]; exact h73 : K86 x = some (0, 13))
  have h94 := hE89.arr h74
  have h95 := hE89.obj (by decide) h75
  have h96 := hE89.arr h76
  have h97 := hE89.arr h77
  have h98 := hE89.arr h70
  have h99 := KE.nw (KE.new (KE.new (KE.new (KE.call (KE.new (KE.new KE.rf hq3 hK4) hq17 hK18) h29.2 h25) hq38 hK39) hq52 hK53) hq67 hK68) h73 hq87
  refine GO.putRF rfl rfl (by decide +kernel) h93 fp_raw_fp_RX1_46 rfl rfl dX1_init_72 (fun V101 e100 => ?_)
  refine GO.aload_n dX1_init_75 rfl rfl ?_
  refine GO.bipush dX1_init_76 rfl ?_
  refine GO.newI gw_89 (ir_c rfl) (by omega) 32 (by omega) rfl rfl rfl dX1_init_78 (fun o102 K103 V109 hq104 hK105 hE106 h107 _ hV108 => ?_)
  have h110 := (by rw [hK105, updK_ne (K_old h93 hq104)]; exact h93 : K103 x = some (0, 13))
  have h111 := hE106.arr h94
  have h112 := hE106.obj (by decide) h95
  have h113 := hE106.arr h96
  have h114 := hE106.arr h97
  have h115 := hE106.arr h98
  have h116 := hE106.arr h90
  have h117 := KE.nw (KE.new (KE.new (KE.new (KE.new (KE.call (KE.new (KE.new KE.rf hq3 hK4) hq17 hK18) h29.2 h25) hq38 hK39) hq52 hK53) hq67 hK68) hq87 hK88) h93 hq104
  refine GO.putRF rfl rfl (by decide +kernel) h110 fp_raw_fp_RX1_49 rfl rfl dX1_init_80 (fun V119 e118 => ?_)
  refine GO.aload_n dX1_init_83 rfl rfl ?_
  refine GO.iconst dX1_init_84 ?_
  refine GO.putRW rfl (by decide +kernel) h110 fp_raw_fp_RX1_52 rfl rfl dX1_init_85 (fun V121 e120 => ?_)
  refine GO.aload_n dX1_init_88 rfl rfl ?_
  refine GO.iconst dX1_init_89 ?_
  refine GO.putRW rfl (by decide +kernel) h110 fp_raw_fp_RX1_55 rfl rfl dX1_init_90 (fun V123 e122 => ?_)
  refine GO.aload_n dX1_init_93 rfl rfl ?_
  refine GO.iconst dX1_init_94 ?_
  refine GO.putRW rfl (by decide +kernel) h110 fp_raw_fp_RX1_58 rfl rfl dX1_init_95 (fun V125 e124 => ?_)
  refine GO.promote (ci := 1) rfl h110 (fun j hj => ?_) (fun K126 e127 hE128 h129 => ?_)
  ·
    have hj : j < 13 := hj
    match j, hj with
    | 0, _ => exact ⟨_, (Eq.trans (uq_ne e124 (Or.inr (by decide))) (Eq.trans (uq_ne e122 (Or.inr (by decide))) (Eq.trans (uq_ne e120 (Or.inr (by decide))) (Eq.trans (uq_ne e118 (Or.inr (by decide))) (Eq.trans (congrFun (hV108 _ (K_old h93 hq104)) _) (Eq.trans (uq_ne e100 (Or.inr (by decide))) (Eq.trans (congrFun (hV91 _ (K_old h73 hq87)) _) (Eq.trans (uq_ne e83 (Or.inr (by decide))) (Eq.trans (uq_ne e81 (Or.inr (by decide))) (Eq.trans (uq_ne e79 (Or.inr (by decide))) (Eq.trans (congrFun (hV71 _ (K_old h58 hq67)) _) (Eq.trans (uq_ne e63 (Or.inr (by decide))) (Eq.trans (congrFun (hV56 _ (K_old h44 hq52)) _) (Eq.trans (uq_ne e48 (Or.inr (by decide))) (Eq.trans (congrFun (hV42 _ (K_old h31 hq38)) _) (Eq.trans (uq_ne e34 (Or.inr (by decide))) (Eq.trans (hF26 _ _ _ h23 h31 (by decide +kernel)) (Eq.trans (congrFun (hV21 _ (K_old h9 hq17)) _) (Eq.trans (uq_ne e13 (Or.inr (by decide))) (uq_at e11)))))))))))))))))))), ⟨_, h111⟩⟩
    | 1, _ => exact okv_at (Eq.trans (uq_ne e124 (Or.inr (by decide))) (Eq.trans (uq_ne e122 (Or.inr (by decide))) (Eq.trans (uq_ne e120 (Or.inr (by decide))) (Eq.trans (uq_ne e118 (Or.inr (by decide))) (Eq.trans (congrFun (hV108 _ (K_old h93 hq104)) _) (Eq.trans (uq_ne e100 (Or.inr (by decide))) (Eq.trans (congrFun (hV91 _ (K_old h73 hq87)) _) (Eq.trans (uq_ne e83 (Or.inr (by decide))) (Eq.trans (uq_ne e81 (Or.inr (by decide))) (Eq.trans (uq_ne e79 (Or.inr (by decide))) (Eq.trans (congrFun (hV71 _ (K_old h58 hq67)) _) (Eq.trans (uq_ne e63 (Or.inr (by decide))) (Eq.trans (congrFun (hV56 _ (K_old h44 hq52)) _) (Eq.trans (uq_ne e48 (Or.inr (by decide))) (Eq.trans (congrFun (hV42 _ (K_old h31 hq38)) _) (Eq.trans (uq_ne e34 (Or.inr (by decide))) (Eq.trans (hF26 _ _ _ h23 h31 (by decide +kernel)) (Eq.trans (congrFun (hV21 _ (K_old h9 hq17)) _) (uq_at e13))))))))))))))))))) (ir_c rfl) (by omega) (by omega)
    | 2, _ => exact ⟨_, (Eq.trans (uq_ne e124 (Or.inr (by decide))) (Eq.trans (uq_ne e122 (Or.inr (by decide))) (Eq.trans (uq_ne e120 (Or.inr (by decide))) (Eq.trans (uq_ne e118 (Or.inr (by decide))) (Eq.trans (congrFun (hV108 _ (K_old h93 hq104)) _) (Eq.trans (uq_ne e100 (Or.inr (by decide))) (Eq.trans (congrFun (hV91 _ (K_old h73 hq87)) _) (Eq.trans (uq_ne e83 (Or.inr (by decide))) (Eq.trans (uq_ne e81 (Or.inr (by decide))) (Eq.trans (uq_ne e79 (Or.inr (by decide))) (Eq.trans (congrFun (hV71 _ (K_old h58 hq67)) _) (Eq.trans (uq_ne e63 (Or.inr (by decide))) (Eq.trans (congrFun (hV56 _ (K_old h44 hq52)) _) (Eq.trans (uq_ne e48 (Or.inr (by decide))) (Eq.trans (congrFun (hV42 _ (K_old h31 hq38)) _) (uq_at e34)))))))))))))))), h112⟩
    | 3, _ => exact ⟨_, (Eq.trans (uq_ne e124 (Or.inr (by decide))) (Eq.trans (uq_ne e122 (Or.inr (by decide))) (Eq.trans (uq_ne e120 (Or.inr (by decide))) (Eq.trans (uq_ne e118 (Or.inr (by decide))) (Eq.trans (congrFun (hV108 _ (K_old h93 hq104)) _) (Eq.trans (uq_ne e100 (Or.inr (by decide))) (Eq.trans (congrFun (hV91 _ (K_old h73 hq87)) _) (Eq.trans (uq_ne e83 (Or.inr (by decide))) (Eq.trans (uq_ne e81 (Or.inr (by decide))) (Eq.trans (uq_ne e79 (Or.inr (by decide))) (Eq.trans (congrFun (hV71 _ (K_old h58 hq67)) _) (Eq.trans (uq_ne e63 (Or.inr (by decide))) (Eq.trans (congrFun (hV56 _ (K_old h44 hq52)) _) (uq_at e48)))))))))))))), ⟨_, h113⟩⟩
    | 4, _ => exact ⟨_, (Eq.trans (uq_ne e124 (Or.inr (by decide))) (Eq.trans (uq_ne e122 (Or.inr (by decide))) (Eq.trans (uq_ne e120 (Or.inr (by decide))) (Eq.trans (uq_ne e118 (Or.inr (by decide))) (Eq.trans (congrFun (hV108 _ (K_old h93 hq104)) _) (Eq.trans (uq_ne e100 (Or.inr (by decide))) (Eq.trans (congrFun (hV91 _ (K_old h73 hq87)) _) (Eq.trans (uq_ne e83 (Or.inr (by decide))) (Eq.trans (uq_ne e81 (Or.inr (by decide))) (Eq.trans (uq_ne e79 (Or.inr (by decide))) (Eq.trans (congrFun (hV71 _ (K_old h58 hq67)) _) (uq_at e63)))))))))))), ⟨_, h114⟩⟩
    | 5, _ => exact ⟨_, (Eq.trans (uq_ne e124 (Or.inr (by decide))) (Eq.trans (uq_ne e122 (Or.inr (by decide))) (Eq.trans (uq_ne e120 (Or.inr (by decide))) (Eq.trans (uq_ne e118 (Or.inr (by decide))) (Eq.trans (congrFun (hV108 _ (K_old h93 hq104)) _) (Eq.trans (uq_ne e100 (Or.inr (by decide))) (Eq.trans (congrFun (hV91 _ (K_old h73 hq87)) _) (Eq.trans (uq_ne e83 (Or.inr (by decide))) (Eq.trans (uq_ne e81 (Or.inr (by decide))) (uq_at e79)))))))))), ⟨_, h115⟩⟩
    | 6, _ => exact okv_any (Eq.trans (uq_ne e124 (Or.inr (by decide))) (Eq.trans (uq_ne e122 (Or.inr (by decide))) (Eq.trans (uq_ne e120 (Or.inr (by decide))) (Eq.trans (uq_ne e118 (Or.inr (by decide))) (Eq.trans (congrFun (hV108 _ (K_old h93 hq104)) _) (Eq.trans (uq_ne e100 (Or.inr (by decide))) (Eq.trans (congrFun (hV91 _ (K_old h73 hq87)) _) (Eq.trans (uq_ne e83 (Or.inr (by decide))) (uq_at e81)))))))))
    | 7, _ => exact okv_any (Eq.trans (uq_ne e124 (Or.inr (by decide))) (Eq.trans (uq_ne e122 (Or.inr (by decide))) (Eq.trans (uq_ne e120 (Or.inr (by decide))) (Eq.trans (uq_ne e118 (Or.inr (by decide))) (Eq.trans (congrFun (hV108 _ (K_old h93 hq104)) _) (Eq.trans (uq_ne e100 (Or.inr (by decide))) (Eq.trans (congrFun (hV91 _ (K_old h73 hq87)) _) (uq_at e83))))))))
    | 8, _ => exact ⟨_, (Eq.trans (uq_ne e124 (Or.inr (by decide))) (Eq.trans (uq_ne e122 (Or.inr (by decide))) (Eq.trans (uq_ne e120 (Or.inr (by decide))) (Eq.trans (uq_ne e118 (Or.inr (by decide))) (Eq.trans (congrFun (hV108 _ (K_old h93 hq104)) _) (uq_at e100)))))), ⟨_, h116⟩⟩
    | 9, _ => exact ⟨_, (Eq.trans (uq_ne e124 (Or.inr (by decide))) (Eq.trans (uq_ne e122 (Or.inr (by decide))) (Eq.trans (uq_ne e120 (Or.inr (by decide))) (uq_at e118)))), ⟨_, h107⟩⟩
    | 10, _ => exact okv_any (Eq.trans (uq_ne e124 (Or.inr (by decide))) (Eq.trans (uq_ne e122 (Or.inr (by decide))) (uq_at e120)))
    | 11, _ => exact okv_any (Eq.trans (uq_ne e124 (Or.inr (by decide))) (uq_at e122))
    | 12, _ => exact okv_any (uq_at e124)
    | j + 13, hj => exact absurd hj (by omega)
  exact GO.retv rfl rfl dX1_init_98 ⟨rfl, h129, KE.promote (KE.new (KE.new (KE.new (KE.new (KE.new (KE.call (KE.new (KE.new KE.rf hq3 hK4) hq17 hK18) h29.2 h25) hq38 hK39) hq52 hK53) hq67 hK68) hq87 hK88) hq104 hK105) e127⟩

set_option maxHeartbeats 1000000 in
theorem t_X8_init_k24 {K : Kmap} {V : Vmap} {x : Nat} {p0 : Int} {p1 : Int} (h_x : K x = some (0, 19)) (r_p0 : ir p0) (r_p1 : ir p1) (q_0 : p0 = 2) (q_1 : p1 = 8) : MC mX8_init_k24 K V [.ref x, ti p0, ti p1] (VX (fun K1 _ => K1 x = some (0, 24) ∧ KE K K1 x)) := by
  refine MC.start 0 (by decide +kernel) rfl rfl rfl (ls0 := [some (.ref x), some (ti p0), some (ti p1)]) rfl ?_
  refine GO.aload_n dX8_init_0 rfl rfl ?_
  refine GO.objInit dX8_init_1 gw_103 gw_27 gw_28 rfl rfl ?_
  refine GO.aload_n dX8_init_4 rfl rfl ?_
  refine GO.iconst dX8_init_5 ?_
  refine GO.putRW rfl (by decide +kernel) h_x fp_raw_fp_RX8_9 rfl rfl dX8_init_6 (fun V2 e1 => ?_)
  refine GO.aload_n dX8_init_9 rfl rfl ?_
  refine GO.iload_n dX8_init_10 rfl rfl ?_
  refine GO.putRF rfl rfl (by decide +kernel) h_x fp_raw_fp_RX8_15 rfl rfl dX8_init_11 (fun V4 e3 => ?_)
  refine GO.aload_n dX8_init_14 rfl rfl ?_
  refine GO.iload_n dX8_init_15 rfl rfl ?_
  refine GO.putRF rfl rfl (by decide +kernel) h_x fp_raw_fp_RX8_18 rfl rfl dX8_init_16 (fun V6 e5 => ?_)
  refine GO.aload_n dX8_init_19 rfl rfl ?_
  refine GO.iconst dX8_init_20 ?_
  refine GO.iload_n dX8_init_21 rfl rfl ?_
  refine GO.iload_n dX8_init_22 rfl rfl ?_
  refine GO.imul dX8_init_23 ?_
  have q7 : -2147483648 ≤ p1 ∧ p1 ≤ 2147483647 := r_p1
  have q8 : -2147483648 ≤ p0 ∧ p0 ≤ 2147483647 := r_p0
  have m9 := mul_rng (a := p0) (b := p1) (A := 2) (B := 8) (by omega) (by omega) (by omega) (by omega)
  have m10 := mul_low (a := p0) (b := p1) (m := 2) (n := 8) (by omega) (by omega) (by omega) (by omega)
  refine GO.callS (N := mJ9_max_7cf53) dX8_init_24 gS_RX8_21 (t_J9_max_7cf53 (ir_c rfl) ⟨by omega, by omega⟩) rfl [.ref x] rfl rfl (Nat.le_of_ble_eq_true rfl) rfl (k_ip fun X11 r12 h13 => ?_)
  have q14 : -2147483648 ≤ X11 ∧ X11 ≤ 2147483647 := r12
  refine GO.newI gw_89 r12 (by omega) 16 (by omega) rfl rfl rfl dX8_init_27 (fun o15 K16 V22 hq17 hK18 hE19 h20 _ hV21 => ?_)
  have h23 := (by rw [hK18, updK_ne (K_old h_x hq17)]; exact h_x : K16 x = some (0, 19))
  have h24 := KE.nw KE.rf h_x hq17
  refine GO.putRF rfl rfl (by decide +kernel) h23 fp_raw_fp_RX8_27 rfl rfl dX8_init_29 (fun V26 e25 => ?_)
  refine GO.promote24 h23 (fun j hj => ?_) (fun K27 e28 hE29 h30 => ?_)
  ·
    have hj : j < 4 := hj
    match j, hj with
    | 0, _ => exact okv_at (Eq.trans (uq_ne e25 (Or.inr (by decide))) (Eq.trans (congrFun (hV21 _ (K_old h_x hq17)) _) (Eq.trans (uq_ne e5 (Or.inr (by decide))) (uq_at e3)))) r_p0 (by omega) (by omega)
    | 1, _ => exact okv_at (Eq.trans (uq_ne e25 (Or.inr (by decide))) (Eq.trans (congrFun (hV21 _ (K_old h_x hq17)) _) (uq_at e5))) r_p1 (by omega) (by omega)
    | 2, _ => exact ⟨_, (uq_at e25), ⟨_, h20⟩⟩
    | 3, _ => exact okv_at (Eq.trans (uq_ne e25 (Or.inr (by decide))) (Eq.trans (congrFun (hV21 _ (K_old h_x hq17)) _) (Eq.trans (uq_ne e5 (Or.inr (by decide))) (Eq.trans (uq_ne e3 (Or.inr (by decide))) (uq_at e1))))) (ir_c rfl) (by omega) (by omega)
    | j + 4, hj => exact absurd hj (by omega)
  exact GO.retv rfl rfl dX8_init_32 ⟨rfl, h30, KE.promote (KE.new KE.rf hq17 hK18) e28⟩

set_option maxHeartbeats 1000000 in
theorem t_X6_init {K : Kmap} {V : Vmap} {x : Nat} (h_x : K x = some (0, 17)) : MC mX6_init K V [.ref x] (VX (fun K1 _ => K1 x = some (0, 5) ∧ KE K K1 x)) := by
  refine MC.start 0 (by decide +kernel) rfl rfl rfl (ls0 := [some (.ref x)]) rfl ?_
  refine GO.aload_n dX6_init_0 rfl rfl ?_
  refine GO.objInit dX6_init_1 gw_177 gw_27 gw_28 rfl rfl ?_
  refine GO.aload_n dX6_init_4 rfl rfl ?_
  refine GO.new (ci := 19) (RX8, TX8, 4) tyX8 rfl rfl lays_7 tyX8_ok gw_178 gw_99 gw_5 rfl rfl dX6_init_5 (fun o1 K2 V8 hq3 hK4 hE5 h6 _ hV7 => ?_)
  have h9 := (by rw [hK4, updK_ne (K_old h_x hq3)]; exact h_x : K2 x = some (0, 17))
  have h10 := KE.nw KE.rf h_x hq3
  refine GO.dup dX6_init_8 rfl ?_
  refine GO.iconst dX6_init_9 ?_
  refine GO.bipush dX6_init_10 rfl ?_
  refine GO.callI (N := mX8_init_k24) dX6_init_12 gI_RX6_11 rfl (t_X8_init_k24 h6 (ir_c rfl) (ir_c rfl) (by omega) (by omega)) rfl [.ref o1, .ref x] rfl rfl (Nat.le_of_ble_eq_true rfl) rfl (k_vx fun K13 V15 h14 hE12 hF11 => ?_)
  have h16 := h14.2 _ _ (K_ne h9 h6 (by decide)) h9
  have h17 := h14.1
  refine GO.putRF rfl rfl (by decide +kernel) h16 fp_raw_fp_RX6_14 rfl rfl dX6_init_15 (fun V19 e18 => ?_)
  refine GO.aload_n dX6_init_18 rfl rfl ?_
  refine GO.bipush dX6_init_19 rfl ?_
  refine GO.newI gw_89 (ir_c rfl) (by omega) 24 (by omega) rfl rfl rfl dX6_init_21 (fun o20 K21 V27 hq22 hK23 hE24 h25 _ hV26 => ?_)
  have h28 := (by rw [hK23, updK_ne (K_old h16 hq22)]; exact h16 : K21 x = some (0, 17))
  have h29 := hE24.obj (by decide) h17
  have h30 := KE.nw (KE.call (KE.new KE.rf hq3 hK4) h14.2 h10) h16 hq22
  refine GO.putRF rfl rfl (by decide +kernel) h28 fp_raw_fp_RX6_20 rfl rfl dX6_init_23 (fun V32 e31 => ?_)
  refine GO.aload_n dX6_init_26 rfl rfl ?_
  refine GO.bipush dX6_init_27 rfl ?_
  refine GO.newI gw_89 (ir_c rfl) (by omega) 24 (by omega) rfl rfl rfl dX6_init_29 (fun o33 K34 V40 hq35 hK36 hE37 h38 _ hV39 => ?_)
  have h41 := (by rw [hK36, updK_ne (K_old h28 hq35)]; exact h28 : K34 x = some (0, 17))
  have h42 := hE37.obj (by decide) h29
  have h43 := hE37.arr h25
  have h44 := KE.nw (KE.new (KE.call (KE.new KE.rf hq3 hK4) h14.2 h10) hq22 hK23) h28 hq35
  refine GO.putRF rfl rfl (by decide +kernel) h41 fp_raw_fp_RX6_24 rfl rfl dX6_init_31 (fun V46 e45 => ?_)
  refine GO.aload_n dX6_init_34 rfl rfl ?_
  refine GO.bipush dX6_init_35 rfl ?_
  refine GO.newI gw_89 (ir_c rfl) (by omega) 64 (by omega) rfl rfl rfl dX6_init_37 (fun o47 K48 V54 hq49 hK50 hE51 h52 _ hV53 => ?_)
  have h55 := (by rw [hK50, updK_ne (K_old h41 hq49)]; exact h41 : K48 x = some (0, 17))
  have h56 := hE51.obj (by decide) h42
  have h57 := hE51.arr h43
  have h58 := hE51.arr h38
  have h59 := KE.nw (KE.new (KE.new (KE.call (KE.new KE.rf hq3 hK4) h14.2 h10) hq22 hK23) hq35 hK36) h41 hq49
  refine GO.putRF rfl rfl (by decide +kernel) h55 fp_raw_fp_RX6_27 rfl rfl dX6_init_39 (fun V61 e60 => ?_)
  refine GO.aload_n dX6_init_42 rfl rfl ?_
  refine GO.bipush dX6_init_43 rfl ?_
  refine GO.newI gw_89 (ir_c rfl) (by omega) 24 (by omega) rfl rfl rfl dX6_init_45 (fun o62 K63 V69 hq64 hK65 hE66 h67 _ hV68 => ?_)
  have h70 := (by rw [hK65, updK_ne (K_old h55 hq64)]; exact h55 : K63 x = some (0, 17))
  have h71 := hE66.obj (by decide) h56
  have h72 := hE66.arr h57
  have h73 := hE66.arr h58
  have h74 := hE66.arr h52
  have h75 := KE.nw (KE.new (KE.new (KE.new (KE.call (KE.new KE.rf hq3 hK4) h14.2 h10) hq22 hK23) hq35 hK36) hq49 hK50) h55 hq64
  refine GO.putRF rfl rfl (by decide +kernel) h70 fp_raw_fp_RX6_30 rfl rfl dX6_init_47 (fun V77 e76 => ?_)
  refine GO.aload_n dX6_init_50 rfl rfl ?_
  refine GO.bipush dX6_init_51 rfl ?_
  refine GO.newI gw_89 (ir_c rfl) (by omega) 8 (by omega) rfl rfl rfl dX6_init_53 (fun o78 K79 V85 hq80 hK81 hE82 h83 _ hV84 => ?_)
  have h86 := (by rw [hK81, updK_ne (K_old h70 hq80)]; exact h70 : K79 x = some (0, 17))
  have h87 := hE82.obj (by decide) h71
  have h88 := hE82.arr h72
  have h89 := hE82.arr h73
  have h90 := hE82.arr h74
  have h91 := hE82.arr h67
  have h92 := KE.nw (KE.new (KE.new (KE.new (KE.new (KE.call (KE.new KE.rf hq3 hK4) h14.2 h10) hq22 hK23) hq35 hK36) hq49 hK50) hq64 hK65) h70 hq80
  refine GO.putRF rfl rfl (by decide +kernel) h86 fp_raw_fp_RX6_33 rfl rfl dX6_init_55 (fun V94 e93 => ?_)
  refine GO.aload_n dX6_init_58 rfl rfl ?_
  refine GO.sipush dX6_init_59 rfl ?_
  refine GO.newI gw_89 (ir_c rfl) (by omega) 2048 (by omega) rfl rfl rfl dX6_init_62 (fun o95 K96 V102 hq97 hK98 hE99 h100 _ hV101 => ?_)
  have h103 := (by rw [hK98, updK_ne (K_old h86 hq97)]; exact h86 : K96 x = some (0, 17))
  have h104 := hE99.obj (by decide) h87
  have h105 := hE99.arr h88
  have h106 := hE99.arr h89
  have h107 := hE99.arr h90
  have h108 := hE99.arr h91
  have h109 := hE99.arr h83
  have h110 := KE.nw (KE.new (KE.new (KE.new (KE.new (KE.new (KE.call (KE.new KE.rf hq3 hK4) h14.2 h10) hq22 hK23) hq35 hK36) hq49 hK50) hq64 hK65) hq80 hK81) h86 hq97
  refine GO.putRF rfl rfl (by decide +kernel) h103 fp_raw_fp_RX6_36 rfl rfl dX6_init_64 (fun V112 e111 => ?_)
  refine GO.aload_n dX6_init_67 rfl rfl ?_
  refine GO.bipush dX6_init_68 rfl ?_
  refine GO.newI gw_89 (ir_c rfl) (by omega) 8 (by omega) rfl rfl rfl dX6_init_70 (fun o113 K114 V120 hq115 hK116 hE117 h118 _ hV119 => ?_)
  have h121 := (by rw [hK116, updK_ne (K_old h103 hq115)]; exact h103 : K114 x = some (0, 17))
  have h122 := hE117.obj (by decide) h104
  have h123 := hE117.arr h105
  have h124 := hE117.arr h106
  have h125 := hE117.arr h107
  have h126 := hE117.arr h108
  have h127 := hE117.arr h109
  have h128 := hE117.arr h100
  have h129 := KE.nw (KE.new (KE.new (KE.new (KE.new (KE.new (KE.new (KE.call (KE.new KE.rf hq3 hK4) h14.2 h10) hq22 hK23) hq35 hK36) hq49 hK50) hq64 hK65) hq80 hK81) hq97 hK98) h103 hq115
  refine GO.putRF rfl rfl (by decide +kernel) h121 fp_raw_fp_RX6_39 rfl rfl dX6_init_72 (fun V131 e130 => ?_)
  refine GO.aload_n dX6_init_75 rfl rfl ?_
  refine GO.iconst dX6_init_76 ?_
  refine GO.putRW rfl (by decide +kernel) h121 fp_raw_fp_RX6_42 rfl rfl dX6_init_77 (fun V133 e132 => ?_)
  refine GO.aload_n dX6_init_80 rfl rfl ?_
  refine GO.iconst dX6_init_81 ?_
  refine GO.putRW rfl (by decide +kernel) h121 fp_raw_fp_RX6_46 rfl rfl dX6_init_82 (fun V135 e134 => ?_)
  refine GO.aload_n dX6_init_85 rfl rfl ?_
  refine GO.getRaw h121 fl_raw_fl_RX6_24 (Eq.trans (uq_ne e134 (Or.inr (by decide))) (Eq.trans (uq_ne e132 (Or.inr (by decide))) (Eq.trans (uq_ne e130 (Or.inr (by decide))) (Eq.trans (congrFun (hV119 _ (K_old h103 hq115)) _) (Eq.trans (uq_ne e111 (Or.inr (by decide))) (Eq.trans (congrFun (hV101 _ (K_old h86 hq97)) _) (Eq.trans (uq_ne e93 (Or.inr (by decide))) (Eq.trans (congrFun (hV84 _ (K_old h70 hq80)) _) (Eq.trans (uq_ne e76 (Or.inr (by decide))) (Eq.trans (congrFun (hV68 _ (K_old h55 hq64)) _) (Eq.trans (uq_ne e60 (Or.inr (by decide))) (Eq.trans (congrFun (hV53 _ (K_old h41 hq49)) _) (uq_at e45))))))))))))) dX6_init_86 ?_
  refine GO.sipush dX6_init_89 rfl ?_
  refine GO.callS (N := mX4_fill) dX6_init_92 gS_RX6_49 (t_X4_fill h124 (ir_c rfl)) rfl [] rfl rfl (Nat.le_of_ble_eq_true rfl) rfl (k_vs fun V138 h137 hF136 => ?_)
  refine GO.promote (ci := 5) rfl h121 (fun j hj => ?_) (fun K139 e140 hE141 h142 => ?_)
  ·
    have hj : j < 10 := hj
    match j, hj with
    | 0, _ => exact ⟨_, (Eq.trans (hF136 _ _ _ h121 h121 (by decide +kernel)) (Eq.trans (uq_ne e134 (Or.inr (by decide))) (Eq.trans (uq_ne e132 (Or.inr (by decide))) (Eq.trans (uq_ne e130 (Or.inr (by decide))) (Eq.trans (congrFun (hV119 _ (K_old h103 hq115)) _) (Eq.trans (uq_ne e111 (Or.inr (by decide))) (Eq.trans (congrFun (hV101 _ (K_old h86 hq97)) _) (Eq.trans (uq_ne e93 (Or.inr (by decide))) (Eq.trans (congrFun (hV84 _ (K_old h70 hq80)) _) (Eq.trans (uq_ne e76 (Or.inr (by decide))) (Eq.trans (congrFun (hV68 _ (K_old h55 hq64)) _) (Eq.trans (uq_ne e60 (Or.inr (by decide))) (Eq.trans (congrFun (hV53 _ (K_old h41 hq49)) _) (Eq.trans (uq_ne e45 (Or.inr (by decide))) (Eq.trans (congrFun (hV39 _ (K_old h28 hq35)) _) (Eq.trans (uq_ne e31 (Or.inr (by decide))) (Eq.trans (congrFun (hV26 _ (K_old h16 hq22)) _) (uq_at e18)))))))))))))))))), h122⟩
    | 1, _ => exact ⟨_, (Eq.trans (hF136 _ _ _ h121 h121 (by decide +kernel)) (Eq.trans (uq_ne e134 (Or.inr (by decide))) (Eq.trans (uq_ne e132 (Or.inr (by decide))) (Eq.trans (uq_ne e130 (Or.inr (by decide))) (Eq.trans (congrFun (hV119 _ (K_old h103 hq115)) _) (Eq.trans (uq_ne e111 (Or.inr (by decide))) (Eq.trans (congrFun (hV101 _ (K_old h86 hq97)) _) (Eq.trans (uq_ne e93 (Or.inr (by decide))) (Eq.trans (congrFun (hV84 _ (K_old h70 hq80)) _) (Eq.trans (uq_ne e76 (Or.inr (by decide))) (Eq.trans (congrFun (hV68 _ (K_old h55 hq64)) _) (Eq.trans (uq_ne e60 (Or.inr (by decide))) (Eq.trans (congrFun (hV53 _ (K_old h41 hq49)) _) (Eq.trans (uq_ne e45 (Or.inr (by decide))) (Eq.trans (congrFun (hV39 _ (K_old h28 hq35)) _) (uq_at e31)))))))))))))))), ⟨_, h123⟩⟩
    | 2, _ => exact ⟨_, (Eq.trans (hF136 _ _ _ h121 h121 (by decide +kernel)) (Eq.trans (uq_ne e134 (Or.inr (by decide))) (Eq.trans (uq_ne e132 (Or.inr (by decide))) (Eq.trans (uq_ne e130 (Or.inr (by decide))) (Eq.trans (congrFun (hV119 _ (K_old h103 hq115)) _) (Eq.trans (uq_ne e111 (Or.inr (by decide))) (Eq.trans (congrFun (hV101 _ (K_old h86 hq97)) _) (Eq.trans (uq_ne e93 (Or.inr (by decide))) (Eq.trans (congrFun (hV84 _ (K_old h70 hq80)) _) (Eq.trans (uq_ne e76 (Or.inr (by decide))) (Eq.trans (congrFun (hV68 _ (K_old h55 hq64)) _) (Eq.trans (uq_ne e60 (Or.inr (by decide))) (Eq.trans (congrFun (hV53 _ (K_old h41 hq49)) _) (uq_at e45)))))))))))))), ⟨_, h124⟩⟩
    | 3, _ => exact ⟨_, (Eq.trans (hF136 _ _ _ h121 h121 (by decide +kernel)) (Eq.trans (uq_ne e134 (Or.inr (by decide))) (Eq.trans (uq_ne e132 (Or.inr (by decide))) (Eq.trans (uq_ne e130 (Or.inr (by decide))) (Eq.trans (congrFun (hV119 _ (K_old h103 hq115)) _) (Eq.trans (uq_ne e111 (Or.inr (by decide))) (Eq.trans (congrFun (hV101 _ (K_old h86 hq97)) _) (Eq.trans (uq_ne e93 (Or.inr (by decide))) (Eq.trans (congrFun (hV84 _ (K_old h70 hq80)) _) (Eq.trans (uq_ne e76 (Or.inr (by decide))) (Eq.trans (congrFun (hV68 _ (K_old h55 hq64)) _) (uq_at e60)))))))))))), ⟨_, h125⟩⟩
    | 4, _ => exact ⟨_, (Eq.trans (hF136 _ _ _ h121 h121 (by decide +kernel)) (Eq.trans (uq_ne e134 (Or.inr (by decide))) (Eq.trans (uq_ne e132 (Or.inr (by decide))) (Eq.trans (uq_ne e130 (Or.inr (by decide))) (Eq.trans (congrFun (hV119 _ (K_old h103 hq115)) _) (Eq.trans (uq_ne e111 (Or.inr (by decide))) (Eq.trans (congrFun (hV101 _ (K_old h86 hq97)) _) (Eq.trans (uq_ne e93 (Or.inr (by decide))) (Eq.trans (congrFun (hV84 _ (K_old h70 hq80)) _) (uq_at e76)))))))))), ⟨_, h126⟩⟩
    | 5, _ => exact ⟨_, (Eq.trans (hF136 _ _ _ h121 h121 (by decide +kernel)) (Eq.trans (uq_ne e134 (Or.inr (by decide))) (Eq.trans (uq_ne e132 (Or.inr (by decide))) (Eq.trans (uq_ne e130 (Or.inr (by decide))) (Eq.trans (congrFun (hV119 _ (K_old h103 hq115)) _) (Eq.trans (uq_ne e111 (Or.inr (by decide))) (Eq.trans (congrFun (hV101 _ (K_old h86 hq97)) _) (uq_at e93)))))))), ⟨_, h127⟩⟩
    | 6, _ => exact ⟨_, (Eq.trans (hF136 _ _ _ h121 h121 (by decide +kernel)) (Eq.trans (uq_ne e134 (Or.inr (by decide))) (Eq.trans (uq_ne e132 (Or.inr (by decide))) (Eq.trans (uq_ne e130 (Or.inr (by decide))) (Eq.trans (congrFun (hV119 _ (K_old h103 hq115)) _) (uq_at e111)))))), ⟨_, h128⟩⟩
    | 7, _ => exact ⟨_, (Eq.trans (hF136 _ _ _ h121 h121 (by decide +kernel)) (Eq.trans (uq_ne e134 (Or.inr (by decide))) (Eq.trans (uq_ne e132 (Or.inr (by decide))) (uq_at e130)))), ⟨_, h118⟩⟩
    | 8, _ => exact okv_any (Eq.trans (hF136 _ _ _ h121 h121 (by decide +kernel)) (Eq.trans (uq_ne e134 (Or.inr (by decide))) (uq_at e132)))
    | 9, _ => exact okv_any (Eq.trans (hF136 _ _ _ h121 h121 (by decide +kernel)) (uq_at e134))
    | j + 10, hj => exact absurd hj (by omega)
  exact GO.retv rfl rfl dX6_init_95 ⟨rfl, h142, KE.promote (KE.new (KE.new (KE.new (KE.new (KE.new (KE.new (KE.new (KE.call (KE.new KE.rf hq3 hK4) h14.2 h10) hq22 hK23) hq35 hK36) hq49 hK50) hq64 hK65) hq80 hK81) hq97 hK98) hq115 hK116) e140⟩

set_option maxHeartbeats 1000000 in
theorem t_X11_init {K : Kmap} {V : Vmap} {x : Nat} (h_x : K x = some (0, 22)) : MC mX11_init K V [.ref x] (VX (fun K1 _ => K1 x = some (0, 10) ∧ KE K K1 x)) := by
  refine MC.start 0 (by decide +kernel) rfl rfl rfl (ls0 := [some (.ref x)]) rfl ?_
  refine GO.aload_n dX11_init_0 rfl rfl ?_
  refine GO.objInit dX11_init_1 gw_26 gw_27 gw_28 rfl rfl ?_
  refine GO.aload_n dX11_init_4 rfl rfl ?_
  refine GO.new (ci := 12) (RX0, TX0, 13) tyX0 rfl rfl lays_0 tyX0_ok gw_29 gw_30 gw_2 rfl rfl dX11_init_5 (fun o1 K2 V8 hq3 hK4 hE5 h6 _ hV7 => ?_)
  have h9 := (by rw [hK4, updK_ne (K_old h_x hq3)]; exact h_x : K2 x = some (0, 22))
  have h10 := KE.nw KE.rf h_x hq3
  refine GO.dup dX11_init_8 rfl ?_
  refine GO.callI (N := mX0_init) dX11_init_9 gI_RX11_11 rfl (t_X0_init h6) rfl [.ref o1, .ref x] rfl rfl (Nat.le_of_ble_eq_true rfl) rfl (k_vx fun K13 V15 h14 hE12 hF11 => ?_)
  have h16 := h14.2 _ _ (K_ne h9 h6 (by decide)) h9
  have h17 := h14.1
  refine GO.putRF rfl rfl (by decide +kernel) h16 fp_raw_fp_RX11_12 rfl rfl dX11_init_12 (fun V19 e18 => ?_)
  refine GO.aload_n dX11_init_15 rfl rfl ?_
  refine GO.new (ci := 13) (RX1, TX1, 13) tyX1 rfl rfl lays_1 tyX1_ok gw_90 gw_91 gw_4 rfl rfl dX11_init_16 (fun o20 K21 V27 hq22 hK23 hE24 h25 _ hV26 => ?_)
  have h28 := (by rw [hK23, updK_ne (K_old h16 hq22)]; exact h16 : K21 x = some (0, 22))
  have h29 := hE24.obj (by decide) h17
  have h30 := KE.nw (KE.call (KE.new KE.rf hq3 hK4) h14.2 h10) h16 hq22
  refine GO.dup dX11_init_19 rfl ?_
  refine GO.callN (N := mX1_init) dX11_init_20 rfl gn_nest rfl rfl (t_X1_init h25) rfl [.ref o20, .ref x] rfl rfl (Nat.le_of_ble_eq_true rfl) rfl (k_vx fun K33 V35 h34 hE32 hF31 => ?_)
  have h36 := h34.2 _ _ (K_ne h28 h25 (by decide)) h28
  have h37 := h34.1
  have h38 := hE32.obj (by decide) h29
  refine GO.putRF rfl rfl (by decide +kernel) h36 fp_raw_fp_RX11_19 rfl rfl dX11_init_23 (fun V40 e39 => ?_)
  refine GO.aload_n dX11_init_26 rfl rfl ?_
  refine GO.new (ci := 17) (RX6, TX6, 10) tyX6 rfl rfl lays_5 tyX6_ok gw_172 gw_173 gw_7 rfl rfl dX11_init_27 (fun o41 K42 V48 hq43 hK44 hE45 h46 _ hV47 => ?_)
  have h49 := (by rw [hK44, updK_ne (K_old h36 hq43)]; exact h36 : K42 x = some (0, 22))
  have h50 := hE45.obj (by decide) h38
  have h51 := hE45.obj (by decide) h37
  have h52 := KE.nw (KE.call (KE.new (KE.call (KE.new KE.rf hq3 hK4) h14.2 h10) hq22 hK23) h34.2 h30) h36 hq43
  refine GO.dup dX11_init_30 rfl ?_
  refine GO.callI (N := mX6_init) dX11_init_31 gI_RX11_25 rfl (t_X6_init h46) rfl [.ref o41, .ref x] rfl rfl (Nat.le_of_ble_eq_true rfl) rfl (k_vx fun K55 V57 h56 hE54 hF53 => ?_)
  have h58 := h56.2 _ _ (K_ne h49 h46 (by decide)) h49
  have h59 := h56.1
  have h60 := hE54.obj (by decide) h50
  have h61 := hE54.obj (by decide) h51
  refine GO.putRF rfl rfl (by decide +kernel) h58 fp_raw_fp_RX11_26 rfl rfl dX11_init_34 (fun V63 e62 => ?_)
  refine GO.aload_n dX11_init_37 rfl rfl ?_
  refine GO.bipush dX11_init_38 rfl ?_
  refine GO.newQ 4 9 2 rfl rfl gw_219 (List.mem_of_getElem? (i := 0) rfl) rfl rfl (Or.inr rfl) rfl rfl rfl dX11_init_40 (fun o64 K65 V71 hq66 hK67 hE68 h69 _ hV70 => ?_)
  have h72 := (by rw [hK67, updK_ne (K_old h58 hq66)]; exact h58 : K65 x = some (0, 22))
  have h73 := hE68.obj (by decide) h60
  have h74 := hE68.obj (by decide) h61
  have h75 := hE68.obj (by decide) h59
  have h76 := KE.nw (KE.call (KE.new (KE.call (KE.new (KE.call (KE.new KE.rf hq3 hK4) h14.2 h10) hq22 hK23) h34.2 h30) hq43 hK44) h56.2 h52) h58 hq66
  refine GO.putRF rfl rfl (by decide +kernel) h72 fp_raw_fp_RX11_32 rfl rfl dX11_init_43 (fun V78 e77 => ?_)
  refine GO.aload_n dX11_init_46 rfl rfl ?_
  refine GO.iconst dX11_init_47 ?_
  refine GO.putRW rfl (by decide +kernel) h72 fp_raw_fp_RX11_36 rfl rfl dX11_init_48 (fun V80 e79 => ?_)
  refine GO.aload_n dX11_init_51 rfl rfl ?_
  refine GO.bipush dX11_init_52 rfl ?_
  refine GO.newQ 5 60 3 rfl rfl gw_221 (List.mem_of_getElem? (i := 1) rfl) rfl rfl (Or.inr rfl) rfl rfl rfl dX11_init_54 (fun o81 K82 V88 hq83 hK84 hE85 h86 _ hV87 => ?_)
  have h89 := (by rw [hK84, updK_ne (K_old h72 hq83)]; exact h72 : K82 x = some (0, 22))
  have h90 := hE85.obj (by decide) h73
  have h91 := hE85.obj (by decide) h74
  have h92 := hE85.obj (by decide) h75
  have h93 := hE85.arr h69
  have h94 := KE.nw (KE.new (KE.call (KE.new (KE.call (KE.new (KE.call (KE.new KE.rf hq3 hK4) h14.2 h10) hq22 hK23) h34.2 h30) hq43 hK44) h56.2 h52) hq66 hK67) h72 hq83
  refine GO.putRF rfl rfl (by decide +kernel) h89 fp_raw_fp_RX11_42 rfl rfl dX11_init_57 (fun V96 e95 => ?_)
  refine GO.aload_n dX11_init_60 rfl rfl ?_
  refine GO.iconst dX11_init_61 ?_
  refine GO.putRW rfl (by decide +kernel) h89 fp_raw_fp_RX11_46 rfl rfl dX11_init_62 (fun V98 e97 => ?_)
  refine GO.aload_n dX11_init_65 rfl rfl ?_
  refine GO.bipush dX11_init_66 rfl ?_
  refine GO.newQ 6 100 9 rfl rfl gw_223 (List.mem_of_getElem? (i := 2) rfl) rfl rfl (Or.inr rfl) rfl rfl rfl dX11_init_68 (fun o99 K100 V106 hq101 hK102 hE103 h104 _ hV105 => ?_)
  have h107 := (by rw [hK102, updK_ne (K_old h89 hq101)]; exact h89 : K100 x = some (0, 22))
  have h108 := hE103.obj (by decide) h90
  have h109 := hE103.obj (by decide) h91
  have h110 := hE103.obj (by decide) h92
  have h111 := hE103.arr h93
  have h112 := hE103.arr h86
  have h113 := KE.nw (KE.new (KE.new (KE.call (KE.new (KE.call (KE.new (KE.call (KE.new KE.rf hq3 hK4) h14.2 h10) hq22 hK23) h34.2 h30) hq43 hK44) h56.2 h52) hq66 hK67) hq83 hK84) h89 hq101
  refine GO.putRF rfl rfl (by decide +kernel) h107 fp_raw_fp_RX11_51 rfl rfl dX11_init_71 (fun V115 e114 => ?_)
  refine GO.aload_n dX11_init_74 rfl rfl ?_
  refine GO.iconst dX11_init_75 ?_
  refine GO.putRW rfl (by decide +kernel) h107 fp_raw_fp_RX11_55 rfl rfl dX11_init_76 (fun V117 e116 => ?_)
  refine GO.aload_n dX11_init_79 rfl rfl ?_
  refine GO.bipush dX11_init_80 rfl ?_
  refine GO.newQ 7 10 6 rfl rfl gw_225 (List.mem_of_getElem? (i := 3) rfl) rfl rfl (Or.inr rfl) rfl rfl rfl dX11_init_82 (fun o118 K119 V125 hq120 hK121 hE122 h123 _ hV124 => ?_)
  have h126 := (by rw [hK121, updK_ne (K_old h107 hq120)]; exact h107 : K119 x = some (0, 22))
  have h127 := hE122.obj (by decide) h108
  have h128 := hE122.obj (by decide) h109
  have h129 := hE122.obj (by decide) h110
  have h130 := hE122.arr h111
  have h131 := hE122.arr h112
  have h132 := hE122.arr h104
  have h133 := KE.nw (KE.new (KE.new (KE.new (KE.call (KE.new (KE.call (KE.new (KE.call (KE.new KE.rf hq3 hK4) h14.2 h10) hq22 hK23) h34.2 h30) hq43 hK44) h56.2 h52) hq66 hK67) hq83 hK84) hq101 hK102) h107 hq120
  refine GO.putRF rfl rfl (by decide +kernel) h126 fp_raw_fp_RX11_60 rfl rfl dX11_init_85 (fun V135 e134 => ?_)
  refine GO.aload_n dX11_init_88 rfl rfl ?_
  refine GO.iconst dX11_init_89 ?_
  refine GO.putRW rfl (by decide +kernel) h126 fp_raw_fp_RX11_64 rfl rfl dX11_init_90 (fun V137 e136 => ?_)
  refine GO.aload_n dX11_init_93 rfl rfl ?_
  refine GO.new (ci := 19) (RX8, TX8, 4) tyX8 rfl rfl lays_7 tyX8_ok gw_227 gw_99 gw_5 rfl rfl dX11_init_94 (fun o138 K139 V145 hq140 hK141 hE142 h143 _ hV144 => ?_)
  have h146 := (by rw [hK141, updK_ne (K_old h126 hq140)]; exact h126 : K139 x = some (0, 22))
  have h147 := hE142.obj (by decide) h127
  have h148 := hE142.obj (by decide) h128
  have h149 := hE142.obj (by decide) h129
  have h150 := hE142.arr h130
  have h151 := hE142.arr h131
  have h152 := hE142.arr h132
  have h153 := hE142.arr h123
  have h154 := KE.nw (KE.new (KE.new (KE.new (KE.new (KE.call (KE.new (KE.call (KE.new (KE.call (KE.new KE.rf hq3 hK4) h14.2 h10) hq22 hK23) h34.2 h30) hq43 hK44) h56.2 h52) hq66 hK67) hq83 hK84) hq101 hK102) hq120 hK121) h126 hq140
  refine GO.dup dX11_init_97 rfl ?_
  refine GO.iconst dX11_init_98 ?_
  refine GO.bipush dX11_init_99 rfl ?_
  refine GO.callI (N := mX8_init) dX11_init_101 gI_RX11_69 rfl (t_X8_init h143 (ir_c rfl) (ir_c rfl) (by omega) (by omega) (by omega) (by omega)) rfl [.ref o138, .ref x] rfl rfl (Nat.le_of_ble_eq_true rfl) rfl (k_vx fun K157 V159 h158 hE156 hF155 => ?_)
  have h160 := h158.2 _ _ (K_ne h146 h143 (by decide)) h146
  have h161 := h158.1
  have h162 := hE156.obj (by decide) h147
  have h163 := hE156.obj (by decide) h148
  have h164 := hE156.obj (by decide) h149
  have h165 := hE156.arr h150
  have h166 := hE156.arr h151
  have h167 := hE156.arr h152
  have h168 := hE156.arr h153
  refine GO.putRF rfl rfl (by decide +kernel) h160 fp_raw_fp_RX11_72 rfl rfl dX11_init_104 (fun V170 e169 => ?_)
  refine GO.aload_n dX11_init_107 rfl rfl ?_
  refine GO.new (ci := 19) (RX8, TX8, 4) tyX8 rfl rfl lays_7 tyX8_ok gw_227 gw_99 gw_5 rfl rfl dX11_init_108 (fun o171 K172 V178 hq173 hK174 hE175 h176 _ hV177 => ?_)
  have h179 := (by rw [hK174, updK_ne (K_old h160 hq173)]; exact h160 : K172 x = some (0, 22))
  have h180 := hE175.obj (by decide) h162
  have h181 := hE175.obj (by decide) h163
  have h182 := hE175.obj (by decide) h164
  have h183 := hE175.arr h165
  have h184 := hE175.arr h166
  have h185 := hE175.arr h167
  have h186 := hE175.arr h168
  have h187 := hE175.obj (by decide) h161
  have h188 := KE.nw (KE.call (KE.new (KE.new (KE.new (KE.new (KE.new (KE.call (KE.new (KE.call (KE.new (KE.call (KE.new KE.rf hq3 hK4) h14.2 h10) hq22 hK23) h34.2 h30) hq43 hK44) h56.2 h52) hq66 hK67) hq83 hK84) hq101 hK102) hq120 hK121) hq140 hK141) h158.2 h154) h160 hq173
  refine GO.dup dX11_init_111 rfl ?_
  refine GO.iconst dX11_init_112 ?_
  refine GO.bipush dX11_init_113 rfl ?_
  refine GO.callI (N := mX8_init) dX11_init_115 gI_RX11_69 rfl (t_X8_init h176 (ir_c rfl) (ir_c rfl) (by omega) (by omega) (by omega) (by omega)) rfl [.ref o171, .ref x] rfl rfl (Nat.le_of_ble_eq_true rfl) rfl (k_vx fun K191 V193 h192 hE190 hF189 => ?_)
  have h194 := h192.2 _ _ (K_ne h179 h176 (by decide)) h179
  have h195 := h192.1
  have h196 := hE190.obj (by decide) h180
  have h197 := hE190.obj (by decide) h181
  have h198 := hE190.obj (by decide) h182
  have h199 := hE190.arr h183
  have h200 := hE190.arr h184
  have h201 := hE190.arr h185
  have h202 := hE190.arr h186
  have h203 := hE190.obj (by decide) h187
  refine GO.putRF rfl rfl (by decide +kernel) h194 fp_raw_fp_RX11_76 rfl rfl dX11_init_118 (fun V205 e204 => ?_)
  refine GO.aload_n dX11_init_121 rfl rfl ?_
  refine GO.new (ci := 19) (RX8, TX8, 4) tyX8 rfl rfl lays_7 tyX8_ok gw_227 gw_99 gw_5 rfl rfl dX11_init_122 (fun o206 K207 V213 hq208 hK209 hE210 h211 _ hV212 => ?_)
  have h214 := (by rw [hK209, updK_ne (K_old h194 hq208)]; exact h194 : K207 x = some (0, 22))
  have h215 := hE210.obj (by decide) h196
  have h216 := hE210.obj (by decide) h197
  have h217 := hE210.obj (by decide) h198
  have h218 := hE210.arr h199
  have h219 := hE210.arr h200
  have h220 := hE210.arr h201
  have h221 := hE210.arr h202
  have h222 := hE210.obj (by decide) h203
  have h223 := hE210.obj (by decide) h195
  have h224 := KE.nw (KE.call (KE.new (KE.call (KE.new (KE.new (KE.new (KE.new (KE.new (KE.call (KE.new (KE.call (KE.new (KE.call (KE.new KE.rf hq3 hK4) h14.2 h10) hq22 hK23) h34.2 h30) hq43 hK44) h56.2 h52) hq66 hK67) hq83 hK84) hq101 hK102) hq120 hK121) hq140 hK141) h158.2 h154) hq173 hK174) h192.2 h188) h194 hq208
  refine GO.dup dX11_init_125 rfl ?_
  refine GO.iconst dX11_init_126 ?_
  refine GO.bipush dX11_init_127 rfl ?_
  refine GO.callI (N := mX8_init) dX11_init_129 gI_RX11_69 rfl (t_X8_init h211 (ir_c rfl) (ir_c rfl) (by omega) (by omega) (by omega) (by omega)) rfl [.ref o206, .ref x] rfl rfl (Nat.le_of_ble_eq_true rfl) rfl (k_vx fun K227 V229 h228 hE226 hF225 => ?_)
  have h230 := h228.2 _ _ (K_ne h214 h211 (by decide)) h214
  have h231 := h228.1
  have h232 := hE226.obj (by decide) h215
  have h233 := hE226.obj (by decide) h216
  have h234 := hE226.obj (by decide) h217
  have h235 := hE226.arr h218
  have h236 := hE226.arr h219
  have h237 := hE226.arr h220
  have h238 := hE226.arr h221
  have h239 := hE226.obj (by decide) h222
  have h240 := hE226.obj (by decide) h223
  refine GO.putRF rfl rfl (by decide +kernel) h230 fp_raw_fp_RX11_79 rfl rfl dX11_init_132 (fun V242 e241 => ?_)
  refine GO.aload_n dX11_init_135 rfl rfl ?_
  refine GO.new (ci := 19) (RX8, TX8, 4) tyX8 rfl rfl lays_7 tyX8_ok gw_227 gw_99 gw_5 rfl rfl dX11_init_136 (fun o243 K244 V250 hq245 hK246 hE247 h248 _ hV249 => ?_)
  have h251 := (by rw [hK246, updK_ne (K_old h230 hq245)]; exact h230 : K244 x = some (0, 22))
  have h252 := hE247.obj (by decide) h232
  have h253 := hE247.obj (by decide) h233
  have h254 := hE247.obj (by decide) h234
  have h255 := hE247.arr h235
  have h256 := hE247.arr h236
  have h257 := hE247.arr h237
  have h258 := hE247.arr h238
  have h259 := hE247.obj (by decide) h239
  have h260 := hE247.obj (by decide) h240
  have h261 := hE247.obj (by decide) h231
  have h262 := KE.nw (KE.call (KE.new (KE.call (KE.new (KE.call (KE.new (KE.new (KE.new (KE.new (KE.new (KE.call (KE.new (KE.call (KE.new (KE.call (KE.new KE.rf hq3 hK4) h14.2 h10) hq22 hK23) h34.2 h30) hq43 hK44) h56.2 h52) hq66 hK67) hq83 hK84) hq101 hK102) hq120 hK121) hq140 hK141) h158.2 h154) hq173 hK174) h192.2 h188) hq208 hK209) h228.2 h224) h230 hq245
  refine GO.dup dX11_init_139 rfl ?_
  refine GO.iconst dX11_init_140 ?_
  refine GO.sipush dX11_init_141 rfl ?_
  refine GO.callI (N := mX8_init) dX11_init_144 gI_RX11_69 rfl (t_X8_init h248 (ir_c rfl) (ir_c rfl) (by omega) (by omega) (by omega) (by omega)) rfl [.ref o243, .ref x] rfl rfl (Nat.le_of_ble_eq_true rfl) rfl (k_vx fun K265 V267 h266 hE264 hF263 => ?_)
  have h268 := h266.2 _ _ (K_ne h251 h248 (by decide)) h251
  have h269 := h266.1
  have h270 := hE264.obj (by decide) h252
  have h271 := hE264.obj (by decide) h253
  have h272 := hE264.obj (by decide) h254
  have h273 := hE264.arr h255
  have h274 := hE264.arr h256
  have h275 := hE264.arr h257
  have h276 := hE264.arr h258
  have h277 := hE264.obj (by decide) h259
  have h278 := hE264.obj (by decide) h260
  have h279 := hE264.obj (by decide) h261
  refine GO.putRF rfl rfl (by decide +kernel) h268 fp_raw_fp_RX11_82 rfl rfl dX11_init_147 (fun V281 e280 => ?_)
  refine GO.aload_n dX11_init_150 rfl rfl ?_
  refine GO.new (ci := 19) (RX8, TX8, 4) tyX8 rfl rfl lays_7 tyX8_ok gw_227 gw_99 gw_5 rfl rfl dX11_init_151 (fun o282 K283 V289 hq284 hK285 hE286 h287 _ hV288 => ?_)
  have h290 := (by rw [hK285, updK_ne (K_old h268 hq284)]; exact h268 : K283 x = some (0, 22))
  have h291 := hE286.obj (by decide) h270
  have h292 := hE286.obj (by decide) h271
  have h293 := hE286.obj (by decide) h272
  have h294 := hE286.arr h273
  have h295 := hE286.arr h274
  have h296 := hE286.arr h275
  have h297 := hE286.arr h276
  have h298 := hE286.obj (by decide) h277
  have h299 := hE286.obj (by decide) h278
  have h300 := hE286.obj (by decide) h279
  have h301 := hE286.obj (by decide) h269
  have h302 := KE.nw (KE.call (KE.new (KE.call (KE.new (KE.call (KE.new (KE.call (KE.new (KE.new (KE.new (KE.new (KE.new (KE.call (KE.new (KE.call (KE.new (KE.call (KE.new KE.rf hq3 hK4) h14.2 h10) hq22 hK23) h34.2 h30) hq43 hK44) h56.2 h52) hq66 hK67) hq83 hK84) hq101 hK102) hq120 hK121) hq140 hK141) h158.2 h154) hq173 hK174) h192.2 h188) hq208 hK209) h228.2 h224) hq245 hK246) h266.2 h262) h268 hq284
  refine GO.dup dX11_init_154 rfl ?_
  refine GO.iconst dX11_init_155 ?_
  refine GO.sipush dX11_init_156 rfl ?_
  refine GO.callI (N := mX8_init) dX11_init_159 gI_RX11_69 rfl (t_X8_init h287 (ir_c rfl) (ir_c rfl) (by omega) (by omega) (by omega) (by omega)) rfl [.ref o282, .ref x] rfl rfl (Nat.le_of_ble_eq_true rfl) rfl (k_vx fun K305 V307 h306 hE304 hF303 => ?_)
  have h308 := h306.2 _ _ (K_ne h290 h287 (by decide)) h290
  have h309 := h306.1
  have h310 := hE304.obj (by decide) h291
  have h311 := hE304.obj (by decide) h292
  have h312 := hE304.obj (by decide) h293
  have h313 := hE304.arr h294
  have h314 := hE304.arr h295
  have h315 := hE304.arr h296
  have h316 := hE304.arr h297
  have h317 := hE304.obj (by decide) h298
  have h318 := hE304.obj (by decide) h299
  have h319 := hE304.obj (by decide) h300
  have h320 := hE304.obj (by decide) h301
  refine GO.putRF rfl rfl (by decide +kernel) h308 fp_raw_fp_RX11_85 rfl rfl dX11_init_162 (fun V322 e321 => ?_)
  refine GO.aload_n dX11_init_165 rfl rfl ?_
  refine GO.new (ci := 19) (RX8, TX8, 4) tyX8 rfl rfl lays_7 tyX8_ok gw_227 gw_99 gw_5 rfl rfl dX11_init_166 (fun o323 K324 V330 hq325 hK326 hE327 h328 _ hV329 => ?_)
  have h331 := (by rw [hK326, updK_ne (K_old h308 hq325)]; exact h308 : K324 x = some (0, 22))
  have h332 := hE327.obj (by decide) h310
  have h333 := hE327.obj (by decide) h311
  have h334 := hE327.obj (by decide) h312
  have h335 := hE327.arr h313
  have h336 := hE327.arr h314
  have h337 := hE327.arr h315
  have h338 := hE327.arr h316
  have h339 := hE327.obj (by decide) h317
  have h340 := hE327.obj (by decide) h318
  have h341 := hE327.obj (by decide) h319
  have h342 := hE327.obj (by decide) h320
  have h343 := hE327.obj (by decide) h309
  have h344 := KE.nw (KE.call (KE.new (KE.call (KE.new (KE.call (KE.new (KE.call (KE.new (KE.call (KE.new (KE.new (KE.new (KE.new (KE.new (KE.call (KE.new (KE.call (KE.new (KE.call (KE.new KE.rf hq3 hK4) h14.2 h10) hq22 hK23) h34.2 h30) hq43 hK44) h56.2 h52) hq66 hK67) hq83 hK84) hq101 hK102) hq120 hK121) hq140 hK141) h158.2 h154) hq173 hK174) h192.2 h188) hq208 hK209) h228.2 h224) hq245 hK246) h266.2 h262) hq284 hK285) h306.2 h302) h308 hq325
  refine GO.dup dX11_init_169 rfl ?_
  refine GO.iconst dX11_init_170 ?_
  refine GO.bipush dX11_init_171 rfl ?_
  refine GO.callI (N := mX8_init) dX11_init_173 gI_RX11_69 rfl (t_X8_init h328 (ir_c rfl) (ir_c rfl) (by omega) (by omega) (by omega) (by omega)) rfl [.ref o323, .ref x] rfl rfl (Nat.le_of_ble_eq_true rfl) rfl (k_vx fun K347 V349 h348 hE346 hF345 => ?_)
  have h350 := h348.2 _ _ (K_ne h331 h328 (by decide)) h331
  have h351 := h348.1
  have h352 := hE346.obj (by decide) h332
  have h353 := hE346.obj (by decide) h333
  have h354 := hE346.obj (by decide) h334
  have h355 := hE346.arr h335
  have h356 := hE346.arr h336
  have h357 := hE346.arr h337
  have h358 := hE346.arr h338
  have h359 := hE346.obj (by decide) h339
  have h360 := hE346.obj (by decide) h340
  have h361 := hE346.obj (by decide) h341
  have h362 := hE346.obj (by decide) h342
  have h363 := hE346.obj (by decide) h343
  refine GO.putRF rfl rfl (by decide +kernel) h350 fp_raw_fp_RX11_88 rfl rfl dX11_init_176 (fun V365 e364 => ?_)
  refine GO.aload_n dX11_init_179 rfl rfl ?_
  refine GO.new (ci := 19) (RX8, TX8, 4) tyX8 rfl rfl lays_7 tyX8_ok gw_227 gw_99 gw_5 rfl rfl dX11_init_180 (fun o366 K367 V373 hq368 hK369 hE370 h371 _ hV372 => ?_)
  have h374 := (by rw [hK369, updK_ne (K_old h350 hq368)]; exact h350 : K367 x = some (0, 22))
  have h375 := hE370.obj (by decide) h352
  have h376 := hE370.obj (by decide) h353
  have h377 := hE370.obj (by decide) h354
  have h378 := hE370.arr h355
  have h379 := hE370.arr h356
  have h380 := hE370.arr h357
  have h381 := hE370.arr h358
  have h382 := hE370.obj (by decide) h359
  have h383 := hE370.obj (by decide) h360
  have h384 := hE370.obj (by decide) h361
  have h385 := hE370.obj (by decide) h362
  have h386 := hE370.obj (by decide) h363
  have h387 := hE370.obj (by decide) h351
  have h388 := KE.nw (KE.call (KE.new (KE.call (KE.new (KE.call (KE.new (KE.call (KE.new (KE.call (KE.new (KE.call (KE.new (KE.new (KE.new (KE.new (KE.new (KE.call (KE.new (KE.call (KE.new (KE.call (KE.new KE.rf hq3 hK4) h14.2 h10) hq22 hK23) h34.2 h30) hq43 hK44) h56.2 h52) hq66 hK67) hq83 hK84) hq101 hK102) hq120 hK121) hq140 hK141) h158.2 h154) hq173 hK174) h192.2 h188) hq208 hK209) h228.2 h224) hq245 hK246) h266.2 h262) hq284 hK285) h306.2 h302) hq325 hK326) h348.2 h344) h350 hq368
  refine GO.dup dX11_init_183 rfl ?_
  refine GO.iconst dX11_init_184 ?_
  refine GO.sipush dX11_init_185 rfl ?_
  refine GO.callI (N := mX8_init) dX11_init_188 gI_RX11_69 rfl (t_X8_init h371 (ir_c rfl) (ir_c rfl) (by omega) (by omega) (by omega) (by omega)) rfl [.ref o366, .ref x] rfl rfl (Nat.le_of_ble_eq_true rfl) rfl (k_vx fun K391 V393 h392 hE390 hF389 => ?_)
  have h394 := h392.2 _ _ (K_ne h374 h371 (by decide)) h374
  have h395 := h392.1
  have h396 := hE390.obj (by decide) h375
  have h397 := hE390.obj (by decide) h376
  have h398 := hE390.obj (by decide) h377
  have h399 := hE390.arr h378
  have h400 := hE390.arr h379
  have h401 := hE390.arr h380
  have h402 := hE390.arr h381
  have h403 := hE390.obj (by decide) h382
  have h404 := hE390.obj (by decide) h383
  have h405 := hE390.obj (by decide) h384
  have h406 := hE390.obj (by decide) h385
  have h407 := hE390.obj (by decide) h386
  have h408 := hE390.obj (by decide) h387
  refine GO.putRF rfl rfl (by decide +kernel) h394 fp_raw_fp_RX11_91 rfl rfl dX11_init_191 (fun V410 e409 => ?_)
  refine GO.aload_n dX11_init_194 rfl rfl ?_
  refine GO.bipush dX11_init_195 rfl ?_
  refine GO.newI gw_89 (ir_c rfl) (by omega) 11 (by omega) rfl rfl rfl dX11_init_197 (fun o411 K412 V418 hq413 hK414 hE415 h416 _ hV417 => ?_)
  have h419 := (by rw [hK414, updK_ne (K_old h394 hq413)]; exact h394 : K412 x = some (0, 22))
  have h420 := hE415.obj (by decide) h396
  have h421 := hE415.obj (by decide) h397
  have h422 := hE415.obj (by decide) h398
  have h423 := hE415.arr h399
  have h424 := hE415.arr h400
  have h425 := hE415.arr h401
  have h426 := hE415.arr h402
  have h427 := hE415.obj (by decide) h403
  have h428 := hE415.obj (by decide) h404
  have h429 := hE415.obj (by decide) h405
  have h430 := hE415.obj (by decide) h406
  have h431 := hE415.obj (by decide) h407
  have h432 := hE415.obj (by decide) h408
  have h433 := hE415.obj (by decide) h395
  have h434 := KE.nw (KE.call (KE.new (KE.call (KE.new (KE.call (KE.new (KE.call (KE.new (KE.call (KE.new (KE.call (KE.new (KE.call (KE.new (KE.new (KE.new (KE.new (KE.new (KE.call (KE.new (KE.call (KE.new (KE.call (KE.new KE.rf hq3 hK4) h14.2 h10) hq22 hK23) h34.2 h30) hq43 hK44) h56.2 h52) hq66 hK67) hq83 hK84) hq101 hK102) hq120 hK121) hq140 hK141) h158.2 h154) hq173 hK174) h192.2 h188) hq208 hK209) h228.2 h224) hq245 hK246) h266.2 h262) hq284 hK285) h306.2 h302) hq325 hK326) h348.2 h344) hq368 hK369) h392.2 h388) h394 hq413
  refine GO.putRF rfl rfl (by decide +kernel) h419 fp_raw_fp_RX11_94 rfl rfl dX11_init_199 (fun V436 e435 => ?_)
  refine GO.aload_n dX11_init_202 rfl rfl ?_
  refine GO.bipush dX11_init_203 rfl ?_
  refine GO.newT (atype := .long) 1 8 gw_294 rfl rfl (fun _ _ h => h) rfl rfl rfl (Or.inr rfl) (fun _ => ⟨0, rfl⟩) rfl rfl dX11_init_205 (fun o437 K438 V444 hq439 hK440 hE441 h442 _ hV443 => ?_)
  have h445 := (by rw [hK440, updK_ne (K_old h419 hq439)]; exact h419 : K438 x = some (0, 22))
  have h446 := hE441.obj (by decide) h420
  have h447 := hE441.obj (by decide) h421
  have h448 := hE441.obj (by decide) h422
  have h449 := hE441.arr h423
  have h450 := hE441.arr h424
  have h451 := hE441.arr h425
  have h452 := hE441.arr h426
  have h453 := hE441.obj (by decide) h427
  have h454 := hE441.obj (by decide) h428
  have h455 := hE441.obj (by decide) h429
  have h456 := hE441.obj (by decide) h430
  have h457 := hE441.obj (by decide) h431
  have h458 := hE441.obj (by decide) h432
  have h459 := hE441.obj (by decide) h433
  have h460 := hE441.arr h416
  have h461 := KE.nw (KE.new (KE.call (KE.new (KE.call (KE.new (KE.call (KE.new (KE.call (KE.new (KE.call (KE.new (KE.call (KE.new (KE.call (KE.new (KE.new (KE.new (KE.new (KE.new (KE.call (KE.new (KE.call (KE.new (KE.call (KE.new KE.rf hq3 hK4) h14.2 h10) hq22 hK23) h34.2 h30) hq43 hK44) h56.2 h52) hq66 hK67) hq83 hK84) hq101 hK102) hq120 hK121) hq140 hK141) h158.2 h154) hq173 hK174) h192.2 h188) hq208 hK209) h228.2 h224) hq245 hK246) h266.2 h262) hq284 hK285) h306.2 h302) hq325 hK326) h348.2 h344) hq368 hK369) h392.2 h388) hq413 hK414) h419 hq439
  refine GO.putRF rfl rfl (by decide +kernel) h445 fp_raw_fp_RX11_98 rfl rfl dX11_init_207 (fun V463 e462 => ?_)
  refine GO.aload_n dX11_init_210 rfl rfl ?_
  refine GO.getRaw h445 fl_raw_fl_RX11_94 (Eq.trans (uq_ne e462 (Or.inr (by decide))) (Eq.trans (congrFun (hV443 _ (K_old h419 hq439)) _) (uq_at e435))) dX11_init_211 ?_
  refine GO.bipush dX11_init_214 rfl ?_
  refine GO.callS (N := mX4_fill) dX11_init_216 gS_RX11_102 (t_X4_fill h460 (ir_c rfl)) rfl [] rfl rfl (Nat.le_of_ble_eq_true rfl) rfl (k_vs fun V466 h465 hF464 => ?_)
  refine GO.aload_n dX11_init_219 rfl rfl ?_
  refine GO.getRaw h445 fl_raw_fl_RX11_94 (Eq.trans (hF464 _ _ _ h445 h445 (by decide +kernel)) (Eq.trans (uq_ne e462 (Or.inr (by decide))) (Eq.trans (congrFun (hV443 _ (K_old h419 hq439)) _) (uq_at e435)))) dX11_init_220 ?_
  refine GO.bipush dX11_init_223 rfl ?_
  refine GO.bipush dX11_init_225 rfl ?_
  refine GO.callS (N := mX4_put) dX11_init_227 gS_RX11_108 (t_X4_put h460 (ir_c rfl) (ir_c rfl)) rfl [] rfl rfl (Nat.le_of_ble_eq_true rfl) rfl (k_vs fun V469 h468 hF467 => ?_)
  refine GO.promote (ci := 10) rfl h445 (fun j hj => ?_) (fun K470 e471 hE472 h473 => ?_)
  ·
    have hj : j < 20 := hj
    match j, hj with
    | 0, _ => exact ⟨_, (Eq.trans (hF467 _ _ _ h445 h445 (by decide +kernel)) (Eq.trans (hF464 _ _ _ h445 h445 (by decide +kernel)) (Eq.trans (uq_ne e462 (Or.inr (by decide))) (Eq.trans (congrFun (hV443 _ (K_old h419 hq439)) _) (Eq.trans (uq_ne e435 (Or.inr (by decide))) (Eq.trans (congrFun (hV417 _ (K_old h394 hq413)) _) (Eq.trans (uq_ne e409 (Or.inr (by decide))) (Eq.trans (hF389 _ _ _ h374 h394 (by decide +kernel)) (Eq.trans (congrFun (hV372 _ (K_old h350 hq368)) _) (Eq.trans (uq_ne e364 (Or.inr (by decide))) (Eq.trans (hF345 _ _ _ h331 h350 (by decide +kernel)) (Eq.trans (congrFun (hV329 _ (K_old h308 hq325)) _) (Eq.trans (uq_ne e321 (Or.inr (by decide))) (Eq.trans (hF303 _ _ _ h290 h308 (by decide +kernel)) (Eq.trans (congrFun (hV288 _ (K_old h268 hq284)) _) (Eq.trans (uq_ne e280 (Or.inr (by decide))) (Eq.trans (hF263 _ _ _ h251 h268 (by decide +kernel)) (Eq.trans (congrFun (hV249 _ (K_old h230 hq245)) _) (Eq.trans (uq_ne e241 (Or.inr (by decide))) (Eq.trans (hF225 _ _ _ h214 h230 (by decide +kernel)) (Eq.trans (congrFun (hV212 _ (K_old h194 hq208)) _) (Eq.trans (uq_ne e204 (Or.inr (by decide))) (Eq.trans (hF189 _ _ _ h179 h194 (by decide +kernel)) (Eq.trans (congrFun (hV177 _ (K_old h160 hq173)) _) (Eq.trans (uq_ne e169 (Or.inr (by decide))) (Eq.trans (hF155 _ _ _ h146 h160 (by decide +kernel)) (Eq.trans (congrFun (hV144 _ (K_old h126 hq140)) _) (Eq.trans (uq_ne e136 (Or.inr (by decide))) (Eq.trans (uq_ne e134 (Or.inr (by decide))) (Eq.trans (congrFun (hV124 _ (K_old h107 hq120)) _) (Eq.trans (uq_ne e116 (Or.inr (by decide))) (Eq.trans (uq_ne e114 (Or.inr (by decide))) (Eq.trans (congrFun (hV105 _ (K_old h89 hq101)) _) (Eq.trans (uq_ne e97 (Or.inr (by decide))) (Eq.trans (uq_ne e95 (Or.inr (by decide))) (Eq.trans (congrFun (hV87 _ (K_old h72 hq83)) _) (Eq.trans (uq_ne e79 (Or.inr (by decide))) (Eq.trans (uq_ne e77 (Or.inr (by decide))) (Eq.trans (congrFun (hV70 _ (K_old h58 hq66)) _) (Eq.trans (uq_ne e62 (Or.inr (by decide))) (Eq.trans (hF53 _ _ _ h49 h58 (by decide +kernel)) (Eq.trans (congrFun (hV47 _ (K_old h36 hq43)) _) (Eq.trans (uq_ne e39 (Or.inr (by decide))) (Eq.trans (hF31 _ _ _ h28 h36 (by decide +kernel)) (Eq.trans (congrFun (hV26 _ (K_old h16 hq22)) _) (uq_at e18)))))))))))))))))))))))))))))))))))))))))))))), h446⟩
    | 1, _ => exact ⟨_, (Eq.trans (hF467 _ _ _ h445 h445 (by decide +kernel)) (Eq.trans (hF464 _ _ _ h445 h445 (by decide +kernel)) (Eq.trans (uq_ne e462 (Or.inr (by decide))) (Eq.trans (congrFun (hV443 _ (K_old h419 hq439)) _) (Eq.trans (uq_ne e435 (Or.inr (by decide))) (Eq.trans (congrFun (hV417 _ (K_old h394 hq413)) _) (Eq.trans (uq_ne e409 (Or.inr (by decide))) (Eq.trans (hF389 _ _ _ h374 h394 (by decide +kernel)) (Eq.trans (congrFun (hV372 _ (K_old h350 hq368)) _) (Eq.trans (uq_ne e364 (Or.inr (by decide))) (Eq.trans (hF345 _ _ _ h331 h350 (by decide +kernel)) (Eq.trans (congrFun (hV329 _ (K_old h308 hq325)) _) (Eq.trans (uq_ne e321 (Or.inr (by decide))) (Eq.trans (hF303 _ _ _ h290 h308 (by decide +kernel)) (Eq.trans (congrFun (hV288 _ (K_old h268 hq284)) _) (Eq.trans (uq_ne e280 (Or.inr (by decide))) (Eq.trans (hF263 _ _ _ h251 h268 (by decide +kernel)) (Eq.trans (congrFun (hV249 _ (K_old h230 hq245)) _) (Eq.trans (uq_ne e241 (Or.inr (by decide))) (Eq.trans (hF225 _ _ _ h214 h230 (by decide +kernel)) (Eq.trans (congrFun (hV212 _ (K_old h194 hq208)) _) (Eq.trans (uq_ne e204 (Or.inr (by decide))) (Eq.trans (hF189 _ _ _ h179 h194 (by decide +kernel)) (Eq.trans (congrFun (hV177 _ (K_old h160 hq173)) _) (Eq.trans (uq_ne e169 (Or.inr (by decide))) (Eq.trans (hF155 _ _ _ h146 h160 (by decide +kernel)) (Eq.trans (congrFun (hV144 _ (K_old h126 hq140)) _) (Eq.trans (uq_ne e136 (Or.inr (by decide))) (Eq.trans (uq_ne e134 (Or.inr (by decide))) (Eq.trans (congrFun (hV124 _ (K_old h107 hq120)) _) (Eq.trans (uq_ne e116 (Or.inr (by decide))) (Eq.trans (uq_ne e114 (Or.inr (by decide))) (Eq.trans (congrFun (hV105 _ (K_old h89 hq101)) _) (Eq.trans (uq_ne e97 (Or.inr (by decide))) (Eq.trans (uq_ne e95 (Or.inr (by decide))) (Eq.trans (congrFun (hV87 _ (K_old h72 hq83)) _) (Eq.trans (uq_ne e79 (Or.inr (by decide))) (Eq.trans (uq_ne e77 (Or.inr (by decide))) (Eq.trans (congrFun (hV70 _ (K_old h58 hq66)) _) (Eq.trans (uq_ne e62 (Or.inr (by decide))) (Eq.trans (hF53 _ _ _ h49 h58 (by decide +kernel)) (Eq.trans (congrFun (hV47 _ (K_old h36 hq43)) _) (uq_at e39))))))))))))))))))))))))))))))))))))))))))), h447⟩
    | 2, _ => exact ⟨_, (Eq.trans (hF467 _ _ _ h445 h445 (by decide +kernel)) (Eq.trans (hF464 _ _ _ h445 h445 (by decide +kernel)) (Eq.trans (uq_ne e462 (Or.inr (by decide))) (Eq.trans (congrFun (hV443 _ (K_old h419 hq439)) _) (Eq.trans (uq_ne e435 (Or.inr (by decide))) (Eq.trans (congrFun (hV417 _ (K_old h394 hq413)) _) (Eq.trans (uq_ne e409 (Or.inr (by decide))) (Eq.trans (hF389 _ _ _ h374 h394 (by decide +kernel)) (Eq.trans (congrFun (hV372 _ (K_old h350 hq368)) _) (Eq.trans (uq_ne e364 (Or.inr (by decide))) (Eq.trans (hF345 _ _ _ h331 h350 (by decide +kernel)) (Eq.trans (congrFun (hV329 _ (K_old h308 hq325)) _) (Eq.trans (uq_ne e321 (Or.inr (by decide))) (Eq.trans (hF303 _ _ _ h290 h308 (by decide +kernel)) (Eq.trans (congrFun (hV288 _ (K_old h268 hq284)) _) (Eq.trans (uq_ne e280 (Or.inr (by decide))) (Eq.trans (hF263 _ _ _ h251 h268 (by decide +kernel)) (Eq.trans (congrFun (hV249 _ (K_old h230 hq245)) _) (Eq.trans (uq_ne e241 (Or.inr (by decide))) (Eq.trans (hF225 _ _ _ h214 h230 (by decide +kernel)) (Eq.trans (congrFun (hV212 _ (K_old h194 hq208)) _) (Eq.trans (uq_ne e204 (Or.inr (by decide))) (Eq.trans (hF189 _ _ _ h179 h194 (by decide +kernel)) (Eq.trans (congrFun (hV177 _ (K_old h160 hq173)) _) (Eq.trans (uq_ne e169 (Or.inr (by decide))) (Eq.trans (hF155 _ _ _ h146 h160 (by decide +kernel)) (Eq.trans (congrFun (hV144 _ (K_old h126 hq140)) _) (Eq.trans (uq_ne e136 (Or.inr (by decide))) (Eq.trans (uq_ne e134 (Or.inr (by decide))) (Eq.trans (congrFun (hV124 _ (K_old h107 hq120)) _) (Eq.trans (uq_ne e116 (Or.inr (by decide))) (Eq.trans (uq_ne e114 (Or.inr (by decide))) (Eq.trans (congrFun (hV105 _ (K_old h89 hq101)) _) (Eq.trans (uq_ne e97 (Or.inr (by decide))) (Eq.trans (uq_ne e95 (Or.inr (by decide))) (Eq.trans (congrFun (hV87 _ (K_old h72 hq83)) _) (Eq.trans (uq_ne e79 (Or.inr (by decide))) (Eq.trans (uq_ne e77 (Or.inr (by decide))) (Eq.trans (congrFun (hV70 _ (K_old h58 hq66)) _) (uq_at e62)))))))))))))))))))))))))))))))))))))))), h448⟩
    | 3, _ => exact ⟨_, (Eq.trans (hF467 _ _ _ h445 h445 (by decide +kernel)) (Eq.trans (hF464 _ _ _ h445 h445 (by decide +kernel)) (Eq.trans (uq_ne e462 (Or.inr (by decide))) (Eq.trans (congrFun (hV443 _ (K_old h419 hq439)) _) (Eq.trans (uq_ne e435 (Or.inr (by decide))) (Eq.trans (congrFun (hV417 _ (K_old h394 hq413)) _) (Eq.trans (uq_ne e409 (Or.inr (by decide))) (Eq.trans (hF389 _ _ _ h374 h394 (by decide +kernel)) (Eq.trans (congrFun (hV372 _ (K_old h350 hq368)) _) (Eq.trans (uq_ne e364 (Or.inr (by decide))) (Eq.trans (hF345 _ _ _ h331 h350 (by decide +kernel)) (Eq.trans (congrFun (hV329 _ (K_old h308 hq325)) _) (Eq.trans (uq_ne e321 (Or.inr (by decide))) (Eq.trans (hF303 _ _ _ h290 h308 (by decide +kernel)) (Eq.trans (congrFun (hV288 _ (K_old h268 hq284)) _) (Eq.trans (uq_ne e280 (Or.inr (by decide))) (Eq.trans (hF263 _ _ _ h251 h268 (by decide +kernel)) (Eq.trans (congrFun (hV249 _ (K_old h230 hq245)) _) (Eq.trans (uq_ne e241 (Or.inr (by decide))) (Eq.trans (hF225 _ _ _ h214 h230 (by decide +kernel)) (Eq.trans (congrFun (hV212 _ (K_old h194 hq208)) _) (Eq.trans (uq_ne e204 (Or.inr (by decide))) (Eq.trans (hF189 _ _ _ h179 h194 (by decide +kernel)) (Eq.trans (congrFun (hV177 _ (K_old h160 hq173)) _) (Eq.trans (uq_ne e169 (Or.inr (by decide))) (Eq.trans (hF155 _ _ _ h146 h160 (by decide +kernel)) (Eq.trans (congrFun (hV144 _ (K_old h126 hq140)) _) (Eq.trans (uq_ne e136 (Or.inr (by decide))) (Eq.trans (uq_ne e134 (Or.inr (by decide))) (Eq.trans (congrFun (hV124 _ (K_old h107 hq120)) _) (Eq.trans (uq_ne e116 (Or.inr (by decide))) (Eq.trans (uq_ne e114 (Or.inr (by decide))) (Eq.trans (congrFun (hV105 _ (K_old h89 hq101)) _) (Eq.trans (uq_ne e97 (Or.inr (by decide))) (Eq.trans (uq_ne e95 (Or.inr (by decide))) (Eq.trans (congrFun (hV87 _ (K_old h72 hq83)) _) (Eq.trans (uq_ne e79 (Or.inr (by decide))) (uq_at e77)))))))))))))))))))))))))))))))))))))), ⟨_, h449⟩⟩
    | 4, _ => exact okv_at (Eq.trans (hF467 _ _ _ h445 h445 (by decide +kernel)) (Eq.trans (hF464 _ _ _ h445 h445 (by decide +kernel)) (Eq.trans (uq_ne e462 (Or.inr (by decide))) (Eq.trans (congrFun (hV443 _ (K_old h419 hq439)) _) (Eq.trans (uq_ne e435 (Or.inr (by decide))) (Eq.trans (congrFun (hV417 _ (K_old h394 hq413)) _) (Eq.trans (uq_ne e409 (Or.inr (by decide))) (Eq.trans (hF389 _ _ _ h374 h394 (by decide +kernel)) (Eq.trans (congrFun (hV372 _ (K_old h350 hq368)) _) (Eq.trans (uq_ne e364 (Or.inr (by decide))) (Eq.trans (hF345 _ _ _ h331 h350 (by decide +kernel)) (Eq.trans (congrFun (hV329 _ (K_old h308 hq325)) _) (Eq.trans (uq_ne e321 (Or.inr (by decide))) (Eq.trans (hF303 _ _ _ h290 h308 (by decide +kernel)) (Eq.trans (congrFun (hV288 _ (K_old h268 hq284)) _) (Eq.trans (uq_ne e280 (Or.inr (by decide))) (Eq.trans (hF263 _ _ _ h251 h268 (by decide +kernel)) (Eq.trans (congrFun (hV249 _ (K_old h230 hq245)) _) (Eq.trans (uq_ne e241 (Or.inr (by decide))) (Eq.trans (hF225 _ _ _ h214 h230 (by decide +kernel)) (Eq.trans (congrFun (hV212 _ (K_old h194 hq208)) _) (Eq.trans (uq_ne e204 (Or.inr (by decide))) (Eq.trans (hF189 _ _ _ h179 h194 (by decide +kernel)) (Eq.trans (congrFun (hV177 _ (K_old h160 hq173)) _) (Eq.trans (uq_ne e169 (Or.inr (by decide))) (Eq.trans (hF155 _ _ _ h146 h160 (by decide +kernel)) (Eq.trans (congrFun (hV144 _ (K_old h126 hq140)) _) (Eq.trans (uq_ne e136 (Or.inr (by decide))) (Eq.trans (uq_ne e134 (Or.inr (by decide))) (Eq.trans (congrFun (hV124 _ (K_old h107 hq120)) _) (Eq.trans (uq_ne e116 (Or.inr (by decide))) (Eq.trans (uq_ne e114 (Or.inr (by decide))) (Eq.trans (congrFun (hV105 _ (K_old h89 hq101)) _) (Eq.trans (uq_ne e97 (Or.inr (by decide))) (Eq.trans (uq_ne e95 (Or.inr (by decide))) (Eq.trans (congrFun (hV87 _ (K_old h72 hq83)) _) (uq_at e79))))))))))))))))))))))))))))))))))))) (ir_c rfl) (by omega) (by omega)
    | 5, _ => exact ⟨_, (Eq.trans (hF467 _ _ _ h445 h445 (by decide +kernel)) (Eq.trans (hF464 _ _ _ h445 h445 (by decide +kernel)) (Eq.trans (uq_ne e462 (Or.inr (by decide))) (Eq.trans (congrFun (hV443 _ (K_old h419 hq439)) _) (Eq.trans (uq_ne e435 (Or.inr (by decide))) (Eq.trans (congrFun (hV417 _ (K_old h394 hq413)) _) (Eq.trans (uq_ne e409 (Or.inr (by decide))) (Eq.trans (hF389 _ _ _ h374 h394 (by decide +kernel)) (Eq.trans (congrFun (hV372 _ (K_old h350 hq368)) _) (Eq.trans (uq_ne e364 (Or.inr (by decide))) (Eq.trans (hF345 _ _ _ h331 h350 (by decide +kernel)) (Eq.trans (congrFun (hV329 _ (K_old h308 hq325)) _) (Eq.trans (uq_ne e321 (Or.inr (by decide))) (Eq.trans (hF303 _ _ _ h290 h308 (by decide +kernel)) (Eq.trans (congrFun (hV288 _ (K_old h268 hq284)) _) (Eq.trans (uq_ne e280 (Or.inr (by decide))) (Eq.trans (hF263 _ _ _ h251 h268 (by decide +kernel)) (Eq.trans (congrFun (hV249 _ (K_old h230 hq245)) _) (Eq.trans (uq_ne e241 (Or.inr (by decide))) (Eq.trans (hF225 _ _ _ h214 h230 (by decide +kernel)) (Eq.trans (congrFun (hV212 _ (K_old h194 hq208)) _) (Eq.trans (uq_ne e204 (Or.inr (by decide))) (Eq.trans (hF189 _ _ _ h179 h194 (by decide +kernel)) (Eq.trans (congrFun (hV177 _ (K_old h160 hq173)) _) (Eq.trans (uq_ne e169 (Or.inr (by decide))) (Eq.trans (hF155 _ _ _ h146 h160 (by decide +kernel)) (Eq.trans (congrFun (hV144 _ (K_old h126 hq140)) _) (Eq.trans (uq_ne e136 (Or.inr (by decide))) (Eq.trans (uq_ne e134 (Or.inr (by decide))) (Eq.trans (congrFun (hV124 _ (K_old h107 hq120)) _) (Eq.trans (uq_ne e116 (Or.inr (by decide))) (Eq.trans (uq_ne e114 (Or.inr (by decide))) (Eq.trans (congrFun (hV105 _ (K_old h89 hq101)) _) (Eq.trans (uq_ne e97 (Or.inr (by decide))) (uq_at e95))))))))))))))))))))))))))))))))))), ⟨_, h450⟩⟩
    | 6, _ => exact okv_at (Eq.trans (hF467 _ _ _ h445 h445 (by decide +kernel)) (Eq.trans (hF464 _ _ _ h445 h445 (by decide +kernel)) (Eq.trans (uq_ne e462 (Or.inr (by decide))) (Eq.trans (congrFun (hV443 _ (K_old h419 hq439)) _) (Eq.trans (uq_ne e435 (Or.inr (by decide))) (Eq.trans (congrFun (hV417 _ (K_old h394 hq413)) _) (Eq.trans (uq_ne e409 (Or.inr (by decide))) (Eq.trans (hF389 _ _ _ h374 h394 (by decide +kernel)) (Eq.trans (congrFun (hV372 _ (K_old h350 hq368)) _) (Eq.trans (uq_ne e364 (Or.inr (by decide))) (Eq.trans (hF345 _ _ _ h331 h350 (by decide +kernel)) (Eq.trans (congrFun (hV329 _ (K_old h308 hq325)) _) (Eq.trans (uq_ne e321 (Or.inr (by decide))) (Eq.trans (hF303 _ _ _ h290 h308 (by decide +kernel)) (Eq.trans (congrFun (hV288 _ (K_old h268 hq284)) _) (Eq.trans (uq_ne e280 (Or.inr (by decide))) (Eq.trans (hF263 _ _ _ h251 h268 (by decide +kernel)) (Eq.trans (congrFun (hV249 _ (K_old h230 hq245)) _) (Eq.trans (uq_ne e241 (Or.inr (by decide))) (Eq.trans (hF225 _ _ _ h214 h230 (by decide +kernel)) (Eq.trans (congrFun (hV212 _ (K_old h194 hq208)) _) (Eq.trans (uq_ne e204 (Or.inr (by decide))) (Eq.trans (hF189 _ _ _ h179 h194 (by decide +kernel)) (Eq.trans (congrFun (hV177 _ (K_old h160 hq173)) _) (Eq.trans (uq_ne e169 (Or.inr (by decide))) (Eq.trans (hF155 _ _ _ h146 h160 (by decide +kernel)) (Eq.trans (congrFun (hV144 _ (K_old h126 hq140)) _) (Eq.trans (uq_ne e136 (Or.inr (by decide))) (Eq.trans (uq_ne e134 (Or.inr (by decide))) (Eq.trans (congrFun (hV124 _ (K_old h107 hq120)) _) (Eq.trans (uq_ne e116 (Or.inr (by decide))) (Eq.trans (uq_ne e114 (Or.inr (by decide))) (Eq.trans (congrFun (hV105 _ (K_old h89 hq101)) _) (uq_at e97)))))))))))))))))))))))))))))))))) (ir_c rfl) (by omega) (by omega)
    | 7, _ => exact ⟨_, (Eq.trans (hF467 _ _ _ h445 h445 (by decide +kernel)) (Eq.trans (hF464 _ _ _ h445 h445 (by decide +kernel)) (Eq.trans (uq_ne e462 (Or.inr (by decide))) (Eq.trans (congrFun (hV443 _ (K_old h419 hq439)) _) (Eq.trans (uq_ne e435 (Or.inr (by decide))) (Eq.trans (congrFun (hV417 _ (K_old h394 hq413)) _) (Eq.trans (uq_ne e409 (Or.inr (by decide))) (Eq.trans (hF389 _ _ _ h374 h394 (by decide +kernel)) (Eq.trans (congrFun (hV372 _ (K_old h350 hq368)) _) (Eq.trans (uq_ne e364 (Or.inr (by decide))) (Eq.trans (hF345 _ _ _ h331 h350 (by decide +kernel)) (Eq.trans (congrFun (hV329 _ (K_old h308 hq325)) _) (Eq.trans (uq_ne e321 (Or.inr (by decide))) (Eq.trans (hF303 _ _ _ h290 h308 (by decide +kernel)) (Eq.trans (congrFun (hV288 _ (K_old h268 hq284)) _) (Eq.trans (uq_ne e280 (Or.inr (by decide))) (Eq.trans (hF263 _ _ _ h251 h268 (by decide +kernel)) (Eq.trans (congrFun (hV249 _ (K_old h230 hq245)) _) (Eq.trans (uq_ne e241 (Or.inr (by decide))) (Eq.trans (hF225 _ _ _ h214 h230 (by decide +kernel)) (Eq.trans (congrFun (hV212 _ (K_old h194 hq208)) _) (Eq.trans (uq_ne e204 (Or.inr (by decide))) (Eq.trans (hF189 _ _ _ h179 h194 (by decide +kernel)) (Eq.trans (congrFun (hV177 _ (K_old h160 hq173)) _) (Eq.trans (uq_ne e169 (Or.inr (by decide))) (Eq.trans (hF155 _ _ _ h146 h160 (by decide +kernel)) (Eq.trans (congrFun (hV144 _ (K_old h126 hq140)) _) (Eq.trans (uq_ne e136 (Or.inr (by decide))) (Eq.trans (uq_ne e134 (Or.inr (by decide))) (Eq.trans (congrFun (hV124 _ (K_old h107 hq120)) _) (Eq.trans (uq_ne e116 (Or.inr (by decide))) (uq_at e114)))))))))))))))))))))))))))))))), ⟨_, h451⟩⟩
    | 8, _ => exact okv_at (Eq.trans (hF467 _ _ _ h445 h445 (by decide +kernel)) (Eq.trans (hF464 _ _ _ h445 h445 (by decide +kernel)) (Eq.trans (uq_ne e462 (Or.inr (by decide))) (Eq.trans (congrFun (hV443 _ (K_old h419 hq439)) _) (Eq.trans (uq_ne e435 (Or.inr (by decide))) (Eq.trans (congrFun (hV417 _ (K_old h394 hq413)) _) (Eq.trans (uq_ne e409 (Or.inr (by decide))) (Eq.trans (hF389 _ _ _ h374 h394 (by decide +kernel)) (Eq.trans (congrFun (hV372 _ (K_old h350 hq368)) _) (Eq.trans (uq_ne e364 (Or.inr (by decide))) (Eq.trans (hF345 _ _ _ h331 h350 (by decide +kernel)) (Eq.trans (congrFun (hV329 _ (K_old h308 hq325)) _) (Eq.trans (uq_ne e321 (Or.inr (by decide))) (Eq.trans (hF303 _ _ _ h290 h308 (by decide +kernel)) (Eq.trans (congrFun (hV288 _ (K_old h268 hq284)) _) (Eq.trans (uq_ne e280 (Or.inr (by decide))) (Eq.trans (hF263 _ _ _ h251 h268 (by decide +kernel)) (Eq.trans (congrFun (hV249 _ (K_old h230 hq245)) _) (Eq.trans (uq_ne e241 (Or.inr (by decide))) (Eq.trans (hF225 _ _ _ h214 h230 (by decide +kernel)) (Eq.trans (congrFun (hV212 _ (K_old h194 hq208)) _) (Eq.trans (uq_ne e204 (Or.inr (by decide))) (Eq.trans (hF189 _ _ _ h179 h194 (by decide +kernel)) (Eq.trans (congrFun (hV177 _ (K_old h160 hq173)) _) (Eq.trans (uq_ne e169 (Or.inr (by decide))) (Eq.trans (hF155 _ _ _ h146 h160 (by decide +kernel)) (Eq.trans (congrFun (hV144 _ (K_old h126 hq140)) _) (Eq.trans (uq_ne e136 (Or.inr (by decide))) (Eq.trans (uq_ne e134 (Or.inr (by decide))) (Eq.trans (congrFun (hV124 _ (K_old h107 hq120)) _) (uq_at e116))))))))))))))))))))))))))))))) (ir_c rfl) (by omega) (by omega)
    | 9, _ => exact ⟨_, (Eq.trans (hF467 _ _ _ h445 h445 (by decide +kernel)) (Eq.trans (hF464 _ _ _ h445 h445 (by decide +kernel)) (Eq.trans (uq_ne e462 (Or.inr (by decide))) (Eq.trans (congrFun (hV443 _ (K_old h419 hq439)) _) (Eq.trans (uq_ne e435 (Or.inr (by decide))) (Eq.trans (congrFun (hV417 _ (K_old h394 hq413)) _) (Eq.trans (uq_ne e409 (Or.inr (by decide))) (Eq.trans (hF389 _ _ _ h374 h394 (by decide +kernel)) (Eq.trans (congrFun (hV372 _ (K_old h350 hq368)) _) (Eq.trans (uq_ne e364 (Or.inr (by decide))) (Eq.trans (hF345 _ _ _ h331 h350 (by decide +kernel)) (Eq.trans (congrFun (hV329 _ (K_old h308 hq325)) _) (Eq.trans (uq_ne e321 (Or.inr (by decide))) (Eq.trans (hF303 _ _ _ h290 h308 (by decide +kernel)) (Eq.trans (congrFun (hV288 _ (K_old h268 hq284)) _) (Eq.trans (uq_ne e280 (Or.inr (by decide))) (Eq.trans (hF263 _ _ _ h251 h268 (by decide +kernel)) (Eq.trans (congrFun (hV249 _ (K_old h230 hq245)) _) (Eq.trans (uq_ne e241 (Or.inr (by decide))) (Eq.trans (hF225 _ _ _ h214 h230 (by decide +kernel)) (Eq.trans (congrFun (hV212 _ (K_old h194 hq208)) _) (Eq.trans (uq_ne e204 (Or.inr (by decide))) (Eq.trans (hF189 _ _ _ h179 h194 (by decide +kernel)) (Eq.trans (congrFun (hV177 _ (K_old h160 hq173)) _) (Eq.trans (uq_ne e169 (Or.inr (by decide))) (Eq.trans (hF155 _ _ _ h146 h160 (by decide +kernel)) (Eq.trans (congrFun (hV144 _ (K_old h126 hq140)) _) (Eq.trans (uq_ne e136 (Or.inr (by decide))) (uq_at e134))))))))))))))))))))))))))))), ⟨_, h452⟩⟩
    | 10, _ => exact okv_at (Eq.trans (hF467 _ _ _ h445 h445 (by decide +kernel)) (Eq.trans (hF464 _ _ _ h445 h445 (by decide +kernel)) (Eq.trans (uq_ne e462 (Or.inr (by decide))) (Eq.trans (congrFun (hV443 _ (K_old h419 hq439)) _) (Eq.trans (uq_ne e435 (Or.inr (by decide))) (Eq.trans (congrFun (hV417 _ (K_old h394 hq413)) _) (Eq.trans (uq_ne e409 (Or.inr (by decide))) (Eq.trans (hF389 _ _ _ h374 h394 (by decide +kernel)) (Eq.trans (congrFun (hV372 _ (K_old h350 hq368)) _) (Eq.trans (uq_ne e364 (Or.inr (by decide))) (Eq.trans (hF345 _ _ _ h331 h350 (by decide +kernel)) (Eq.trans (congrFun (hV329 _ (K_old h308 hq325)) _) (Eq.trans (uq_ne e321 (Or.inr (by decide))) (Eq.trans (hF303 _ _ _ h290 h308 (by decide +kernel)) (Eq.trans (congrFun (hV288 _ (K_old h268 hq284)) _) (Eq.trans (uq_ne e280 (Or.inr (by decide))) (Eq.trans (hF263 _ _ _ h251 h268 (by decide +kernel)) (Eq.trans (congrFun (hV249 _ (K_old h230 hq245)) _) (Eq.trans (uq_ne e241 (Or.inr (by decide))) (Eq.trans (hF225 _ _ _ h214 h230 (by decide +kernel)) (Eq.trans (congrFun (hV212 _ (K_old h194 hq208)) _) (Eq.trans (uq_ne e204 (Or.inr (by decide))) (Eq.trans (hF189 _ _ _ h179 h194 (by decide +kernel)) (Eq.trans (congrFun (hV177 _ (K_old h160 hq173)) _) (Eq.trans (uq_ne e169 (Or.inr (by decide))) (Eq.trans (hF155 _ _ _ h146 h160 (by decide +kernel)) (Eq.trans (congrFun (hV144 _ (K_old h126 hq140)) _) (uq_at e136)))))))))))))))))))))))))))) (ir_c rfl) (by omega) (by omega)
    | 11, _ => exact ⟨_, (Eq.trans (hF467 _ _ _ h445 h445 (by decide +kernel)) (Eq.trans (hF464 _ _ _ h445 h445 (by decide +kernel)) (Eq.trans (uq_ne e462 (Or.inr (by decide))) (Eq.trans (congrFun (hV443 _ (K_old h419 hq439)) _) (Eq.trans (uq_ne e435 (Or.inr (by decide))) (Eq.trans (congrFun (hV417 _ (K_old h394 hq413)) _) (Eq.trans (uq_ne e409 (Or.inr (by decide))) (Eq.trans (hF389 _ _ _ h374 h394 (by decide +kernel)) (Eq.trans (congrFun (hV372 _ (K_old h350 hq368)) _) (Eq.trans (uq_ne e364 (Or.inr (by decide))) (Eq.trans (hF345 _ _ _ h331 h350 (by decide +kernel)) (Eq.trans (congrFun (hV329 _ (K_old h308 hq325)) _) (Eq.trans (uq_ne e321 (Or.inr (by decide))) (Eq.trans (hF303 _ _ _ h290 h308 (by decide +kernel)) (Eq.trans (congrFun (hV288 _ (K_old h268 hq284)) _) (Eq.trans (uq_ne e280 (Or.inr (by decide))) (Eq.trans (hF263 _ _ _ h251 h268 (by decide +kernel)) (Eq.trans (congrFun (hV249 _ (K_old h230 hq245)) _) (Eq.trans (uq_ne e241 (Or.inr (by decide))) (Eq.trans (hF225 _ _ _ h214 h230 (by decide +kernel)) (Eq.trans (congrFun (hV212 _ (K_old h194 hq208)) _) (Eq.trans (uq_ne e204 (Or.inr (by decide))) (Eq.trans (hF189 _ _ _ h179 h194 (by decide +kernel)) (Eq.trans (congrFun (hV177 _ (K_old h160 hq173)) _) (uq_at e169))))))))))))))))))))))))), h453⟩
    | 12, _ => exact ⟨_, (Eq.trans (hF467 _ _ _ h445 h445 (by decide +kernel)) (Eq.trans (hF464 _ _ _ h445 h445 (by decide +kernel)) (Eq.trans (uq_ne e462 (Or.inr (by decide))) (Eq.trans (congrFun (hV443 _ (K_old h419 hq439)) _) (Eq.trans (uq_ne e435 (Or.inr (by decide))) (Eq.trans (congrFun (hV417 _ (K_old h394 hq413)) _) (Eq.trans (uq_ne e409 (Or.inr (by decide))) (Eq.trans (hF389 _ _ _ h374 h394 (by decide +kernel)) (Eq.trans (congrFun (hV372 _ (K_old h350 hq368)) _) (Eq.trans (uq_ne e364 (Or.inr (by decide))) (Eq.trans (hF345 _ _ _ h331 h350 (by decide +kernel)) (Eq.trans (congrFun (hV329 _ (K_old h308 hq325)) _) (Eq.trans (uq_ne e321 (Or.inr (by decide))) (Eq.trans (hF303 _ _ _ h290 h308 (by decide +kernel)) (Eq.trans (congrFun (hV288 _ (K_old h268 hq284)) _) (Eq.trans (uq_ne e280 (Or.inr (by decide))) (Eq.trans (hF263 _ _ _ h251 h268 (by decide +kernel)) (Eq.trans (congrFun (hV249 _ (K_old h230 hq245)) _) (Eq.trans (uq_ne e241 (Or.inr (by decide))) (Eq.trans (hF225 _ _ _ h214 h230 (by decide +kernel)) (Eq.trans (congrFun (hV212 _ (K_old h194 hq208)) _) (uq_at e204)))))))))))))))))))))), h454⟩
    | 13, _ => exact ⟨_, (Eq.trans (hF467 _ _ _ h445 h445 (by decide +kernel)) (Eq.trans (hF464 _ _ _ h445 h445 (by decide +kernel)) (Eq.trans (uq_ne e462 (Or.inr (by decide))) (Eq.trans (congrFun (hV443 _ (K_old h419 hq439)) _) (Eq.trans (uq_ne e435 (Or.inr (by decide))) (Eq.trans (congrFun (hV417 _ (K_old h394 hq413)) _) (Eq.trans (uq_ne e409 (Or.inr (by decide))) (Eq.trans (hF389 _ _ _ h374 h394 (by decide +kernel)) (Eq.trans (congrFun (hV372 _ (K_old h350 hq368)) _) (Eq.trans (uq_ne e364 (Or.inr (by decide))) (Eq.trans (hF345 _ _ _ h331 h350 (by decide +kernel)) (Eq.trans (congrFun (hV329 _ (K_old h308 hq325)) _) (Eq.trans (uq_ne e321 (Or.inr (by decide))) (Eq.trans (hF303 _ _ _ h290 h308 (by decide +kernel)) (Eq.trans (congrFun (hV288 _ (K_old h268 hq284)) _) (Eq.trans (uq_ne e280 (Or.inr (by decide))) (Eq.trans (hF263 _ _ _ h251 h268 (by decide +kernel)) (Eq.trans (congrFun (hV249 _ (K_old h230 hq245)) _) (uq_at e241))))))))))))))))))), h455⟩
    | 14, _ => exact ⟨_, (Eq.trans (hF467 _ _ _ h445 h445 (by decide +kernel)) (Eq.trans (hF464 _ _ _ h445 h445 (by decide +kernel)) (Eq.trans (uq_ne e462 (Or.inr (by decide))) (Eq.trans (congrFun (hV443 _ (K_old h419 hq439)) _) (Eq.trans (uq_ne e435 (Or.inr (by decide))) (Eq.trans (congrFun (hV417 _ (K_old h394 hq413)) _) (Eq.trans (uq_ne e409 (Or.inr (by decide))) (Eq.trans (hF389 _ _ _ h374 h394 (by decide +kernel)) (Eq.trans (congrFun (hV372 _ (K_old h350 hq368)) _) (Eq.trans (uq_ne e364 (Or.inr (by decide))) (Eq.trans (hF345 _ _ _ h331 h350 (by decide +kernel)) (Eq.trans (congrFun (hV329 _ (K_old h308 hq325)) _) (Eq.trans (uq_ne e321 (Or.inr (by decide))) (Eq.trans (hF303 _ _ _ h290 h308 (by decide +kernel)) (Eq.trans (congrFun (hV288 _ (K_old h268 hq284)) _) (uq_at e280)))))))))))))))), h456⟩
    | 15, _ => exact ⟨_, (Eq.trans (hF467 _ _ _ h445 h445 (by decide +kernel)) (Eq.trans (hF464 _ _ _ h445 h445 (by decide +kernel)) (Eq.trans (uq_ne e462 (Or.inr (by decide))) (Eq.trans (congrFun (hV443 _ (K_old h419 hq439)) _) (Eq.trans (uq_ne e435 (Or.inr (by decide))) (Eq.trans (congrFun (hV417 _ (K_old h394 hq413)) _) (Eq.trans (uq_ne e409 (Or.inr (by decide))) (Eq.trans (hF389 _ _ _ h374 h394 (by decide +kernel)) (Eq.trans (congrFun (hV372 _ (K_old h350 hq368)) _) (Eq.trans (uq_ne e364 (Or.inr (by decide))) (Eq.trans (hF345 _ _ _ h331 h350 (by decide +kernel)) (Eq.trans (congrFun (hV329 _ (K_old h308 hq325)) _) (uq_at e321))))))))))))), h457⟩
    | 16, _ => exact ⟨_, (Eq.trans (hF467 _ _ _ h445 h445 (by decide +kernel)) (Eq.trans (hF464 _ _ _ h445 h445 (by decide +kernel)) (Eq.trans (uq_ne e462 (Or.inr (by decide))) (Eq.trans (congrFun (hV443 _ (K_old h419 hq439)) _) (Eq.trans (uq_ne e435 (Or.inr (by decide))) (Eq.trans (congrFun (hV417 _ (K_old h394 hq413)) _) (Eq.trans (uq_ne e409 (Or.inr (by decide))) (Eq.trans (hF389 _ _ _ h374 h394 (by decide +kernel)) (Eq.trans (congrFun (hV372 _ (K_old h350 hq368)) _) (uq_at e364)))))))))), h458⟩
    | 17, _ => exact ⟨_, (Eq.trans (hF467 _ _ _ h445 h445 (by decide +kernel)) (Eq.trans (hF464 _ _ _ h445 h445 (by decide +kernel)) (Eq.trans (uq_ne e462 (Or.inr (by decide))) (Eq.trans (congrFun (hV443 _ (K_old h419 hq439)) _) (Eq.trans (uq_ne e435 (Or.inr (by decide))) (Eq.trans (congrFun (hV417 _ (K_old h394 hq413)) _) (uq_at e409))))))), h459⟩
    | 18, _ => exact ⟨_, (Eq.trans (hF467 _ _ _ h445 h445 (by decide +kernel)) (Eq.trans (hF464 _ _ _ h445 h445 (by decide +kernel)) (Eq.trans (uq_ne e462 (Or.inr (by decide))) (Eq.trans (congrFun (hV443 _ (K_old h419 hq439)) _) (uq_at e435))))), ⟨_, h460⟩⟩
    | 19, _ => exact ⟨_, (Eq.trans (hF467 _ _ _ h445 h445 (by decide +kernel)) (Eq.trans (hF464 _ _ _ h445 h445 (by decide +kernel)) (uq_at e462))), ⟨_, h442⟩⟩
    | j + 20, hj => exact absurd hj (by omega)
  exact GO.retv rfl rfl dX11_init_230 ⟨rfl, h473, KE.promote (KE.new (KE.new (KE.call (KE.new (KE.call (KE.new (KE.call (KE.new (KE.call (KE.new (KE.call (KE.new (KE.call (KE.new (KE.call (KE.new (KE.new (KE.new (KE.new (KE.new (KE.call (KE.new (KE.call (KE.new (KE.call (KE.new KE.rf hq3 hK4) h14.2 h10) hq22 hK23) h34.2 h30) hq43 hK44) h56.2 h52) hq66 hK67) hq83 hK84) hq101 hK102) hq120 hK121) hq140 hK141) h158.2 h154) hq173 hK174) h192.2 h188) hq208 hK209) h228.2 h224) hq245 hK246) h266.2 h262) hq284 hK285) h306.2 h302) hq325 hK326) h348.2 h344) hq368 hK369) h392.2 h388) hq413 hK414) hq439 hK440) e471⟩
