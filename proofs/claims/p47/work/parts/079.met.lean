def mX0_init : MRec := (RX0, cX0_init, 1, (none : Option Jvm.ClassFile.FieldType), yX0_init, 1, 22, 8, 916, 2582249878086908589655919172003011874333500068009351889922298930577412307381377145487169063282582777548674469404788916224)
def mX1_init : MRec := (RX1, cX1_init, 1, (none : Option Jvm.ClassFile.FieldType), yX1_init, 2, 43, 8, 2530, 335692484151298116655269492360391543662861753067799056667985716350284190862189355301853895926417918086667412356457174138880)
def mX8_init_k24 : MRec := (RX8, cX8_init, 3, (none : Option Jvm.ClassFile.FieldType), yX8_init, 1, 21, 1, 16, 330527984395124299475957654016385519914202341482140609642324397637202895618155672912594605219857642423795606012511679152128)
def mX6_init : MRec := (RX6, cX6_init, 1, (none : Option Jvm.ClassFile.FieldType), yX6_init, 2, 43, 9, 2220, 413159980493905374344947067520481899892756721127855890429997136620540384208059127091600780234824497975857278813071640363008)
def mX8_init_k26 : MRec := (RX8, cX8_init, 3, (none : Option Jvm.ClassFile.FieldType), yX8_init, 1, 21, 1, 1000, 330527984395124299475957654016385519914202341482140609642324397637202895618155672912594605219857642423795606012511679152128)
def mX8_init_k25 : MRec := (RX8, cX8_init, 3, (none : Option Jvm.ClassFile.FieldType), yX8_init, 1, 21, 1, 7, 330527984395124299475957654016385519914202341482140609642324397637202895618155672912594605219857642423795606012511679152128)
def mX11_init : MRec := (RX11, cX11_init, 1, (none : Option Jvm.ClassFile.FieldType), yX11_init, 3, 63, 48, 18935, 3065130605289160495921576057167575094829364570363468438107084295787785492019355033976246558053526050860529836429083316060160)
set_option maxHeartbeats 1000000 in
theorem t_X0_init {K : Kmap} {V : Vmap} {x : Nat} (h_x : K x = some (0, 12)) : MC mX0_init K V [.ref x] (VX (fun K1 V1 => (K1 x = some (0, 0) ∧ vi V1 x 0 = 0) ∧ KE K K1 x)) := by
  refine MC.start 0 (by decide +kernel) rfl rfl rfl (ls0 := [some (.ref x)]) rfl ?_
  refine GO.aload_n dX0_init_0 rfl rfl ?_
  refine GO.objInit dX0_init_1 gw_34 gw_27 gw_28 rfl rfl ?_
  refine GO.aload_n dX0_init_4 rfl rfl ?_
  refine GO.iconst dX0_init_5 ?_
  refine GO.putRW rfl (by decide +kernel) h_x fp_raw_fp_RX0_9 rfl rfl dX0_init_6 (fun V2 e1 => ?_)
  refine GO.aload_n dX0_init_9 rfl rfl ?_
  refine GO.bipush dX0_init_10 rfl ?_
  refine GO.putRW rfl (by decide +kernel) h_x fp_raw_fp_RX0_15 rfl rfl dX0_init_12 (fun V4 e3 => ?_)
  refine GO.aload_n dX0_init_15 rfl rfl ?_
  refine GO.sipush dX0_init_16 rfl ?_
  refine GO.putRW rfl (by decide +kernel) h_x fp_raw_fp_RX0_18 rfl rfl dX0_init_19 (fun V6 e5 => ?_)
  refine GO.aload_n dX0_init_22 rfl rfl ?_
  refine GO.bipush dX0_init_23 rfl ?_
  refine GO.putRW rfl (by decide +kernel) h_x fp_raw_fp_RX0_21 rfl rfl dX0_init_25 (fun V8 e7 => ?_)
  refine GO.aload_n dX0_init_28 rfl rfl ?_
  refine GO.bipush dX0_init_29 rfl ?_
  refine GO.putRW rfl (by decide +kernel) h_x fp_raw_fp_RX0_24 rfl rfl dX0_init_31 (fun V10 e9 => ?_)
  refine GO.aload_n dX0_init_34 rfl rfl ?_
  refine GO.sipush dX0_init_35 rfl ?_
  refine GO.newI gw_89 (ir_c rfl) (by omega) 144 (by omega) rfl rfl rfl dX0_init_38 (fun o11 K12 V18 hq13 hK14 hE15 h16 _ hV17 => ?_)
  have h19 := (by rw [hK14, updK_ne (K_old h_x hq13)]; exact h_x : K12 x = some (0, 12))
  have h20 := KE.nw KE.rf h_x hq13
  refine GO.putRF rfl rfl (by decide +kernel) h19 fp_raw_fp_RX0_27 rfl rfl dX0_init_40 (fun V22 e21 => ?_)
  refine GO.aload_n dX0_init_43 rfl rfl ?_
  refine GO.sipush dX0_init_44 rfl ?_
  refine GO.newI gw_89 (ir_c rfl) (by omega) 144 (by omega) rfl rfl rfl dX0_init_47 (fun o23 K24 V30 hq25 hK26 hE27 h28 _ hV29 => ?_)
  have h31 := (by rw [hK26, updK_ne (K_old h19 hq25)]; exact h19 : K24 x = some (0, 12))
  have h32 := hE27.arr h16
  have h33 := KE.nw (KE.new KE.rf hq13 hK14) h19 hq25
  refine GO.putRF rfl rfl (by decide +kernel) h31 fp_raw_fp_RX0_31 rfl rfl dX0_init_49 (fun V35 e34 => ?_)
  refine GO.aload_n dX0_init_52 rfl rfl ?_
  refine GO.sipush dX0_init_53 rfl ?_
  refine GO.newI gw_89 (ir_c rfl) (by omega) 144 (by omega) rfl rfl rfl dX0_init_56 (fun o36 K37 V43 hq38 hK39 hE40 h41 _ hV42 => ?_)
  have h44 := (by rw [hK39, updK_ne (K_old h31 hq38)]; exact h31 : K37 x = some (0, 12))
  have h45 := hE40.arr h32
  have h46 := hE40.arr h28
  have h47 := KE.nw (KE.new (KE.new KE.rf hq13 hK14) hq25 hK26) h31 hq38
  refine GO.putRF rfl rfl (by decide +kernel) h44 fp_raw_fp_RX0_34 rfl rfl dX0_init_58 (fun V49 e48 => ?_)
  refine GO.aload_n dX0_init_61 rfl rfl ?_
  refine GO.sipush dX0_init_62 rfl ?_
  refine GO.newI gw_89 (ir_c rfl) (by omega) 144 (by omega) rfl rfl rfl dX0_init_65 (fun o50 K51 V57 hq52 hK53 hE54 h55 _ hV56 => ?_)
  have h58 := (by rw [hK53, updK_ne (K_old h44 hq52)]; exact h44 : K51 x = some (0, 12))
  have h59 := hE54.arr h45
  have h60 := hE54.arr h46
  have h61 := hE54.arr h41
  have h62 := KE.nw (KE.new (KE.new (KE.new KE.rf hq13 hK14) hq25 hK26) hq38 hK39) h44 hq52
  refine GO.putRF rfl rfl (by decide +kernel) h58 fp_raw_fp_RX0_37 rfl rfl dX0_init_67 (fun V64 e63 => ?_)
  refine GO.aload_n dX0_init_70 rfl rfl ?_
  refine GO.bipush dX0_init_71 rfl ?_
  refine GO.newI gw_89 (ir_c rfl) (by omega) 48 (by omega) rfl rfl rfl dX0_init_73 (fun o65 K66 V72 hq67 hK68 hE69 h70 _ hV71 => ?_)
  have h73 := (by rw [hK68, updK_ne (K_old h58 hq67)]; exact h58 : K66 x = some (0, 12))
  have h74 := hE69.arr h59
  have h75 := hE69.arr h60
  have h76 := hE69.arr h61
  have h77 := hE69.arr h55
  have h78 := KE.nw (KE.new (KE.new (KE.new (KE.new KE.rf hq13 hK14) hq25 hK26) hq38 hK39) hq52 hK53) h58 hq67
  refine GO.putRF rfl rfl (by decide +kernel) h73 fp_raw_fp_RX0_40 rfl rfl dX0_init_75 (fun V80 e79 => ?_)
  refine GO.aload_n dX0_init_78 rfl rfl ?_
  refine GO.iconst dX0_init_79 ?_
  refine GO.newI gw_89 (ir_c rfl) (by omega) 4 (by omega) rfl rfl rfl dX0_init_80 (fun o81 K82 V88 hq83 hK84 hE85 h86 _ hV87 => ?_)
  have h89 := (by rw [hK84, updK_ne (K_old h73 hq83)]; exact h73 : K82 x = some (0, 12))
  have h90 := hE85.arr h74
  have h91 := hE85.arr h75
  have h92 := hE85.arr h76
  have h93 := hE85.arr h77
  have h94 := hE85.arr h70
  have h95 := KE.nw (KE.new (KE.new (KE.new (KE.new (KE.new KE.rf hq13 hK14) hq25 hK26) hq38 hK39) hq52 hK53) hq67 hK68) h73 hq83
  refine GO.putRF rfl rfl (by decide +kernel) h89 fp_raw_fp_RX0_43 rfl rfl dX0_init_82 (fun V97 e96 => ?_)
  refine GO.aload_n dX0_init_85 rfl rfl ?_
  refine GO.sipush dX0_init_86 rfl ?_
  refine GO.newI gw_89 (ir_c rfl) (by omega) 144 (by omega) rfl rfl rfl dX0_init_89 (fun o98 K99 V105 hq100 hK101 hE102 h103 _ hV104 => ?_)
  have h106 := (by rw [hK101, updK_ne (K_old h89 hq100)]; exact h89 : K99 x = some (0, 12))
  have h107 := hE102.arr h90
  have h108 := hE102.arr h91
  have h109 := hE102.arr h92
  have h110 := hE102.arr h93
  have h111 := hE102.arr h94
  have h112 := hE102.arr h86
  have h113 := KE.nw (KE.new (KE.new (KE.new (KE.new (KE.new (KE.new KE.rf hq13 hK14) hq25 hK26) hq38 hK39) hq52 hK53) hq67 hK68) hq83 hK84) h89 hq100
  refine GO.putRF rfl rfl (by decide +kernel) h106 fp_raw_fp_RX0_46 rfl rfl dX0_init_91 (fun V115 e114 => ?_)
  refine GO.aload_n dX0_init_94 rfl rfl ?_
  refine GO.sipush dX0_init_95 rfl ?_
  refine GO.newI gw_89 (ir_c rfl) (by omega) 144 (by omega) rfl rfl rfl dX0_init_98 (fun o116 K117 V123 hq118 hK119 hE120 h121 _ hV122 => ?_)
  have h124 := (by rw [hK119, updK_ne (K_old h106 hq118)]; exact h106 : K117 x = some (0, 12))
  have h125 := hE120.arr h107
  have h126 := hE120.arr h108
  have h127 := hE120.arr h109
  have h128 := hE120.arr h110
  have h129 := hE120.arr h111
  have h130 := hE120.arr h112
  have h131 := hE120.arr h103
  have h132 := KE.nw (KE.new (KE.new (KE.new (KE.new (KE.new (KE.new (KE.new KE.rf hq13 hK14) hq25 hK26) hq38 hK39) hq52 hK53) hq67 hK68) hq83 hK84) hq100 hK101) h106 hq118
  refine GO.putRF rfl rfl (by decide +kernel) h124 fp_raw_fp_RX0_49 rfl rfl dX0_init_100 (fun V134 e133 => ?_)
  refine GO.aload_n dX0_init_103 rfl rfl ?_
  refine GO.getRaw h124 fl_raw_fl_RX0_43 (Eq.trans (uq_ne e133 (Or.inr (by decide))) (Eq.trans (congrFun (hV122 _ (K_old h106 hq118)) _) (Eq.trans (uq_ne e114 (Or.inr (by decide))) (Eq.trans (congrFun (hV104 _ (K_old h89 hq100)) _) (uq_at e96))))) dX0_init_104 ?_
  refine GO.bipush dX0_init_107 rfl ?_
  refine GO.callS (N := mX4_fill) dX0_init_109 gS_RX0_52 (t_X4_fill h130 (ir_c rfl)) rfl [] rfl rfl (Nat.le_of_ble_eq_true rfl) rfl (k_vs fun V137 h136 hF135 => ?_)
  refine GO.aload_n dX0_init_112 rfl rfl ?_
  refine GO.getRaw h124 fl_raw_fl_RX0_34 (Eq.trans (hF135 _ _ _ h124 h124 (by decide +kernel)) (Eq.trans (uq_ne e133 (Or.inr (by decide))) (Eq.trans (congrFun (hV122 _ (K_old h106 hq118)) _) (Eq.trans (uq_ne e114 (Or.inr (by decide))) (Eq.trans (congrFun (hV104 _ (K_old h89 hq100)) _) (Eq.trans (uq_ne e96 (Or.inr (by decide))) (Eq.trans (congrFun (hV87 _ (K_old h73 hq83)) _) (Eq.trans (uq_ne e79 (Or.inr (by decide))) (Eq.trans (congrFun (hV71 _ (K_old h58 hq67)) _) (Eq.trans (uq_ne e63 (Or.inr (by decide))) (Eq.trans (congrFun (hV56 _ (K_old h44 hq52)) _) (uq_at e48)))))))))))) dX0_init_113 ?_
  refine GO.iconst dX0_init_116 ?_
  refine GO.callS (N := mX4_fill) dX0_init_117 gS_RX0_52 (t_X4_fill h127 (ir_c rfl)) rfl [] rfl rfl (Nat.le_of_ble_eq_true rfl) rfl (k_vs fun V140 h139 hF138 => ?_)
  refine GO.promote (ci := 0) rfl h124 (fun j hj => ?_) (fun K141 e142 hE143 h144 => ?_)
  ·
    have hj : j < 13 := hj
    match j, hj with
    | 0, _ => exact okv_any (Eq.trans (hF138 _ _ _ h124 h124 (by decide +kernel)) (Eq.trans (hF135 _ _ _ h124 h124 (by decide +kernel)) (Eq.trans (uq_ne e133 (Or.inr (by decide))) (Eq.trans (congrFun (hV122 _ (K_old h106 hq118)) _) (Eq.trans (uq_ne e114 (Or.inr (by decide))) (Eq.trans (congrFun (hV104 _ (K_old h89 hq100)) _) (Eq.trans (uq_ne e96 (Or.inr (by decide))) (Eq.trans (congrFun (hV87 _ (K_old h73 hq83)) _) (Eq.trans (uq_ne e79 (Or.inr (by decide))) (Eq.trans (congrFun (hV71 _ (K_old h58 hq67)) _) (Eq.trans (uq_ne e63 (Or.inr (by decide))) (Eq.trans (congrFun (hV56 _ (K_old h44 hq52)) _) (Eq.trans (uq_ne e48 (Or.inr (by decide))) (Eq.trans (congrFun (hV42 _ (K_old h31 hq38)) _) (Eq.trans (uq_ne e34 (Or.inr (by decide))) (Eq.trans (congrFun (hV29 _ (K_old h19 hq25)) _) (Eq.trans (uq_ne e21 (Or.inr (by decide))) (Eq.trans (congrFun (hV17 _ (K_old h_x hq13)) _) (Eq.trans (uq_ne e9 (Or.inr (by decide))) (Eq.trans (uq_ne e7 (Or.inr (by decide))) (Eq.trans (uq_ne e5 (Or.inr (by decide))) (Eq.trans (uq_ne e3 (Or.inr (by decide))) (uq_at e1)))))))))))))))))))))))
    | 1, _ => exact okv_any (Eq.trans (hF138 _ _ _ h124 h124 (by decide +kernel)) (Eq.trans (hF135 _ _ _ h124 h124 (by decide +kernel)) (Eq.trans (uq_ne e133 (Or.inr (by decide))) (Eq.trans (congrFun (hV122 _ (K_old h106 hq118)) _) (Eq.trans (uq_ne e114 (Or.inr (by decide))) (Eq.trans (congrFun (hV104 _ (K_old h89 hq100)) _) (Eq.trans (uq_ne e96 (Or.inr (by decide))) (Eq.trans (congrFun (hV87 _ (K_old h73 hq83)) _) (Eq.trans (uq_ne e79 (Or.inr (by decide))) (Eq.trans (congrFun (hV71 _ (K_old h58 hq67)) _) (Eq.trans (uq_ne e63 (Or.inr (by decide))) (Eq.trans (congrFun (hV56 _ (K_old h44 hq52)) _) (Eq.trans (uq_ne e48 (Or.inr (by decide))) (Eq.trans (congrFun (hV42 _ (K_old h31 hq38)) _) (Eq.trans (uq_ne e34 (Or.inr (by decide))) (Eq.trans (congrFun (hV29 _ (K_old h19 hq25)) _) (Eq.trans (uq_ne e21 (Or.inr (by decide))) (Eq.trans (congrFun (hV17 _ (K_old h_x hq13)) _) (Eq.trans (uq_ne e9 (Or.inr (by decide))) (Eq.trans (uq_ne e7 (Or.inr (by decide))) (Eq.trans (uq_ne e5 (Or.inr (by decide))) (uq_at e3))))))))))))))))))))))
    | 2, _ => exact okv_any (Eq.trans (hF138 _ _ _ h124 h124 (by decide +kernel)) (Eq.trans (hF135 _ _ _ h124 h124 (by decide +kernel)) (Eq.trans (uq_ne e133 (Or.inr (by decide))) (Eq.trans (congrFun (hV122 _ (K_old h106 hq118)) _) (Eq.trans (uq_ne e114 (Or.inr (by decide))) (Eq.trans (congrFun (hV104 _ (K_old h89 hq100)) _) (Eq.trans (uq_ne e96 (Or.inr (by decide))) (Eq.trans (congrFun (hV87 _ (K_old h73 hq83)) _) (Eq.trans (uq_ne e79 (Or.inr (by decide))) (Eq.trans (congrFun (hV71 _ (K_old h58 hq67)) _) (Eq.trans (uq_ne e63 (Or.inr (by decide))) (Eq.trans (congrFun (hV56 _ (K_old h44 hq52)) _) (Eq.trans (uq_ne e48 (Or.inr (by decide))) (Eq.trans (congrFun (hV42 _ (K_old h31 hq38)) _) (Eq.trans (uq_ne e34 (Or.inr (by decide))) (Eq.trans (congrFun (hV29 _ (K_old h19 hq25)) _) (Eq.trans (uq_ne e21 (Or.inr (by decide))) (Eq.trans (congrFun (hV17 _ (K_old h_x hq13)) _) (Eq.trans (uq_ne e9 (Or.inr (by decide))) (Eq.trans (uq_ne e7 (Or.inr (by decide))) (uq_at e5)))))))))))))))))))))
    | 3, _ => exact okv_any (Eq.trans (hF138 _ _ _ h124 h124 (by decide +kernel)) (Eq.trans (hF135 _ _ _ h124 h124 (by decide +kernel)) (Eq.trans (uq_ne e133 (Or.inr (by decide))) (Eq.trans (congrFun (hV122 _ (K_old h106 hq118)) _) (Eq.trans (uq_ne e114 (Or.inr (by decide))) (Eq.trans (congrFun (hV104 _ (K_old h89 hq100)) _) (Eq.trans (uq_ne e96 (Or.inr (by decide))) (Eq.trans (congrFun (hV87 _ (K_old h73 hq83)) _) (Eq.trans (uq_ne e79 (Or.inr (by decide))) (Eq.trans (congrFun (hV71 _ (K_old h58 hq67)) _) (Eq.trans (uq_ne e63 (Or.inr (by decide))) (Eq.trans (congrFun (hV56 _ (K_old h44 hq52)) _) (Eq.trans (uq_ne e48 (Or.inr (by decide))) (Eq.trans (congrFun (hV42 _ (K_old h31 hq38)) _) (Eq.trans (uq_ne e34 (Or.inr (by decide))) (Eq.trans (congrFun (hV29 _ (K_old h19 hq25)) _) (Eq.trans (uq_ne e21 (Or.inr (by decide))) (Eq.trans (congrFun (hV17 _ (K_old h_x hq13)) _) (Eq.trans (uq_ne e9 (Or.inr (by decide))) (uq_at e7))))))))))))))))))))
    | 4, _ => exact okv_any (Eq.trans (hF138 _ _ _ h124 h124 (by decide +kernel)) (Eq.trans (hF135 _ _ _ h124 h124 (by decide +kernel)) (Eq.trans (uq_ne e133 (Or.inr (by decide))) (Eq.trans (congrFun (hV122 _ (K_old h106 hq118)) _) (Eq.trans (uq_ne e114 (Or.inr (by decide))) (Eq.trans (congrFun (hV104 _ (K_old h89 hq100)) _) (Eq.trans (uq_ne e96 (Or.inr (by decide))) (Eq.trans (congrFun (hV87 _ (K_old h73 hq83)) _) (Eq.trans (uq_ne e79 (Or.inr (by decide))) (Eq.trans (congrFun (hV71 _ (K_old h58 hq67)) _) (Eq.trans (uq_ne e63 (Or.inr (by decide))) (Eq.trans (congrFun (hV56 _ (K_old h44 hq52)) _) (Eq.trans (uq_ne e48 (Or.inr (by decide))) (Eq.trans (congrFun (hV42 _ (K_old h31 hq38)) _) (Eq.trans (uq_ne e34 (Or.inr (by decide))) (Eq.trans (congrFun (hV29 _ (K_old h19 hq25)) _) (Eq.trans (uq_ne e21 (Or.inr (by decide))) (Eq.trans (congrFun (hV17 _ (K_old h_x hq13)) _) (uq_at e9)))))))))))))))))))
    | 5, _ => exact ⟨_, (Eq.trans (hF138 _ _ _ h124 h124 (by decide +kernel)) (Eq.trans (hF135 _ _ _ h124 h124 (by decide +kernel)) (Eq.trans (uq_ne e133 (Or.inr (by decide))) (Eq.trans (congrFun (hV122 _ (K_old h106 hq118)) _) (Eq.trans (uq_ne e114 (Or.inr (by decide))) (Eq.trans (congrFun (hV104 _ (K_old h89 hq100)) _) (Eq.trans (uq_ne e96 (Or.inr (by decide))) (Eq.trans (congrFun (hV87 _ (K_old h73 hq83)) _) (Eq.trans (uq_ne e79 (Or.inr (by decide))) (Eq.trans (congrFun (hV71 _ (K_old h58 hq67)) _) (Eq.trans (uq_ne e63 (Or.inr (by decide))) (Eq.trans (congrFun (hV56 _ (K_old h44 hq52)) _) (Eq.trans (uq_ne e48 (Or.inr (by decide))) (Eq.trans (congrFun (hV42 _ (K_old h31 hq38)) _) (Eq.trans (uq_ne e34 (Or.inr (by decide))) (Eq.trans (congrFun (hV29 _ (K_old h19 hq25)) _) (uq_at e21))))))))))))))))), ⟨_, h125⟩⟩
    | 6, _ => exact ⟨_, (Eq.trans (hF138 _ _ _ h124 h124 (by decide +kernel)) (Eq.trans (hF135 _ _ _ h124 h124 (by decide +kernel)) (Eq.trans (uq_ne e133 (Or.inr (by decide))) (Eq.trans (congrFun (hV122 _ (K_old h106 hq118)) _) (Eq.trans (uq_ne e114 (Or.inr (by decide))) (Eq.trans (congrFun (hV104 _ (K_old h89 hq100)) _) (Eq.trans (uq_ne e96 (Or.inr (by decide))) (Eq.trans (congrFun (hV87 _ (K_old h73 hq83)) _) (Eq.trans (uq_ne e79 (Or.inr (by decide))) (Eq.trans (congrFun (hV71 _ (K_old h58 hq67)) _) (Eq.trans (uq_ne e63 (Or.inr (by decide))) (Eq.trans (congrFun (hV56 _ (K_old h44 hq52)) _) (Eq.trans (uq_ne e48 (Or.inr (by decide))) (Eq.trans (congrFun (hV42 _ (K_old h31 hq38)) _) (uq_at e34))))))))))))))), ⟨_, h126⟩⟩
    | 7, _ => exact ⟨_, (Eq.trans (hF138 _ _ _ h124 h124 (by decide +kernel)) (Eq.trans (hF135 _ _ _ h124 h124 (by decide +kernel)) (Eq.trans (uq_ne e133 (Or.inr (by decide))) (Eq.trans (congrFun (hV122 _ (K_old h106 hq118)) _) (Eq.trans (uq_ne e114 (Or.inr (by decide))) (Eq.trans (congrFun (hV104 _ (K_old h89 hq100)) _) (Eq.trans (uq_ne e96 (Or.inr (by decide))) (Eq.trans (congrFun (hV87 _ (K_old h73 hq83)) _) (Eq.trans (uq_ne e79 (Or.inr (by decide))) (Eq.trans (congrFun (hV71 _ (K_old h58 hq67)) _) (Eq.trans (uq_ne e63 (Or.inr (by decide))) (Eq.trans (congrFun (hV56 _ (K_old h44 hq52)) _) (uq_at e48))))))))))))), ⟨_, h127⟩⟩
    | 8, _ => exact ⟨_, (Eq.trans (hF138 _ _ _ h124 h124 (by decide +kernel)) (Eq.trans (hF135 _ _ _ h124 h124 (by decide +kernel)) (Eq.trans (uq_ne e133 (Or.inr (by decide))) (Eq.trans (congrFun (hV122 _ (K_old h106 hq118)) _) (Eq.trans (uq_ne e114 (Or.inr (by decide))) (Eq.trans (congrFun (hV104 _ (K_old h89 hq100)) _) (Eq.trans (uq_ne e96 (Or.inr (by decide))) (Eq.trans (congrFun (hV87 _ (K_old h73 hq83)) _) (Eq.trans (uq_ne e79 (Or.inr (by decide))) (Eq.trans (congrFun (hV71 _ (K_old h58 hq67)) _) (uq_at e63))))))))))), ⟨_, h128⟩⟩
    | 9, _ => exact ⟨_, (Eq.trans (hF138 _ _ _ h124 h124 (by decide +kernel)) (Eq.trans (hF135 _ _ _ h124 h124 (by decide +kernel)) (Eq.trans (uq_ne e133 (Or.inr (by decide))) (Eq.trans (congrFun (hV122 _ (K_old h106 hq118)) _) (Eq.trans (uq_ne e114 (Or.inr (by decide))) (Eq.trans (congrFun (hV104 _ (K_old h89 hq100)) _) (Eq.trans (uq_ne e96 (Or.inr (by decide))) (Eq.trans (congrFun (hV87 _ (K_old h73 hq83)) _) (uq_at e79))))))))), ⟨_, h129⟩⟩
    | 10, _ => exact ⟨_, (Eq.trans (hF138 _ _ _ h124 h124 (by decide +kernel)) (Eq.trans (hF135 _ _ _ h124 h124 (by decide +kernel)) (Eq.trans (uq_ne e133 (Or.inr (by decide))) (Eq.trans (congrFun (hV122 _ (K_old h106 hq118)) _) (Eq.trans (uq_ne e114 (Or.inr (by decide))) (Eq.trans (congrFun (hV104 _ (K_old h89 hq100)) _) (uq_at e96))))))), ⟨_, h130⟩⟩
    | 11, _ => exact ⟨_, (Eq.trans (hF138 _ _ _ h124 h124 (by decide +kernel)) (Eq.trans (hF135 _ _ _ h124 h124 (by decide +kernel)) (Eq.trans (uq_ne e133 (Or.inr (by decide))) (Eq.trans (congrFun (hV122 _ (K_old h106 hq118)) _) (uq_at e114))))), ⟨_, h131⟩⟩
    | 12, _ => exact ⟨_, (Eq.trans (hF138 _ _ _ h124 h124 (by decide +kernel)) (Eq.trans (hF135 _ _ _ h124 h124 (by decide +kernel)) (uq_at e133))), ⟨_, h121⟩⟩
    | j + 13, hj => exact absurd hj (by omega)
  exact GO.retv rfl rfl dX0_init_120 ⟨rfl, ⟨h144, vi_at (Eq.trans (hF138 _ _ _ h124 h124 (by decide +kernel)) (Eq.trans (hF135 _ _ _ h124 h124 (by decide +kernel)) (Eq.trans (uq_ne e133 (Or.inr (by decide))) (Eq.trans (congrFun (hV122 _ (K_old h106 hq118)) _) (Eq.trans (uq_ne e114 (Or.inr (by decide))) (Eq.trans (congrFun (hV104 _ (K_old h89 hq100)) _) (Eq.trans (uq_ne e96 (Or.inr (by decide))) (Eq.trans (congrFun (hV87 _ (K_old h73 hq83)) _) (Eq.trans (uq_ne e79 (Or.inr (by decide))) (Eq.trans (congrFun (hV71 _ (K_old h58 hq67)) _) (Eq.trans (uq_ne e63 (Or.inr (by decide))) (Eq.trans (congrFun (hV56 _ (K_old h44 hq52)) _) (Eq.trans (uq_ne e48 (Or.inr (by decide))) (Eq.trans (congrFun (hV42 _ (K_old h31 hq38)) _) (Eq.trans (uq_ne e34 (Or.inr (by decide))) (Eq.trans (congrFun (hV29 _ (K_old h19 hq25)) _) (Eq.trans (uq_ne e21 (Or.inr (by decide))) (Eq.trans (congrFun (hV17 _ (K_old h_x hq13)) _) (Eq.trans (uq_ne e9 (Or.inr (by decide))) (Eq.trans (uq_ne e7 (Or.inr (by decide))) (Eq.trans (uq_ne e5 (Or.inr (by decide))) (Eq.trans (uq_ne e3 (Or.inr (by decide))) (uq_at e1))))))))))))))))))))))) (ir_c rfl)⟩, KE.promote (KE.new (KE.new (KE.new (KE.new (KE.new (KE.new (KE.new (KE.new KE.rf hq13 hK14) hq25 hK26) hq38 hK39) hq52 hK53) hq67 hK68) hq83 hK84) hq100 hK101) hq118 hK119) e142⟩

set_option maxHeartbeats 1000000 in
theorem t_X1_init {K : Kmap} {V : Vmap} {x : Nat} (h_x : K x = some (0, 13)) : MC mX1_init K V [.ref x] (VX (fun K1 _ => K1 x = some (0, 1) ∧ KE K K1 x)) := by
  refine MC.start 0 (by decide +kernel) rfl rfl rfl (ls0 := [some (.ref x)]) rfl ?_
  refine GO.aload_n dX1_init_0 rfl rfl ?_
  refine GO.objInit dX1_init_1 gw_95 gw_27 gw_28 rfl rfl ?_
  refine GO.aload_n dX1_init_4 rfl rfl ?_
  refine GO.bipush dX1_init_5 rfl ?_
  refine GO.newQ 8 20 8 rfl rfl gw_96 (List.mem_of_getElem? (i := 4) rfl) rfl rfl (Or.inr rfl) rfl rfl rfl dX1_init_7 (fun o1 K2 V8 hq3 hK4 hE5 h6 _ hV7 => ?_)
  have h9 := (by rw [hK4, updK_ne (K_old h_x hq3)]; exact h_x : K2 x = some (0, 13))
  have h10 := KE.nw KE.rf h_x hq3
  refine GO.putRF rfl rfl (by decide +kernel) h9 fp_raw_fp_RX1_11 rfl rfl dX1_init_10 (fun V12 e11 => ?_)
  refine GO.aload_n dX1_init_13 rfl rfl ?_
  refine GO.iconst dX1_init_14 ?_
  refine GO.putRW rfl (by decide +kernel) h9 fp_raw_fp_RX1_17 rfl rfl dX1_init_15 (fun V14 e13 => ?_)
  refine GO.aload_n dX1_init_18 rfl rfl ?_
  refine GO.new (ci := 19) (RX8, TX8, 4) tyX8 rfl rfl lays_7 tyX8_ok gw_98 gw_99 gw_5 rfl rfl dX1_init_19 (fun o15 K16 V22 hq17 hK18 hE19 h20 _ hV21 => ?_)
  have h23 := (by rw [hK18, updK_ne (K_old h9 hq17)]; exact h9 : K16 x = some (0, 13))
  have h24 := hE19.arr h6
  have h25 := KE.nw (KE.new KE.rf hq3 hK4) h9 hq17
  refine GO.dup dX1_init_22 rfl ?_
  refine GO.iconst dX1_init_23 ?_
  refine GO.bipush dX1_init_24 rfl ?_
  refine GO.callI (N := mX8_init) dX1_init_26 gI_RX1_23 rfl (t_X8_init h20 (ir_c rfl) (ir_c rfl) (by omega) (by omega) (by omega) (by omega)) rfl [.ref o15, .ref x] rfl rfl (Nat.le_of_ble_eq_true rfl) rfl (k_vx fun K28 V30 h29 hE27 hF26 => ?_)
  have h31 := h29.2 _ _ (K_ne h23 h20 (by decide)) h23
  have h32 := h29.1
  have h33 := hE27.arr h24
  refine GO.putRF rfl rfl (by decide +kernel) h31 fp_raw_fp_RX1_26 rfl rfl dX1_init_29 (fun V35 e34 => ?_)
  refine GO.aload_n dX1_init_32 rfl rfl ?_
  refine GO.bipush dX1_init_33 rfl ?_
  refine GO.newQ 8 20 8 rfl rfl gw_96 (List.mem_of_getElem? (i := 4) rfl) rfl rfl (Or.inr rfl) rfl rfl rfl dX1_init_35 (fun o36 K37 V43 hq38 hK39 hE40 h41 _ hV42 => ?_)
  have h44 := (by rw [hK39, updK_ne (K_old h31 hq38)]; exact h31 : K37 x = some (0, 13))
  have h45 := hE40.arr h33
  have h46 := hE40.obj (by decide) h32
  have h47 := KE.nw (KE.call (KE.new (KE.new KE.rf hq3 hK4) hq17 hK18) h29.2 h25) h31 hq38
  refine GO.putRF rfl rfl (by decide +kernel) h44 fp_raw_fp_RX1_30 rfl rfl dX1_init_38 (fun V49 e48 => ?_)
  refine GO.aload_n dX1_init_41 rfl rfl ?_
  refine GO.bipush dX1_init_42 rfl ?_
  refine GO.newI gw_89 (ir_c rfl) (by omega) 20 (by omega) rfl rfl rfl dX1_init_44 (fun o50 K51 V57 hq52 hK53 hE54 h55 _ hV56 => ?_)
  have h58 := (by rw [hK53, updK_ne (K_old h44 hq52)]; exact h44 : K51 x = some (0, 13))
  have h59 := hE54.arr h45
  have h60 := hE54.obj (by decide) h46
  have h61 := hE54.arr h41
  have h62 := KE.nw (KE.new (KE.call (KE.new (KE.new KE.rf hq3 hK4) hq17 hK18) h29.2 h25) hq38 hK39) h44 hq52
  refine GO.putRF rfl rfl (by decide +kernel) h58 fp_raw_fp_RX1_33 rfl rfl dX1_init_46 (fun V64 e63 => ?_)
  refine GO.aload_n dX1_init_49 rfl rfl ?_
  refine GO.bipush dX1_init_50 rfl ?_
  refine GO.newI gw_89 (ir_c rfl) (by omega) 20 (by omega) rfl rfl rfl dX1_init_52 (fun o65 K66 V72 hq67 hK68 hE69 h70 _ hV71 => ?_)
  have h73 := (by rw [hK68, updK_ne (K_old h58 hq67)]; exact h58 : K66 x = some (0, 13))
  have h74 := hE69.arr h59
  have h75 := hE69.obj (by decide) h60
  have h76 := hE69.arr h61
  have h77 := hE69.arr h55
  have h78 := KE.nw (KE.new (KE.new (KE.call (KE.new (KE.new KE.rf hq3 hK4) hq17 hK18) h29.2 h25) hq38 hK39) hq52 hK53) h58 hq67
  refine GO.putRF rfl rfl (by decide +kernel) h73 fp_raw_fp_RX1_37 rfl rfl dX1_init_54 (fun V80 e79 => ?_)
  refine GO.aload_n dX1_init_57 rfl rfl ?_
  refine GO.iconst dX1_init_58 ?_
  refine GO.putRW rfl (by decide +kernel) h73 fp_raw_fp_RX1_40 rfl rfl dX1_init_59 (fun V82 e81 => ?_)
  refine GO.aload_n dX1_init_62 rfl rfl ?_
  refine GO.iconst dX1_init_63 ?_
  refine GO.putRW rfl (by decide +kernel) h73 fp_raw_fp_RX1_43 rfl rfl dX1_init_64 (fun V84 e83 => ?_)
  refine GO.aload_n dX1_init_67 rfl rfl ?_
  refine GO.bipush dX1_init_68 rfl ?_
  refine GO.newI gw_89 (ir_c rfl) (by omega) 14 (by omega) rfl rfl rfl dX1_init_70 (fun o85 K86 V92 hq87 hK88 hE89 h90 _ hV91 => ?_)
  have h93 := (by rw [hK88, updK_ne (K_old h73 hq87)]; exact h73 : K86 x = some (0, 13))
  have h94 := hE89.arr h74
  have h95 := hE89.obj (by decide) h75
  have h96 := hE89.arr h76
  have h97 := hE89.arr h77
  have h98 := hE89.arr h70
  have h99 := KE.nw (KE.new (KE.new (KE.new (KE.call (KE.new (KE.new KE.rf hq3 hK4) hq17 hK18) h29.2 h25) hq38 hK39) hq52 hK53) hq67 hK68) h73 hq87
  refine GO.putRF rfl rfl (by decide +kernel) h93 fp_raw_fp_RX1_46 rfl rfl dX1_init_72 (fun V101 e100 => ?_)
  refine GO.aload_n dX1_init_75 rfl rfl ?_
  refine GO.bipush dX1_init_76 rfl ?_
  refine GO.newI gw_89 (ir_c rfl) (by omega) 32 (by omega) rfl rfl rfl dX1_init_78 (fun o102 K103 V109 hq104 hK105 hE106 h107 _ hV108 => ?_)
  have h110 := (by rw [hK105, updK_ne (K_old h93 hq104)]; exact h93 : K103 x = some (0, 13))
  have h111 := hE106.arr h94
  have h112 := hE106.obj (by decide) h95
  have h113 := hE106.arr h96
  have h114 := hE106.arr h97
  have h115 := hE106.arr h98
  have h116 := hE106.arr h90
  have h117 := KE.nw (KE.new (KE.new (KE.new (KE.new (KE.call (KE.new (KE.new KE.rf hq3 hK4) hq17 hK18) h29.2 h25) hq38 hK39) hq52 hK53) hq67 hK68) hq87 hK88) h93 hq104
  refine GO.putRF rfl rfl (by decide +kernel) h110 fp_raw_fp_RX1_49 rfl rfl dX1_init_80 (fun V119 e118 => ?_)
  refine GO.aload_n dX1_init_83 rfl rfl ?_
  refine GO.iconst dX1_init_84 ?_
  refine GO.putRW rfl (by decide +kernel) h110 fp_raw_fp_RX1_52 rfl rfl dX1_init_85 (fun V121 e120 => ?_)
  refine GO.aload_n dX1_init_88 rfl rfl ?_
  refine GO.iconst dX1_init_89 ?_
  refine GO.putRW rfl (by decide +kernel) h110 fp_raw_fp_RX1_55 rfl rfl dX1_init_90 (fun V123 e122 => ?_)
  refine GO.aload_n dX1_init_93 rfl rfl ?_
  refine GO.iconst dX1_init_94 ?_
  refine GO.putRW rfl (by decide +kernel) h110 fp_raw_fp_RX1_58 rfl rfl dX1_init_95 (fun V125 e124 => ?_)
  refine GO.promote (ci := 1) rfl h110 (fun j hj => ?_) (fun K126 e127 hE128 h129 => ?_)
  ·
    have hj : j < 13 := hj
    match j, hj with
    | 0, _ => exact ⟨_, (Eq.trans (uq_ne e124 (Or.inr (by decide))) (Eq.trans (uq_ne e122 (Or.inr (by decide))) (Eq.trans (uq_ne e120 (Or.inr (by decide))) (Eq.trans (uq_ne e118 (Or.inr (by decide))) (Eq.trans (congrFun (hV108 _ (K_old h93 hq104)) _) (Eq.trans (uq_ne e100 (Or.inr (by decide))) (Eq.trans (congrFun (hV91 _ (K_old h73 hq87)) _) (Eq.trans (uq_ne e83 (Or.inr (by decide))) (Eq.trans (uq_ne e81 (Or.inr (by decide))) (Eq.trans (uq_ne e79 (Or.inr (by decide))) (Eq.trans (congrFun (hV71 _ (K_old h58 hq67)) _) (Eq.trans (uq_ne e63 (Or.inr (by decide))) (Eq.trans (congrFun (hV56 _ (K_old h44 hq52)) _) (Eq.trans (uq_ne e48 (Or.inr (by decide))) (Eq.trans (congrFun (hV42 _ (K_old h31 hq38)) _) (Eq.trans (uq_ne e34 (Or.inr (by decide))) (Eq.trans (hF26 _ _ _ h23 h31 (by decide +kernel)) (Eq.trans (congrFun (hV21 _ (K_old h9 hq17)) _) (Eq.trans (uq_ne e13 (Or.inr (by decide))) (uq_at e11)))))))))))))))))))), ⟨_, h111⟩⟩
    | 1, _ => exact okv_at (Eq.trans (uq_ne e124 (Or.inr (by decide))) (Eq.trans (uq_ne e122 (Or.inr (by decide))) (Eq.trans (uq_ne e120 (Or.inr (by decide))) (Eq.trans (uq_ne e118 (Or.inr (by decide))) (Eq.trans (congrFun (hV108 _ (K_old h93 hq104)) _) (Eq.trans (uq_ne e100 (Or.inr (by decide))) (Eq.trans (congrFun (hV91 _ (K_old h73 hq87)) _) (Eq.trans (uq_ne e83 (Or.inr (by decide))) (Eq.trans (uq_ne e81 (Or.inr (by decide))) (Eq.trans (uq_ne e79 (Or.inr (by decide))) (Eq.trans (congrFun (hV71 _ (K_old h58 hq67)) _) (Eq.trans (uq_ne e63 (Or.inr (by decide))) (Eq.trans (congrFun (hV56 _ (K_old h44 hq52)) _) (Eq.trans (uq_ne e48 (Or.inr (by decide))) (Eq.trans (congrFun (hV42 _ (K_old h31 hq38)) _) (Eq.trans (uq_ne e34 (Or.inr (by decide))) (Eq.trans (hF26 _ _ _ h23 h31 (by decide +kernel)) (Eq.trans (congrFun (hV21 _ (K_old h9 hq17)) _) (uq_at e13))))))))))))))))))) (ir_c rfl) (by omega) (by omega)
    | 2, _ => exact ⟨_, (Eq.trans (uq_ne e124 (Or.inr (by decide))) (Eq.trans (uq_ne e122 (Or.inr (by decide))) (Eq.trans (uq_ne e120 (Or.inr (by decide))) (Eq.trans (uq_ne e118 (Or.inr (by decide))) (Eq.trans (congrFun (hV108 _ (K_old h93 hq104)) _) (Eq.trans (uq_ne e100 (Or.inr (by decide))) (Eq.trans (congrFun (hV91 _ (K_old h73 hq87)) _) (Eq.trans (uq_ne e83 (Or.inr (by decide))) (Eq.trans (uq_ne e81 (Or.inr (by decide))) (Eq.trans (uq_ne e79 (Or.inr (by decide))) (Eq.trans (congrFun (hV71 _ (K_old h58 hq67)) _) (Eq.trans (uq_ne e63 (Or.inr (by decide))) (Eq.trans (congrFun (hV56 _ (K_old h44 hq52)) _) (Eq.trans (uq_ne e48 (Or.inr (by decide))) (Eq.trans (congrFun (hV42 _ (K_old h31 hq38)) _) (uq_at e34)))))))))))))))), h112⟩
    | 3, _ => exact ⟨_, (Eq.trans (uq_ne e124 (Or.inr (by decide))) (Eq.trans (uq_ne e122 (Or.inr (by decide))) (Eq.trans (uq_ne e120 (Or.inr (by decide))) (Eq.trans (uq_ne e118 (Or.inr (by decide))) (Eq.trans (congrFun (hV108 _ (K_old h93 hq104)) _) (Eq.trans (uq_ne e100 (Or.inr (by decide))) (Eq.trans (congrFun (hV91 _ (K_old h73 hq87)) _) (Eq.trans (uq_ne e83 (Or.inr (by decide))) (Eq.trans (uq_ne e81 (Or.inr (by decide))) (Eq.trans (uq_ne e79 (Or.inr (by decide))) (Eq.trans (congrFun (hV71 _ (K_old h58 hq67)) _) (Eq.trans (uq_ne e63 (Or.inr (by decide))) (Eq.trans (congrFun (hV56 _ (K_old h44 hq52)) _) (uq_at e48)))))))))))))), ⟨_, h113⟩⟩
    | 4, _ => exact ⟨_, (Eq.trans (uq_ne e124 (Or.inr (by decide))) (Eq.trans (uq_ne e122 (Or.inr (by decide))) (Eq.trans (uq_ne e120 (Or.inr (by decide))) (Eq.trans (uq_ne e118 (Or.inr (by decide))) (Eq.trans (congrFun (hV108 _ (K_old h93 hq104)) _) (Eq.trans (uq_ne e100 (Or.inr (by decide))) (Eq.trans (congrFun (hV91 _ (K_old h73 hq87)) _) (Eq.trans (uq_ne e83 (Or.inr (by decide))) (Eq.trans (uq_ne e81 (Or.inr (by decide))) (Eq.trans (uq_ne e79 (Or.inr (by decide))) (Eq.trans (congrFun (hV71 _ (K_old h58 hq67)) _) (uq_at e63)))))))))))), ⟨_, h114⟩⟩
    | 5, _ => exact ⟨_, (Eq.trans (uq_ne e124 (Or.inr (by decide))) (Eq.trans (uq_ne e122 (Or.inr (by decide))) (Eq.trans (uq_ne e120 (Or.inr (by decide))) (Eq.trans (uq_ne e118 (Or.inr (by decide))) (Eq.trans (congrFun (hV108 _ (K_old h93 hq104)) _) (Eq.trans (uq_ne e100 (Or.inr (by decide))) (Eq.trans (congrFun (hV91 _ (K_old h73 hq87)) _) (Eq.trans (uq_ne e83 (Or.inr (by decide))) (Eq.trans (uq_ne e81 (Or.inr (by decide))) (uq_at e79)))))))))), ⟨_, h115⟩⟩
    | 6, _ => exact okv_any (Eq.trans (uq_ne e124 (Or.inr (by decide))) (Eq.trans (uq_ne e122 (Or.inr (by decide))) (Eq.trans (uq_ne e120 (Or.inr (by decide))) (Eq.trans (uq_ne e118 (Or.inr (by decide))) (Eq.trans (congrFun (hV108 _ (K_old h93 hq104)) _) (Eq.trans (uq_ne e100 (Or.inr (by decide))) (Eq.trans (congrFun (hV91 _ (K_old h73 hq87)) _) (Eq.trans (uq_ne e83 (Or.inr (by decide))) (uq_at e81)))))))))
    | 7, _ => exact okv_any (Eq.trans (uq_ne e124 (Or.inr (by decide))) (Eq.trans (uq_ne e122 (Or.inr (by decide))) (Eq.trans (uq_ne e120 (Or.inr (by decide))) (Eq.trans (uq_ne e118 (Or.inr (by decide))) (Eq.trans (congrFun (hV108 _ (K_old h93 hq104)) _) (Eq.trans (uq_ne e100 (Or.inr (by decide))) (Eq.trans (congrFun (hV91 _ (K_old h73 hq87)) _) (uq_at e83))))))))
    | 8, _ => exact ⟨_, (Eq.trans (uq_ne e124 (Or.inr (by decide))) (Eq.trans (uq_ne e122 (Or.inr (by decide))) (Eq.trans (uq_ne e120 (Or.inr (by decide))) (Eq.trans (uq_ne e118 (Or.inr (by decide))) (Eq.trans (congrFun (hV108 _ (K_old h93 hq104)) _) (uq_at e100)))))), ⟨_, h116⟩⟩
    | 9, _ => exact ⟨_, (Eq.trans (uq_ne e124 (Or.inr (by decide))) (Eq.trans (uq_ne e122 (Or.inr (by decide))) (Eq.trans (uq_ne e120 (Or.inr (by decide))) (uq_at e118)))), ⟨_, h107⟩⟩
    | 10, _ => exact okv_any (Eq.trans (uq_ne e124 (Or.inr (by decide))) (Eq.trans (uq_ne e122 (Or.inr (by decide))) (uq_at e120)))
    | 11, _ => exact okv_any (Eq.trans (uq_ne e124 (Or.inr (by decide))) (uq_at e122))
    | 12, _ => exact okv_any (uq_at e124)
    | j + 13, hj => exact absurd hj (by omega)
  exact GO.retv rfl rfl dX1_init_98 ⟨rfl, h129, KE.promote (KE.new (KE.new (KE.new (KE.new (KE.new (KE.call (KE.new (KE.new KE.rf hq3 hK4) hq17 hK18) h29.2 h25) hq38 hK39) hq52 hK53) hq67 hK68) hq87 hK88) hq104 hK105) e127⟩

set_option maxHeartbeats 1000000 in
theorem t_X8_init_k24 {K : Kmap} {V : Vmap} {x : Nat} {p0 : Int} {p1 : Int} (h_x : K x = some (0, 19)) (r_p0 : ir p0) (r_p1 : ir p1) (q_0 : p0 = 2) (q_1 : p1 = 8) : MC mX8_init_k24 K V [.ref x, ti p0, ti p1] (VX (fun K1 _ => K1 x = some (0, 24) ∧ KE K K1 x)) := by
  refine MC.start 0 (by decide +kernel) rfl rfl rfl (ls0 := [some (.ref x), some (ti p0), some (ti p1)]) rfl ?_
  refine GO.aload_n dX8_init_0 rfl rfl ?_
  refine GO.objInit dX8_init_1 gw_103 gw_27 gw_28 rfl rfl ?_
  refine GO.aload_n dX8_init_4 rfl rfl ?_
  refine GO.iconst dX8_init_5 ?_
  refine GO.putRW rfl (by decide +kernel) h_x fp_raw_fp_RX8_9 rfl rfl dX8_init_6 (fun V2 e1 => ?_)
  refine GO.aload_n dX8_init_9 rfl rfl ?_
  refine GO.iload_n dX8_init_10 rfl rfl ?_
  refine GO.putRF rfl rfl (by decide +kernel) h_x fp_raw_fp_RX8_15 rfl rfl dX8_init_11 (fun V4 e3 => ?_)
  refine GO.aload_n dX8_init_14 rfl rfl ?_
  refine GO.iload_n dX8_init_15 rfl rfl ?_
  refine GO.putRF rfl rfl (by decide +kernel) h_x fp_raw_fp_RX8_18 rfl rfl dX8_init_16 (fun V6 e5 => ?_)
  refine GO.aload_n dX8_init_19 rfl rfl ?_
  refine GO.iconst dX8_init_20 ?_
  refine GO.iload_n dX8_init_21 rfl rfl ?_
  refine GO.iload_n dX8_init_22 rfl rfl ?_
  refine GO.imul dX8_init_23 ?_
  have q7 : -2147483648 ≤ p1 ∧ p1 ≤ 2147483647 := r_p1
  have q8 : -2147483648 ≤ p0 ∧ p0 ≤ 2147483647 := r_p0
  have m9 := mul_rng (a := p0) (b := p1) (A := 2) (B := 8) (by omega) (by omega) (by omega) (by omega)
  have m10 := mul_low (a := p0) (b := p1) (m := 2) (n := 8) (by omega) (by omega) (by omega) (by omega)
  refine GO.callS (N := mJ9_max_7cf53) dX8_init_24 gS_RX8_21 (t_J9_max_7cf53 (ir_c rfl) ⟨by omega, by omega⟩) rfl [.ref x] rfl rfl (Nat.le_of_ble_eq_true rfl) rfl (k_ip fun X11 r12 h13 => ?_)
  have q14 : -2147483648 ≤ X11 ∧ X11 ≤ 2147483647 := r12
  refine GO.newI gw_89 r12 (by omega) 16 (by omega) rfl rfl rfl dX8_init_27 (fun o15 K16 V22 hq17 hK18 hE19 h20 _ hV21 => ?_)
  have h23 := (by rw [hK18, updK_ne (K_old h_x hq17)]; exact h_x : K16 x = some (0, 19))
  have h24 := KE.nw KE.rf h_x hq17
  refine GO.putRF rfl rfl (by decide +kernel) h23 fp_raw_fp_RX8_27 rfl rfl dX8_init_29 (fun V26 e25 => ?_)
  refine GO.promoteT 24 rfl rfl h23 (fun j hj => ?_) (fun K27 e28 hE29 h30 => ?_)
  ·
    have hj : j < 4 := hj
    match j, hj with
    | 0, _ => exact okv_at (Eq.trans (uq_ne e25 (Or.inr (by decide))) (Eq.trans (congrFun (hV21 _ (K_old h_x hq17)) _) (Eq.trans (uq_ne e5 (Or.inr (by decide))) (uq_at e3)))) r_p0 (by omega) (by omega)
    | 1, _ => exact okv_at (Eq.trans (uq_ne e25 (Or.inr (by decide))) (Eq.trans (congrFun (hV21 _ (K_old h_x hq17)) _) (uq_at e5))) r_p1 (by omega) (by omega)
    | 2, _ => exact ⟨_, (uq_at e25), ⟨_, h20⟩⟩
    | 3, _ => exact okv_at (Eq.trans (uq_ne e25 (Or.inr (by decide))) (Eq.trans (congrFun (hV21 _ (K_old h_x hq17)) _) (Eq.trans (uq_ne e5 (Or.inr (by decide))) (Eq.trans (uq_ne e3 (Or.inr (by decide))) (uq_at e1))))) (ir_c rfl) (by omega) (by omega)
    | j + 4, hj => exact absurd hj (by omega)
  exact GO.retv rfl rfl dX8_init_32 ⟨rfl, h30, KE.promote (KE.new KE.rf hq17 hK18) e28⟩

set_option maxHeartbeats 1000000 in
theorem t_X6_init {K : Kmap} {V : Vmap} {x : Nat} (h_x : K x = some (0, 17)) : MC mX6_init K V [.ref x] (VX (fun K1 _ => K1 x = some (0, 5) ∧ KE K K1 x)) := by
  refine MC.start 0 (by decide +kernel) rfl rfl rfl (ls0 := [some (.ref x)]) rfl ?_
  refine GO.aload_n dX6_init_0 rfl rfl ?_
  refine GO.objInit dX6_init_1 gw_177 gw_27 gw_28 rfl rfl ?_
  refine GO.aload_n dX6_init_4 rfl rfl ?_
  refine GO.new (ci := 19) (RX8, TX8, 4) tyX8 rfl rfl lays_7 tyX8_ok gw_178 gw_99 gw_5 rfl rfl dX6_init_5 (fun o1 K2 V8 hq3 hK4 hE5 h6 _ hV7 => ?_)
  have h9 := (by rw [hK4, updK_ne (K_old h_x hq3)]; exact h_x : K2 x = some (0, 17))
  have h10 := KE.nw KE.rf h_x hq3
  refine GO.dup dX6_init_8 rfl ?_
  refine GO.iconst dX6_init_9 ?_
  refine GO.bipush dX6_init_10 rfl ?_
  refine GO.callI (N := mX8_init_k24) dX6_init_12 gI_RX6_11 rfl (t_X8_init_k24 h6 (ir_c rfl) (ir_c rfl) (by omega) (by omega)) rfl [.ref o1, .ref x] rfl rfl (Nat.le_of_ble_eq_true rfl) rfl (k_vx fun K13 V15 h14 hE12 hF11 => ?_)
  have h16 := h14.2 _ _ (K_ne h9 h6 (by decide)) h9
  have h17 := h14.1
  refine GO.putRF rfl rfl (by decide +kernel) h16 fp_raw_fp_RX6_14 rfl rfl dX6_init_15 (fun V19 e18 => ?_)
  refine GO.aload_n dX6_init_18 rfl rfl ?_
  refine GO.bipush dX6_init_19 rfl ?_
  refine GO.newI gw_89 (ir_c rfl) (by omega) 24 (by omega) rfl rfl rfl dX6_init_21 (fun o20 K21 V27 hq22 hK23 hE24 h25 _ hV26 => ?_)
  have h28 := (by rw [hK23, updK_ne (K_old h16 hq22)]; exact h16 : K21 x = some (0, 17))
  have h29 := hE24.obj (by decide) h17
  have h30 := KE.nw (KE.call (KE.new KE.rf hq3 hK4) h14.2 h10) h16 hq22
  refine GO.putRF rfl rfl (by decide +kernel) h28 fp_raw_fp_RX6_20 rfl rfl dX6_init_23 (fun V32 e31 => ?_)
  refine GO.aload_n dX6_init_26 rfl rfl ?_
  refine GO.bipush dX6_init_27 rfl ?_
  refine GO.newI gw_89 (ir_c rfl) (by omega) 24 (by omega) rfl rfl rfl dX6_init_29 (fun o33 K34 V40 hq35 hK36 hE37 h38 _ hV39 => ?_)
  have h41 := (by rw [hK36, updK_ne (K_old h28 hq35)]; exact h28 : K34 x = some (0, 17))
  have h42 := hE37.obj (by decide) h29
  have h43 := hE37.arr h25
  have h44 := KE.nw (KE.new (KE.call (KE.new KE.rf hq3 hK4) h14.2 h10) hq22 hK23) h28 hq35
  refine GO.putRF rfl rfl (by decide +kernel) h41 fp_raw_fp_RX6_24 rfl rfl dX6_init_31 (fun V46 e45 => ?_)
  refine GO.aload_n dX6_init_34 rfl rfl ?_
  refine GO.bipush dX6_init_35 rfl ?_
  refine GO.newI gw_89 (ir_c rfl) (by omega) 64 (by omega) rfl rfl rfl dX6_init_37 (fun o47 K48 V54 hq49 hK50 hE51 h52 _ hV53 => ?_)
  have h55 := (by rw [hK50, updK_ne (K_old h41 hq49)]; exact h41 : K48 x = some (0, 17))
  have h56 := hE51.obj (by decide) h42
  have h57 := hE51.arr h43
  have h58 := hE51.arr h38
  have h59 := KE.nw (KE.new (KE.new (KE.call (KE.new KE.rf hq3 hK4) h14.2 h10) hq22 hK23) hq35 hK36) h41 hq49
  refine GO.putRF rfl rfl (by decide +kernel) h55 fp_raw_fp_RX6_27 rfl rfl dX6_init_39 (fun V61 e60 => ?_)
  refine GO.aload_n dX6_init_42 rfl rfl ?_
  refine GO.bipush dX6_init_43 rfl ?_
  refine GO.newI gw_89 (ir_c rfl) (by omega) 24 (by omega) rfl rfl rfl dX6_init_45 (fun o62 K63 V69 hq64 hK65 hE66 h67 _ hV68 => ?_)
  have h70 := (by rw [hK65, updK_ne (K_old h55 hq64)]; exact h55 : K63 x = some (0, 17))
  have h71 := hE66.obj (by decide) h56
  have h72 := hE66.arr h57
  have h73 := hE66.arr h58
  have h74 := hE66.arr h52
  have h75 := KE.nw (KE.new (KE.new (KE.new (KE.call (KE.new KE.rf hq3 hK4) h14.2 h10) hq22 hK23) hq35 hK36) hq49 hK50) h55 hq64
  refine GO.putRF rfl rfl (by decide +kernel) h70 fp_raw_fp_RX6_30 rfl rfl dX6_init_47 (fun V77 e76 => ?_)
  refine GO.aload_n dX6_init_50 rfl rfl ?_
  refine GO.bipush dX6_init_51 rfl ?_
  refine GO.newI gw_89 (ir_c rfl) (by omega) 8 (by omega) rfl rfl rfl dX6_init_53 (fun o78 K79 V85 hq80 hK81 hE82 h83 _ hV84 => ?_)
  have h86 := (by rw [hK81, updK_ne (K_old h70 hq80)]; exact h70 : K79 x = some (0, 17))
  have h87 := hE82.obj (by decide) h71
  have h88 := hE82.arr h72
  have h89 := hE82.arr h73
  have h90 := hE82.arr h74
  have h91 := hE82.arr h67
  have h92 := KE.nw (KE.new (KE.new (KE.new (KE.new (KE.call (KE.new KE.rf hq3 hK4) h14.2 h10) hq22 hK23) hq35 hK36) hq49 hK50) hq64 hK65) h70 hq80
  refine GO.putRF rfl rfl (by decide +kernel) h86 fp_raw_fp_RX6_33 rfl rfl dX6_init_55 (fun V94 e93 => ?_)
  refine GO.aload_n dX6_init_58 rfl rfl ?_
  refine GO.sipush dX6_init_59 rfl ?_
  refine GO.newI gw_89 (ir_c rfl) (by omega) 2048 (by omega) rfl rfl rfl dX6_init_62 (fun o95 K96 V102 hq97 hK98 hE99 h100 _ hV101 => ?_)
  have h103 := (by rw [hK98, updK_ne (K_old h86 hq97)]; exact h86 : K96 x = some (0, 17))
  have h104 := hE99.obj (by decide) h87
  have h105 := hE99.arr h88
  have h106 := hE99.arr h89
  have h107 := hE99.arr h90
  have h108 := hE99.arr h91
  have h109 := hE99.arr h83
  have h110 := KE.nw (KE.new (KE.new (KE.new (KE.new (KE.new (KE.call (KE.new KE.rf hq3 hK4) h14.2 h10) hq22 hK23) hq35 hK36) hq49 hK50) hq64 hK65) hq80 hK81) h86 hq97
  refine GO.putRF rfl rfl (by decide +kernel) h103 fp_raw_fp_RX6_36 rfl rfl dX6_init_64 (fun V112 e111 => ?_)
  refine GO.aload_n dX6_init_67 rfl rfl ?_
  refine GO.bipush dX6_init_68 rfl ?_
  refine GO.newI gw_89 (ir_c rfl) (by omega) 8 (by omega) rfl rfl rfl dX6_init_70 (fun o113 K114 V120 hq115 hK116 hE117 h118 _ hV119 => ?_)
  have h121 := (by rw [hK116, updK_ne (K_old h103 hq115)]; exact h103 : K114 x = some (0, 17))
  have h122 := hE117.obj (by decide) h104
  have h123 := hE117.arr h105
  have h124 := hE117.arr h106
  have h125 := hE117.arr h107
  have h126 := hE117.arr h108
  have h127 := hE117.arr h109
  have h128 := hE117.arr h100
  have h129 := KE.nw (KE.new (KE.new (KE.new (KE.new (KE.new (KE.new (KE.call (KE.new KE.rf hq3 hK4) h14.2 h10) hq22 hK23) hq35 hK36) hq49 hK50) hq64 hK65) hq80 hK81) hq97 hK98) h103 hq115
  refine GO.putRF rfl rfl (by decide +kernel) h121 fp_raw_fp_RX6_39 rfl rfl dX6_init_72 (fun V131 e130 => ?_)
  refine GO.aload_n dX6_init_75 rfl rfl ?_
  refine GO.iconst dX6_init_76 ?_
  refine GO.putRW rfl (by decide +kernel) h121 fp_raw_fp_RX6_42 rfl rfl dX6_init_77 (fun V133 e132 => ?_)
  refine GO.aload_n dX6_init_80 rfl rfl ?_
  refine GO.iconst dX6_init_81 ?_
  refine GO.putRW rfl (by decide +kernel) h121 fp_raw_fp_RX6_46 rfl rfl dX6_init_82 (fun V135 e134 => ?_)
  refine GO.aload_n dX6_init_85 rfl rfl ?_
  refine GO.getRaw h121 fl_raw_fl_RX6_24 (Eq.trans (uq_ne e134 (Or.inr (by decide))) (Eq.trans (uq_ne e132 (Or.inr (by decide))) (Eq.trans (uq_ne e130 (Or.inr (by decide))) (Eq.trans (congrFun (hV119 _ (K_old h103 hq115)) _) (Eq.trans (uq_ne e111 (Or.inr (by decide))) (Eq.trans (congrFun (hV101 _ (K_old h86 hq97)) _) (Eq.trans (uq_ne e93 (Or.inr (by decide))) (Eq.trans (congrFun (hV84 _ (K_old h70 hq80)) _) (Eq.trans (uq_ne e76 (Or.inr (by decide))) (Eq.trans (congrFun (hV68 _ (K_old h55 hq64)) _) (Eq.trans (uq_ne e60 (Or.inr (by decide))) (Eq.trans (congrFun (hV53 _ (K_old h41 hq49)) _) (uq_at e45))))))))))))) dX6_init_86 ?_
  refine GO.sipush dX6_init_89 rfl ?_
  refine GO.callS (N := mX4_fill) dX6_init_92 gS_RX6_49 (t_X4_fill h124 (ir_c rfl)) rfl [] rfl rfl (Nat.le_of_ble_eq_true rfl) rfl (k_vs fun V138 h137 hF136 => ?_)
  refine GO.promote (ci := 5) rfl h121 (fun j hj => ?_) (fun K139 e140 hE141 h142 => ?_)
  ·
    have hj : j < 10 := hj
    match j, hj with
    | 0, _ => exact ⟨_, (Eq.trans (hF136 _ _ _ h121 h121 (by decide +kernel)) (Eq.trans (uq_ne e134 (Or.inr (by decide))) (Eq.trans (uq_ne e132 (Or.inr (by decide))) (Eq.trans (uq_ne e130 (Or.inr (by decide))) (Eq.trans (congrFun (hV119 _ (K_old h103 hq115)) _) (Eq.trans (uq_ne e111 (Or.inr (by decide))) (Eq.trans (congrFun (hV101 _ (K_old h86 hq97)) _) (Eq.trans (uq_ne e93 (Or.inr (by decide))) (Eq.trans (congrFun (hV84 _ (K_old h70 hq80)) _) (Eq.trans (uq_ne e76 (Or.inr (by decide))) (Eq.trans (congrFun (hV68 _ (K_old h55 hq64)) _) (Eq.trans (uq_ne e60 (Or.inr (by decide))) (Eq.trans (congrFun (hV53 _ (K_old h41 hq49)) _) (Eq.trans (uq_ne e45 (Or.inr (by decide))) (Eq.trans (congrFun (hV39 _ (K_old h28 hq35)) _) (Eq.trans (uq_ne e31 (Or.inr (by decide))) (Eq.trans (congrFun (hV26 _ (K_old h16 hq22)) _) (uq_at e18)))))))))))))))))), h122⟩
    | 1, _ => exact ⟨_, (Eq.trans (hF136 _ _ _ h121 h121 (by decide +kernel)) (Eq.trans (uq_ne e134 (Or.inr (by decide))) (Eq.trans (uq_ne e132 (Or.inr (by decide))) (Eq.trans (uq_ne e130 (Or.inr (by decide))) (Eq.trans (congrFun (hV119 _ (K_old h103 hq115)) _) (Eq.trans (uq_ne e111 (Or.inr (by decide))) (Eq.trans (congrFun (hV101 _ (K_old h86 hq97)) _) (Eq.trans (uq_ne e93 (Or.inr (by decide))) (Eq.trans (congrFun (hV84 _ (K_old h70 hq80)) _) (Eq.trans (uq_ne e76 (Or.inr (by decide))) (Eq.trans (congrFun (hV68 _ (K_old h55 hq64)) _) (Eq.trans (uq_ne e60 (Or.inr (by decide))) (Eq.trans (congrFun (hV53 _ (K_old h41 hq49)) _) (Eq.trans (uq_ne e45 (Or.inr (by decide))) (Eq.trans (congrFun (hV39 _ (K_old h28 hq35)) _) (uq_at e31)))))))))))))))), ⟨_, h123⟩⟩
    | 2, _ => exact ⟨_, (Eq.trans (hF136 _ _ _ h121 h121 (by decide +kernel)) (Eq.trans (uq_ne e134 (Or.inr (by decide))) (Eq.trans (uq_ne e132 (Or.inr (by decide))) (Eq.trans (uq_ne e130 (Or.inr (by decide))) (Eq.trans (congrFun (hV119 _ (K_old h103 hq115)) _) (Eq.trans (uq_ne e111 (Or.inr (by decide))) (Eq.trans (congrFun (hV101 _ (K_old h86 hq97)) _) (Eq.trans (uq_ne e93 (Or.inr (by decide))) (Eq.trans (congrFun (hV84 _ (K_old h70 hq80)) _) (Eq.trans (uq_ne e76 (Or.inr (by decide))) (Eq.trans (congrFun (hV68 _ (K_old h55 hq64)) _) (Eq.trans (uq_ne e60 (Or.inr (by decide))) (Eq.trans (congrFun (hV53 _ (K_old h41 hq49)) _) (uq_at e45)))))))))))))), ⟨_, h124⟩⟩
    | 3, _ => exact ⟨_, (Eq.trans (hF136 _ _ _ h121 h121 (by decide +kernel)) (Eq.trans (uq_ne e134 (Or.inr (by decide))) (Eq.trans (uq_ne e132 (Or.inr (by decide))) (Eq.trans (uq_ne e130 (Or.inr (by decide))) (Eq.trans (congrFun (hV119 _ (K_old h103 hq115)) _) (Eq.trans (uq_ne e111 (Or.inr (by decide))) (Eq.trans (congrFun (hV101 _ (K_old h86 hq97)) _) (Eq.trans (uq_ne e93 (Or.inr (by decide))) (Eq.trans (congrFun (hV84 _ (K_old h70 hq80)) _) (Eq.trans (uq_ne e76 (Or.inr (by decide))) (Eq.trans (congrFun (hV68 _ (K_old h55 hq64)) _) (uq_at e60)))))))))))), ⟨_, h125⟩⟩
    | 4, _ => exact ⟨_, (Eq.trans (hF136 _ _ _ h121 h121 (by decide +kernel)) (Eq.trans (uq_ne e134 (Or.inr (by decide))) (Eq.trans (uq_ne e132 (Or.inr (by decide))) (Eq.trans (uq_ne e130 (Or.inr (by decide))) (Eq.trans (congrFun (hV119 _ (K_old h103 hq115)) _) (Eq.trans (uq_ne e111 (Or.inr (by decide))) (Eq.trans (congrFun (hV101 _ (K_old h86 hq97)) _) (Eq.trans (uq_ne e93 (Or.inr (by decide))) (Eq.trans (congrFun (hV84 _ (K_old h70 hq80)) _) (uq_at e76)))))))))), ⟨_, h126⟩⟩
    | 5, _ => exact ⟨_, (Eq.trans (hF136 _ _ _ h121 h121 (by decide +kernel)) (Eq.trans (uq_ne e134 (Or.inr (by decide))) (Eq.trans (uq_ne e132 (Or.inr (by decide))) (Eq.trans (uq_ne e130 (Or.inr (by decide))) (Eq.trans (congrFun (hV119 _ (K_old h103 hq115)) _) (Eq.trans (uq_ne e111 (Or.inr (by decide))) (Eq.trans (congrFun (hV101 _ (K_old h86 hq97)) _) (uq_at e93)))))))), ⟨_, h127⟩⟩
    | 6, _ => exact ⟨_, (Eq.trans (hF136 _ _ _ h121 h121 (by decide +kernel)) (Eq.trans (uq_ne e134 (Or.inr (by decide))) (Eq.trans (uq_ne e132 (Or.inr (by decide))) (Eq.trans (uq_ne e130 (Or.inr (by decide))) (Eq.trans (congrFun (hV119 _ (K_old h103 hq115)) _) (uq_at e111)))))), ⟨_, h128⟩⟩
    | 7, _ => exact ⟨_, (Eq.trans (hF136 _ _ _ h121 h121 (by decide +kernel)) (Eq.trans (uq_ne e134 (Or.inr (by decide))) (Eq.trans (uq_ne e132 (Or.inr (by decide))) (uq_at e130)))), ⟨_, h118⟩⟩
    | 8, _ => exact okv_any (Eq.trans (hF136 _ _ _ h121 h121 (by decide +kernel)) (Eq.trans (uq_ne e134 (Or.inr (by decide))) (uq_at e132)))
    | 9, _ => exact okv_any (Eq.trans (hF136 _ _ _ h121 h121 (by decide +kernel)) (uq_at e134))
    | j + 10, hj => exact absurd hj (by omega)
  exact GO.retv rfl rfl dX6_init_95 ⟨rfl, h142, KE.promote (KE.new (KE.new (KE.new (KE.new (KE.new (KE.new (KE.new (KE.call (KE.new KE.rf hq3 hK4) h14.2 h10) hq22 hK23) hq35 hK36) hq49 hK50) hq64 hK65) hq80 hK81) hq97 hK98) hq115 hK116) e140⟩

set_option maxHeartbeats 1000000 in
theorem t_X8_init_k26 {K : Kmap} {V : Vmap} {x : Nat} {p0 : Int} {p1 : Int} (h_x : K x = some (0, 19)) (r_p0 : ir p0) (r_p1 : ir p1) (q_0 : p0 = 5) (q_1 : p1 = 200) : MC mX8_init_k26 K V [.ref x, ti p0, ti p1] (VX (fun K1 V1 => (K1 x = some (0, 26) ∧ vi V1 x 3 = 0) ∧ KE K K1 x)) := by
  refine MC.start 0 (by decide +kernel) rfl rfl rfl (ls0 := [some (.ref x), some (ti p0), some (ti p1)]) rfl ?_
  refine GO.aload_n dX8_init_0 rfl rfl ?_
  refine GO.objInit dX8_init_1 gw_103 gw_27 gw_28 rfl rfl ?_
  refine GO.aload_n dX8_init_4 rfl rfl ?_
  refine GO.iconst dX8_init_5 ?_
  refine GO.putRW rfl (by decide +kernel) h_x fp_raw_fp_RX8_9 rfl rfl dX8_init_6 (fun V2 e1 => ?_)
  refine GO.aload_n dX8_init_9 rfl rfl ?_
  refine GO.iload_n dX8_init_10 rfl rfl ?_
  refine GO.putRF rfl rfl (by decide +kernel) h_x fp_raw_fp_RX8_15 rfl rfl dX8_init_11 (fun V4 e3 => ?_)
  refine GO.aload_n dX8_init_14 rfl rfl ?_
  refine GO.iload_n dX8_init_15 rfl rfl ?_
  refine GO.putRF rfl rfl (by decide +kernel) h_x fp_raw_fp_RX8_18 rfl rfl dX8_init_16 (fun V6 e5 => ?_)
  refine GO.aload_n dX8_init_19 rfl rfl ?_
  refine GO.iconst dX8_init_20 ?_
  refine GO.iload_n dX8_init_21 rfl rfl ?_
  refine GO.iload_n dX8_init_22 rfl rfl ?_
  refine GO.imul dX8_init_23 ?_
  have q7 : -2147483648 ≤ p1 ∧ p1 ≤ 2147483647 := r_p1
  have q8 : -2147483648 ≤ p0 ∧ p0 ≤ 2147483647 := r_p0
  have m9 := mul_rng (a := p0) (b := p1) (A := 5) (B := 200) (by omega) (by omega) (by omega) (by omega)
  have m10 := mul_low (a := p0) (b := p1) (m := 5) (n := 200) (by omega) (by omega) (by omega) (by omega)
  refine GO.callS (N := mJ9_max_7cf53) dX8_init_24 gS_RX8_21 (t_J9_max_7cf53 (ir_c rfl) ⟨by omega, by omega⟩) rfl [.ref x] rfl rfl (Nat.le_of_ble_eq_true rfl) rfl (k_ip fun X11 r12 h13 => ?_)
  have q14 : -2147483648 ≤ X11 ∧ X11 ≤ 2147483647 := r12
  refine GO.newI gw_89 r12 (by omega) 1000 (by omega) rfl rfl rfl dX8_init_27 (fun o15 K16 V22 hq17 hK18 hE19 h20 _ hV21 => ?_)
  have h23 := (by rw [hK18, updK_ne (K_old h_x hq17)]; exact h_x : K16 x = some (0, 19))
  have h24 := KE.nw KE.rf h_x hq17
  refine GO.putRF rfl rfl (by decide +kernel) h23 fp_raw_fp_RX8_27 rfl rfl dX8_init_29 (fun V26 e25 => ?_)
  refine GO.promoteT 26 rfl rfl h23 (fun j hj => ?_) (fun K27 e28 hE29 h30 => ?_)
  ·
    have hj : j < 4 := hj
    match j, hj with
    | 0, _ => exact okv_at (Eq.trans (uq_ne e25 (Or.inr (by decide))) (Eq.trans (congrFun (hV21 _ (K_old h_x hq17)) _) (Eq.trans (uq_ne e5 (Or.inr (by decide))) (uq_at e3)))) r_p0 (by omega) (by omega)
    | 1, _ => exact okv_at (Eq.trans (uq_ne e25 (Or.inr (by decide))) (Eq.trans (congrFun (hV21 _ (K_old h_x hq17)) _) (uq_at e5))) r_p1 (by omega) (by omega)
    | 2, _ => exact ⟨_, (uq_at e25), ⟨_, h20⟩⟩
    | 3, _ => exact okv_at (Eq.trans (uq_ne e25 (Or.inr (by decide))) (Eq.trans (congrFun (hV21 _ (K_old h_x hq17)) _) (Eq.trans (uq_ne e5 (Or.inr (by decide))) (Eq.trans (uq_ne e3 (Or.inr (by decide))) (uq_at e1))))) (ir_c rfl) (by omega) (by omega)
    | j + 4, hj => exact absurd hj (by omega)
  exact GO.retv rfl rfl dX8_init_32 ⟨rfl, ⟨h30, vi_at (Eq.trans (uq_ne e25 (Or.inr (by decide))) (Eq.trans (congrFun (hV21 _ (K_old h_x hq17)) _) (Eq.trans (uq_ne e5 (Or.inr (by decide))) (Eq.trans (uq_ne e3 (Or.inr (by decide))) (uq_at e1))))) (ir_c rfl)⟩, KE.promote (KE.new KE.rf hq17 hK18) e28⟩

set_option maxHeartbeats 1000000 in
theorem t_X8_init_k25 {K : Kmap} {V : Vmap} {x : Nat} {p0 : Int} {p1 : Int} (h_x : K x = some (0, 19)) (r_p0 : ir p0) (r_p1 : ir p1) (q_0 : p0 = 1) (q_1 : p1 = 7) : MC mX8_init_k25 K V [.ref x, ti p0, ti p1] (VX (fun K1 V1 => (K1 x = some (0, 25) ∧ vi V1 x 3 = 0) ∧ KE K K1 x)) := by
  refine MC.start 0 (by decide +kernel) rfl rfl rfl (ls0 := [some (.ref x), some (ti p0), some (ti p1)]) rfl ?_
  refine GO.aload_n dX8_init_0 rfl rfl ?_
  refine GO.objInit dX8_init_1 gw_103 gw_27 gw_28 rfl rfl ?_
  refine GO.aload_n dX8_init_4 rfl rfl ?_
  refine GO.iconst dX8_init_5 ?_
  refine GO.putRW rfl (by decide +kernel) h_x fp_raw_fp_RX8_9 rfl rfl dX8_init_6 (fun V2 e1 => ?_)
  refine GO.aload_n dX8_init_9 rfl rfl ?_
  refine GO.iload_n dX8_init_10 rfl rfl ?_
  refine GO.putRF rfl rfl (by decide +kernel) h_x fp_raw_fp_RX8_15 rfl rfl dX8_init_11 (fun V4 e3 => ?_)
  refine GO.aload_n dX8_init_14 rfl rfl ?_
  refine GO.iload_n dX8_init_15 rfl rfl ?_
  refine GO.putRF rfl rfl (by decide +kernel) h_x fp_raw_fp_RX8_18 rfl rfl dX8_init_16 (fun V6 e5 => ?_)
  refine GO.aload_n dX8_init_19 rfl rfl ?_
  refine GO.iconst dX8_init_20 ?_
  refine GO.iload_n dX8_init_21 rfl rfl ?_
  refine GO.iload_n dX8_init_22 rfl rfl ?_
  refine GO.imul dX8_init_23 ?_
  have q7 : -2147483648 ≤ p1 ∧ p1 ≤ 2147483647 := r_p1
  have q8 : -2147483648 ≤ p0 ∧ p0 ≤ 2147483647 := r_p0
  have m9 := mul_rng (a := p0) (b := p1) (A := 1) (B := 7) (by omega) (by omega) (by omega) (by omega)
  have m10 := mul_low (a := p0) (b := p1) (m := 1) (n := 7) (by omega) (by omega) (by omega) (by omega)
  refine GO.callS (N := mJ9_max_7cf53) dX8_init_24 gS_RX8_21 (t_J9_max_7cf53 (ir_c rfl) ⟨by omega, by omega⟩) rfl [.ref x] rfl rfl (Nat.le_of_ble_eq_true rfl) rfl (k_ip fun X11 r12 h13 => ?_)
  have q14 : -2147483648 ≤ X11 ∧ X11 ≤ 2147483647 := r12
  refine GO.newI gw_89 r12 (by omega) 7 (by omega) rfl rfl rfl dX8_init_27 (fun o15 K16 V22 hq17 hK18 hE19 h20 _ hV21 => ?_)
  have h23 := (by rw [hK18, updK_ne (K_old h_x hq17)]; exact h_x : K16 x = some (0, 19))
  have h24 := KE.nw KE.rf h_x hq17
  refine GO.putRF rfl rfl (by decide +kernel) h23 fp_raw_fp_RX8_27 rfl rfl dX8_init_29 (fun V26 e25 => ?_)
  refine GO.promoteT 25 rfl rfl h23 (fun j hj => ?_) (fun K27 e28 hE29 h30 => ?_)
  ·
    have hj : j < 4 := hj
    match j, hj with
    | 0, _ => exact okv_at (Eq.trans (uq_ne e25 (Or.inr (by decide))) (Eq.trans (congrFun (hV21 _ (K_old h_x hq17)) _) (Eq.trans (uq_ne e5 (Or.inr (by decide))) (uq_at e3)))) r_p0 (by omega) (by omega)
    | 1, _ => exact okv_at (Eq.trans (uq_ne e25 (Or.inr (by decide))) (Eq.trans (congrFun (hV21 _ (K_old h_x hq17)) _) (uq_at e5))) r_p1 (by omega) (by omega)
    | 2, _ => exact ⟨_, (uq_at e25), ⟨_, h20⟩⟩
    | 3, _ => exact okv_at (Eq.trans (uq_ne e25 (Or.inr (by decide))) (Eq.trans (congrFun (hV21 _ (K_old h_x hq17)) _) (Eq.trans (uq_ne e5 (Or.inr (by decide))) (Eq.trans (uq_ne e3 (Or.inr (by decide))) (uq_at e1))))) (ir_c rfl) (by omega) (by omega)
    | j + 4, hj => exact absurd hj (by omega)
  exact GO.retv rfl rfl dX8_init_32 ⟨rfl, ⟨h30, vi_at (Eq.trans (uq_ne e25 (Or.inr (by decide))) (Eq.trans (congrFun (hV21 _ (K_old h_x hq17)) _) (Eq.trans (uq_ne e5 (Or.inr (by decide))) (Eq.trans (uq_ne e3 (Or.inr (by decide))) (uq_at e1))))) (ir_c rfl)⟩, KE.promote (KE.new KE.rf hq17 hK18) e28⟩

set_option maxHeartbeats 1000000 in
theorem t_X11_init {K : Kmap} {V : Vmap} {x : Nat} (h_x : K x = some (0, 22)) : MC mX11_init K V [.ref x] (VX (fun K1 V1 => (K1 x = some (0, 10) ∧ vi V1 x 4 = 0 ∧ vi V1 x 10 = 0 ∧ tdy V1 x = 0 ∧ wsz V1 x = 0 ∧ csz V1 x = 0) ∧ KE K K1 x)) := by
  refine MC.start 0 (by decide +kernel) rfl rfl rfl (ls0 := [some (.ref x)]) rfl ?_
  refine GO.aload_n dX11_init_0 rfl rfl ?_
  refine GO.objInit dX11_init_1 gw_26 gw_27 gw_28 rfl rfl ?_
  refine GO.aload_n dX11_init_4 rfl rfl ?_
  refine GO.new (ci := 12) (RX0, TX0, 13) tyX0 rfl rfl lays_0 tyX0_ok gw_29 gw_30 gw_2 rfl rfl dX11_init_5 (fun o1 K2 V8 hq3 hK4 hE5 h6 _ hV7 => ?_)
  have h9 := (by rw [hK4, updK_ne (K_old h_x hq3)]; exact h_x : K2 x = some (0, 22))
  have h10 := KE.nw KE.rf h_x hq3
  refine GO.dup dX11_init_8 rfl ?_
  refine GO.callI (N := mX0_init) dX11_init_9 gI_RX11_11 rfl (t_X0_init h6) rfl [.ref o1, .ref x] rfl rfl (Nat.le_of_ble_eq_true rfl) rfl (k_vx fun K13 V15 h14 hE12 hF11 => ?_)
  have h16 := h14.2 _ _ (K_ne h9 h6 (by decide)) h9
  have h17 := h14.1.1
  have q18 : vi V15 o1 0 = 0 := h14.1.2
  refine GO.putRF rfl rfl (by decide +kernel) h16 fp_raw_fp_RX11_12 rfl rfl dX11_init_12 (fun V20 e19 => ?_)
  refine GO.aload_n dX11_init_15 rfl rfl ?_
  refine GO.new (ci := 13) (RX1, TX1, 13) tyX1 rfl rfl lays_1 tyX1_ok gw_90 gw_91 gw_4 rfl rfl dX11_init_16 (fun o21 K22 V28 hq23 hK24 hE25 h26 _ hV27 => ?_)
  have h29 := (by rw [hK24, updK_ne (K_old h16 hq23)]; exact h16 : K22 x = some (0, 22))
  have h30 := hE25.obj (by decide) h17
  have h31 := KE.nw (KE.call (KE.new KE.rf hq3 hK4) h14.2 h10) h16 hq23
  refine GO.dup dX11_init_19 rfl ?_
  refine GO.callN (N := mX1_init) dX11_init_20 rfl gn_nest rfl rfl (t_X1_init h26) rfl [.ref o21, .ref x] rfl rfl (Nat.le_of_ble_eq_true rfl) rfl (k_vx fun K34 V36 h35 hE33 hF32 => ?_)
  have h37 := h35.2 _ _ (K_ne h29 h26 (by decide)) h29
  have h38 := h35.1
  have h39 := hE33.obj (by decide) h30
  refine GO.putRF rfl rfl (by decide +kernel) h37 fp_raw_fp_RX11_19 rfl rfl dX11_init_23 (fun V41 e40 => ?_)
  refine GO.aload_n dX11_init_26 rfl rfl ?_
  refine GO.new (ci := 17) (RX6, TX6, 10) tyX6 rfl rfl lays_5 tyX6_ok gw_172 gw_173 gw_7 rfl rfl dX11_init_27 (fun o42 K43 V49 hq44 hK45 hE46 h47 _ hV48 => ?_)
  have h50 := (by rw [hK45, updK_ne (K_old h37 hq44)]; exact h37 : K43 x = some (0, 22))
  have h51 := hE46.obj (by decide) h39
  have h52 := hE46.obj (by decide) h38
  have h53 := KE.nw (KE.call (KE.new (KE.call (KE.new KE.rf hq3 hK4) h14.2 h10) hq23 hK24) h35.2 h31) h37 hq44
  refine GO.dup dX11_init_30 rfl ?_
  refine GO.callI (N := mX6_init) dX11_init_31 gI_RX11_25 rfl (t_X6_init h47) rfl [.ref o42, .ref x] rfl rfl (Nat.le_of_ble_eq_true rfl) rfl (k_vx fun K56 V58 h57 hE55 hF54 => ?_)
  have h59 := h57.2 _ _ (K_ne h50 h47 (by decide)) h50
  have h60 := h57.1
  have h61 := hE55.obj (by decide) h51
  have h62 := hE55.obj (by decide) h52
  refine GO.putRF rfl rfl (by decide +kernel) h59 fp_raw_fp_RX11_26 rfl rfl dX11_init_34 (fun V64 e63 => ?_)
  refine GO.aload_n dX11_init_37 rfl rfl ?_
  refine GO.bipush dX11_init_38 rfl ?_
  refine GO.newQ 4 9 2 rfl rfl gw_219 (List.mem_of_getElem? (i := 0) rfl) rfl rfl (Or.inr rfl) rfl rfl rfl dX11_init_40 (fun o65 K66 V72 hq67 hK68 hE69 h70 _ hV71 => ?_)
  have h73 := (by rw [hK68, updK_ne (K_old h59 hq67)]; exact h59 : K66 x = some (0, 22))
  have h74 := hE69.obj (by decide) h61
  have h75 := hE69.obj (by decide) h62
  have h76 := hE69.obj (by decide) h60
  have h77 := KE.nw (KE.call (KE.new (KE.call (KE.new (KE.call (KE.new KE.rf hq3 hK4) h14.2 h10) hq23 hK24) h35.2 h31) hq44 hK45) h57.2 h53) h59 hq67
  refine GO.putRF rfl rfl (by decide +kernel) h73 fp_raw_fp_RX11_32 rfl rfl dX11_init_43 (fun V79 e78 => ?_)
  refine GO.aload_n dX11_init_46 rfl rfl ?_
  refine GO.iconst dX11_init_47 ?_
  refine GO.putRW rfl (by decide +kernel) h73 fp_raw_fp_RX11_36 rfl rfl dX11_init_48 (fun V81 e80 => ?_)
  refine GO.aload_n dX11_init_51 rfl rfl ?_
  refine GO.bipush dX11_init_52 rfl ?_
  refine GO.newQ 5 60 3 rfl rfl gw_221 (List.mem_of_getElem? (i := 1) rfl) rfl rfl (Or.inr rfl) rfl rfl rfl dX11_init_54 (fun o82 K83 V89 hq84 hK85 hE86 h87 _ hV88 => ?_)
  have h90 := (by rw [hK85, updK_ne (K_old h73 hq84)]; exact h73 : K83 x = some (0, 22))
  have h91 := hE86.obj (by decide) h74
  have h92 := hE86.obj (by decide) h75
  have h93 := hE86.obj (by decide) h76
  have h94 := hE86.arr h70
  have h95 := KE.nw (KE.new (KE.call (KE.new (KE.call (KE.new (KE.call (KE.new KE.rf hq3 hK4) h14.2 h10) hq23 hK24) h35.2 h31) hq44 hK45) h57.2 h53) hq67 hK68) h73 hq84
  refine GO.putRF rfl rfl (by decide +kernel) h90 fp_raw_fp_RX11_42 rfl rfl dX11_init_57 (fun V97 e96 => ?_)
  refine GO.aload_n dX11_init_60 rfl rfl ?_
  refine GO.iconst dX11_init_61 ?_
  refine GO.putRW rfl (by decide +kernel) h90 fp_raw_fp_RX11_46 rfl rfl dX11_init_62 (fun V99 e98 => ?_)
  refine GO.aload_n dX11_init_65 rfl rfl ?_
  refine GO.bipush dX11_init_66 rfl ?_
  refine GO.newQ 6 100 9 rfl rfl gw_223 (List.mem_of_getElem? (i := 2) rfl) rfl rfl (Or.inr rfl) rfl rfl rfl dX11_init_68 (fun o100 K101 V107 hq102 hK103 hE104 h105 _ hV106 => ?_)
  have h108 := (by rw [hK103, updK_ne (K_old h90 hq102)]; exact h90 : K101 x = some (0, 22))
  have h109 := hE104.obj (by decide) h91
  have h110 := hE104.obj (by decide) h92
  have h111 := hE104.obj (by decide) h93
  have h112 := hE104.arr h94
  have h113 := hE104.arr h87
  have h114 := KE.nw (KE.new (KE.new (KE.call (KE.new (KE.call (KE.new (KE.call (KE.new KE.rf hq3 hK4) h14.2 h10) hq23 hK24) h35.2 h31) hq44 hK45) h57.2 h53) hq67 hK68) hq84 hK85) h90 hq102
  refine GO.putRF rfl rfl (by decide +kernel) h108 fp_raw_fp_RX11_51 rfl rfl dX11_init_71 (fun V116 e115 => ?_)
  refine GO.aload_n dX11_init_74 rfl rfl ?_
  refine GO.iconst dX11_init_75 ?_
  refine GO.putRW rfl (by decide +kernel) h108 fp_raw_fp_RX11_55 rfl rfl dX11_init_76 (fun V118 e117 => ?_)
  refine GO.aload_n dX11_init_79 rfl rfl ?_
  refine GO.bipush dX11_init_80 rfl ?_
  refine GO.newQ 7 10 6 rfl rfl gw_225 (List.mem_of_getElem? (i := 3) rfl) rfl rfl (Or.inr rfl) rfl rfl rfl dX11_init_82 (fun o119 K120 V126 hq121 hK122 hE123 h124 _ hV125 => ?_)
  have h127 := (by rw [hK122, updK_ne (K_old h108 hq121)]; exact h108 : K120 x = some (0, 22))
  have h128 := hE123.obj (by decide) h109
  have h129 := hE123.obj (by decide) h110
  have h130 := hE123.obj (by decide) h111
  have h131 := hE123.arr h112
  have h132 := hE123.arr h113
  have h133 := hE123.arr h105
  have h134 := KE.nw (KE.new (KE.new (KE.new (KE.call (KE.new (KE.call (KE.new (KE.call (KE.new KE.rf hq3 hK4) h14.2 h10) hq23 hK24) h35.2 h31) hq44 hK45) h57.2 h53) hq67 hK68) hq84 hK85) hq102 hK103) h108 hq121
  refine GO.putRF rfl rfl (by decide +kernel) h127 fp_raw_fp_RX11_60 rfl rfl dX11_init_85 (fun V136 e135 => ?_)
  refine GO.aload_n dX11_init_88 rfl rfl ?_
  refine GO.iconst dX11_init_89 ?_
  refine GO.putRW rfl (by decide +kernel) h127 fp_raw_fp_RX11_64 rfl rfl dX11_init_90 (fun V138 e137 => ?_)
  refine GO.aload_n dX11_init_93 rfl rfl ?_
  refine GO.new (ci := 19) (RX8, TX8, 4) tyX8 rfl rfl lays_7 tyX8_ok gw_227 gw_99 gw_5 rfl rfl dX11_init_94 (fun o139 K140 V146 hq141 hK142 hE143 h144 _ hV145 => ?_)
  have h147 := (by rw [hK142, updK_ne (K_old h127 hq141)]; exact h127 : K140 x = some (0, 22))
  have h148 := hE143.obj (by decide) h128
  have h149 := hE143.obj (by decide) h129
  have h150 := hE143.obj (by decide) h130
  have h151 := hE143.arr h131
  have h152 := hE143.arr h132
  have h153 := hE143.arr h133
  have h154 := hE143.arr h124
  have h155 := KE.nw (KE.new (KE.new (KE.new (KE.new (KE.call (KE.new (KE.call (KE.new (KE.call (KE.new KE.rf hq3 hK4) h14.2 h10) hq23 hK24) h35.2 h31) hq44 hK45) h57.2 h53) hq67 hK68) hq84 hK85) hq102 hK103) hq121 hK122) h127 hq141
  refine GO.dup dX11_init_97 rfl ?_
  refine GO.iconst dX11_init_98 ?_
  refine GO.bipush dX11_init_99 rfl ?_
  refine GO.callI (N := mX8_init) dX11_init_101 gI_RX11_69 rfl (t_X8_init h144 (ir_c rfl) (ir_c rfl) (by omega) (by omega) (by omega) (by omega)) rfl [.ref o139, .ref x] rfl rfl (Nat.le_of_ble_eq_true rfl) rfl (k_vx fun K158 V160 h159 hE157 hF156 => ?_)
  have h161 := h159.2 _ _ (K_ne h147 h144 (by decide)) h147
  have h162 := h159.1
  have h163 := hE157.obj (by decide) h148
  have h164 := hE157.obj (by decide) h149
  have h165 := hE157.obj (by decide) h150
  have h166 := hE157.arr h151
  have h167 := hE157.arr h152
  have h168 := hE157.arr h153
  have h169 := hE157.arr h154
  refine GO.putRF rfl rfl (by decide +kernel) h161 fp_raw_fp_RX11_72 rfl rfl dX11_init_104 (fun V171 e170 => ?_)
  refine GO.aload_n dX11_init_107 rfl rfl ?_
  refine GO.new (ci := 19) (RX8, TX8, 4) tyX8 rfl rfl lays_7 tyX8_ok gw_227 gw_99 gw_5 rfl rfl dX11_init_108 (fun o172 K173 V179 hq174 hK175 hE176 h177 _ hV178 => ?_)
  have h180 := (by rw [hK175, updK_ne (K_old h161 hq174)]; exact h161 : K173 x = some (0, 22))
  have h181 := hE176.obj (by decide) h163
  have h182 := hE176.obj (by decide) h164
  have h183 := hE176.obj (by decide) h165
  have h184 := hE176.arr h166
  have h185 := hE176.arr h167
  have h186 := hE176.arr h168
  have h187 := hE176.arr h169
  have h188 := hE176.obj (by decide) h162
  have h189 := KE.nw (KE.call (KE.new (KE.new (KE.new (KE.new (KE.new (KE.call (KE.new (KE.call (KE.new (KE.call (KE.new KE.rf hq3 hK4) h14.2 h10) hq23 hK24) h35.2 h31) hq44 hK45) h57.2 h53) hq67 hK68) hq84 hK85) hq102 hK103) hq121 hK122) hq141 hK142) h159.2 h155) h161 hq174
  refine GO.dup dX11_init_111 rfl ?_
  refine GO.iconst dX11_init_112 ?_
  refine GO.bipush dX11_init_113 rfl ?_
  refine GO.callI (N := mX8_init) dX11_init_115 gI_RX11_69 rfl (t_X8_init h177 (ir_c rfl) (ir_c rfl) (by omega) (by omega) (by omega) (by omega)) rfl [.ref o172, .ref x] rfl rfl (Nat.le_of_ble_eq_true rfl) rfl (k_vx fun K192 V194 h193 hE191 hF190 => ?_)
  have h195 := h193.2 _ _ (K_ne h180 h177 (by decide)) h180
  have h196 := h193.1
  have h197 := hE191.obj (by decide) h181
  have h198 := hE191.obj (by decide) h182
  have h199 := hE191.obj (by decide) h183
  have h200 := hE191.arr h184
  have h201 := hE191.arr h185
  have h202 := hE191.arr h186
  have h203 := hE191.arr h187
  have h204 := hE191.obj (by decide) h188
  refine GO.putRF rfl rfl (by decide +kernel) h195 fp_raw_fp_RX11_76 rfl rfl dX11_init_118 (fun V206 e205 => ?_)
  refine GO.aload_n dX11_init_121 rfl rfl ?_
  refine GO.new (ci := 19) (RX8, TX8, 4) tyX8 rfl rfl lays_7 tyX8_ok gw_227 gw_99 gw_5 rfl rfl dX11_init_122 (fun o207 K208 V214 hq209 hK210 hE211 h212 _ hV213 => ?_)
  have h215 := (by rw [hK210, updK_ne (K_old h195 hq209)]; exact h195 : K208 x = some (0, 22))
  have h216 := hE211.obj (by decide) h197
  have h217 := hE211.obj (by decide) h198
  have h218 := hE211.obj (by decide) h199
  have h219 := hE211.arr h200
  have h220 := hE211.arr h201
  have h221 := hE211.arr h202
  have h222 := hE211.arr h203
  have h223 := hE211.obj (by decide) h204
  have h224 := hE211.obj (by decide) h196
  have h225 := KE.nw (KE.call (KE.new (KE.call (KE.new (KE.new (KE.new (KE.new (KE.new (KE.call (KE.new (KE.call (KE.new (KE.call (KE.new KE.rf hq3 hK4) h14.2 h10) hq23 hK24) h35.2 h31) hq44 hK45) h57.2 h53) hq67 hK68) hq84 hK85) hq102 hK103) hq121 hK122) hq141 hK142) h159.2 h155) hq174 hK175) h193.2 h189) h195 hq209
  refine GO.dup dX11_init_125 rfl ?_
  refine GO.iconst dX11_init_126 ?_
  refine GO.bipush dX11_init_127 rfl ?_
  refine GO.callI (N := mX8_init) dX11_init_129 gI_RX11_69 rfl (t_X8_init h212 (ir_c rfl) (ir_c rfl) (by omega) (by omega) (by omega) (by omega)) rfl [.ref o207, .ref x] rfl rfl (Nat.le_of_ble_eq_true rfl) rfl (k_vx fun K228 V230 h229 hE227 hF226 => ?_)
  have h231 := h229.2 _ _ (K_ne h215 h212 (by decide)) h215
  have h232 := h229.1
  have h233 := hE227.obj (by decide) h216
  have h234 := hE227.obj (by decide) h217
  have h235 := hE227.obj (by decide) h218
  have h236 := hE227.arr h219
  have h237 := hE227.arr h220
  have h238 := hE227.arr h221
  have h239 := hE227.arr h222
  have h240 := hE227.obj (by decide) h223
  have h241 := hE227.obj (by decide) h224
  refine GO.putRF rfl rfl (by decide +kernel) h231 fp_raw_fp_RX11_79 rfl rfl dX11_init_132 (fun V243 e242 => ?_)
  refine GO.aload_n dX11_init_135 rfl rfl ?_
  refine GO.new (ci := 19) (RX8, TX8, 4) tyX8 rfl rfl lays_7 tyX8_ok gw_227 gw_99 gw_5 rfl rfl dX11_init_136 (fun o244 K245 V251 hq246 hK247 hE248 h249 _ hV250 => ?_)
  have h252 := (by rw [hK247, updK_ne (K_old h231 hq246)]; exact h231 : K245 x = some (0, 22))
  have h253 := hE248.obj (by decide) h233
  have h254 := hE248.obj (by decide) h234
  have h255 := hE248.obj (by decide) h235
  have h256 := hE248.arr h236
  have h257 := hE248.arr h237
  have h258 := hE248.arr h238
  have h259 := hE248.arr h239
  have h260 := hE248.obj (by decide) h240
  have h261 := hE248.obj (by decide) h241
  have h262 := hE248.obj (by decide) h232
  have h263 := KE.nw (KE.call (KE.new (KE.call (KE.new (KE.call (KE.new (KE.new (KE.new (KE.new (KE.new (KE.call (KE.new (KE.call (KE.new (KE.call (KE.new KE.rf hq3 hK4) h14.2 h10) hq23 hK24) h35.2 h31) hq44 hK45) h57.2 h53) hq67 hK68) hq84 hK85) hq102 hK103) hq121 hK122) hq141 hK142) h159.2 h155) hq174 hK175) h193.2 h189) hq209 hK210) h229.2 h225) h231 hq246
  refine GO.dup dX11_init_139 rfl ?_
  refine GO.iconst dX11_init_140 ?_
  refine GO.sipush dX11_init_141 rfl ?_
  refine GO.callI (N := mX8_init_k26) dX11_init_144 gI_RX11_69 rfl (t_X8_init_k26 h249 (ir_c rfl) (ir_c rfl) (by omega) (by omega)) rfl [.ref o244, .ref x] rfl rfl (Nat.le_of_ble_eq_true rfl) rfl (k_vx fun K266 V268 h267 hE265 hF264 => ?_)
  have h269 := h267.2 _ _ (K_ne h252 h249 (by decide)) h252
  have h270 := h267.1.1
  have h271 := hE265.obj (by decide) h253
  have h272 := hE265.obj (by decide) h254
  have h273 := hE265.obj (by decide) h255
  have h274 := hE265.arr h256
  have h275 := hE265.arr h257
  have h276 := hE265.arr h258
  have h277 := hE265.arr h259
  have h278 := hE265.obj (by decide) h260
  have h279 := hE265.obj (by decide) h261
  have h280 := hE265.obj (by decide) h262
  have q281 : vi V268 o244 3 = 0 := h267.1.2
  refine GO.putRF rfl rfl (by decide +kernel) h269 fp_raw_fp_RX11_82 rfl rfl dX11_init_147 (fun V283 e282 => ?_)
  refine GO.aload_n dX11_init_150 rfl rfl ?_
  refine GO.new (ci := 19) (RX8, TX8, 4) tyX8 rfl rfl lays_7 tyX8_ok gw_227 gw_99 gw_5 rfl rfl dX11_init_151 (fun o284 K285 V291 hq286 hK287 hE288 h289 _ hV290 => ?_)
  have h292 := (by rw [hK287, updK_ne (K_old h269 hq286)]; exact h269 : K285 x = some (0, 22))
  have h293 := hE288.obj (by decide) h271
  have h294 := hE288.obj (by decide) h272
  have h295 := hE288.obj (by decide) h273
  have h296 := hE288.arr h274
  have h297 := hE288.arr h275
  have h298 := hE288.arr h276
  have h299 := hE288.arr h277
  have h300 := hE288.obj (by decide) h278
  have h301 := hE288.obj (by decide) h279
  have h302 := hE288.obj (by decide) h280
  have h303 := hE288.obj (by decide) h270
  have h304 := KE.nw (KE.call (KE.new (KE.call (KE.new (KE.call (KE.new (KE.call (KE.new (KE.new (KE.new (KE.new (KE.new (KE.call (KE.new (KE.call (KE.new (KE.call (KE.new KE.rf hq3 hK4) h14.2 h10) hq23 hK24) h35.2 h31) hq44 hK45) h57.2 h53) hq67 hK68) hq84 hK85) hq102 hK103) hq121 hK122) hq141 hK142) h159.2 h155) hq174 hK175) h193.2 h189) hq209 hK210) h229.2 h225) hq246 hK247) h267.2 h263) h269 hq286
  refine GO.dup dX11_init_154 rfl ?_
  refine GO.iconst dX11_init_155 ?_
  refine GO.sipush dX11_init_156 rfl ?_
  refine GO.callI (N := mX8_init) dX11_init_159 gI_RX11_69 rfl (t_X8_init h289 (ir_c rfl) (ir_c rfl) (by omega) (by omega) (by omega) (by omega)) rfl [.ref o284, .ref x] rfl rfl (Nat.le_of_ble_eq_true rfl) rfl (k_vx fun K307 V309 h308 hE306 hF305 => ?_)
  have h310 := h308.2 _ _ (K_ne h292 h289 (by decide)) h292
  have h311 := h308.1
  have h312 := hE306.obj (by decide) h293
  have h313 := hE306.obj (by decide) h294
  have h314 := hE306.obj (by decide) h295
  have h315 := hE306.arr h296
  have h316 := hE306.arr h297
  have h317 := hE306.arr h298
  have h318 := hE306.arr h299
  have h319 := hE306.obj (by decide) h300
  have h320 := hE306.obj (by decide) h301
  have h321 := hE306.obj (by decide) h302
  have h322 := hE306.obj (by decide) h303
  refine GO.putRF rfl rfl (by decide +kernel) h310 fp_raw_fp_RX11_85 rfl rfl dX11_init_162 (fun V324 e323 => ?_)
  refine GO.aload_n dX11_init_165 rfl rfl ?_
  refine GO.new (ci := 19) (RX8, TX8, 4) tyX8 rfl rfl lays_7 tyX8_ok gw_227 gw_99 gw_5 rfl rfl dX11_init_166 (fun o325 K326 V332 hq327 hK328 hE329 h330 _ hV331 => ?_)
  have h333 := (by rw [hK328, updK_ne (K_old h310 hq327)]; exact h310 : K326 x = some (0, 22))
  have h334 := hE329.obj (by decide) h312
  have h335 := hE329.obj (by decide) h313
  have h336 := hE329.obj (by decide) h314
  have h337 := hE329.arr h315
  have h338 := hE329.arr h316
  have h339 := hE329.arr h317
  have h340 := hE329.arr h318
  have h341 := hE329.obj (by decide) h319
  have h342 := hE329.obj (by decide) h320
  have h343 := hE329.obj (by decide) h321
  have h344 := hE329.obj (by decide) h322
  have h345 := hE329.obj (by decide) h311
  have h346 := KE.nw (KE.call (KE.new (KE.call (KE.new (KE.call (KE.new (KE.call (KE.new (KE.call (KE.new (KE.new (KE.new (KE.new (KE.new (KE.call (KE.new (KE.call (KE.new (KE.call (KE.new KE.rf hq3 hK4) h14.2 h10) hq23 hK24) h35.2 h31) hq44 hK45) h57.2 h53) hq67 hK68) hq84 hK85) hq102 hK103) hq121 hK122) hq141 hK142) h159.2 h155) hq174 hK175) h193.2 h189) hq209 hK210) h229.2 h225) hq246 hK247) h267.2 h263) hq286 hK287) h308.2 h304) h310 hq327
  refine GO.dup dX11_init_169 rfl ?_
  refine GO.iconst dX11_init_170 ?_
  refine GO.bipush dX11_init_171 rfl ?_
  refine GO.callI (N := mX8_init_k25) dX11_init_173 gI_RX11_69 rfl (t_X8_init_k25 h330 (ir_c rfl) (ir_c rfl) (by omega) (by omega)) rfl [.ref o325, .ref x] rfl rfl (Nat.le_of_ble_eq_true rfl) rfl (k_vx fun K349 V351 h350 hE348 hF347 => ?_)
  have h352 := h350.2 _ _ (K_ne h333 h330 (by decide)) h333
  have h353 := h350.1.1
  have h354 := hE348.obj (by decide) h334
  have h355 := hE348.obj (by decide) h335
  have h356 := hE348.obj (by decide) h336
  have h357 := hE348.arr h337
  have h358 := hE348.arr h338
  have h359 := hE348.arr h339
  have h360 := hE348.arr h340
  have h361 := hE348.obj (by decide) h341
  have h362 := hE348.obj (by decide) h342
  have h363 := hE348.obj (by decide) h343
  have h364 := hE348.obj (by decide) h344
  have h365 := hE348.obj (by decide) h345
  have q366 : vi V351 o325 3 = 0 := h350.1.2
  refine GO.putRF rfl rfl (by decide +kernel) h352 fp_raw_fp_RX11_88 rfl rfl dX11_init_176 (fun V368 e367 => ?_)
  refine GO.aload_n dX11_init_179 rfl rfl ?_
  refine GO.new (ci := 19) (RX8, TX8, 4) tyX8 rfl rfl lays_7 tyX8_ok gw_227 gw_99 gw_5 rfl rfl dX11_init_180 (fun o369 K370 V376 hq371 hK372 hE373 h374 _ hV375 => ?_)
  have h377 := (by rw [hK372, updK_ne (K_old h352 hq371)]; exact h352 : K370 x = some (0, 22))
  have h378 := hE373.obj (by decide) h354
  have h379 := hE373.obj (by decide) h355
  have h380 := hE373.obj (by decide) h356
  have h381 := hE373.arr h357
  have h382 := hE373.arr h358
  have h383 := hE373.arr h359
  have h384 := hE373.arr h360
  have h385 := hE373.obj (by decide) h361
  have h386 := hE373.obj (by decide) h362
  have h387 := hE373.obj (by decide) h363
  have h388 := hE373.obj (by decide) h364
  have h389 := hE373.obj (by decide) h365
  have h390 := hE373.obj (by decide) h353
  have h391 := KE.nw (KE.call (KE.new (KE.call (KE.new (KE.call (KE.new (KE.call (KE.new (KE.call (KE.new (KE.call (KE.new (KE.new (KE.new (KE.new (KE.new (KE.call (KE.new (KE.call (KE.new (KE.call (KE.new KE.rf hq3 hK4) h14.2 h10) hq23 hK24) h35.2 h31) hq44 hK45) h57.2 h53) hq67 hK68) hq84 hK85) hq102 hK103) hq121 hK122) hq141 hK142) h159.2 h155) hq174 hK175) h193.2 h189) hq209 hK210) h229.2 h225) hq246 hK247) h267.2 h263) hq286 hK287) h308.2 h304) hq327 hK328) h350.2 h346) h352 hq371
  refine GO.dup dX11_init_183 rfl ?_
  refine GO.iconst dX11_init_184 ?_
  refine GO.sipush dX11_init_185 rfl ?_
  refine GO.callI (N := mX8_init) dX11_init_188 gI_RX11_69 rfl (t_X8_init h374 (ir_c rfl) (ir_c rfl) (by omega) (by omega) (by omega) (by omega)) rfl [.ref o369, .ref x] rfl rfl (Nat.le_of_ble_eq_true rfl) rfl (k_vx fun K394 V396 h395 hE393 hF392 => ?_)
  have h397 := h395.2 _ _ (K_ne h377 h374 (by decide)) h377
  have h398 := h395.1
  have h399 := hE393.obj (by decide) h378
  have h400 := hE393.obj (by decide) h379
  have h401 := hE393.obj (by decide) h380
  have h402 := hE393.arr h381
  have h403 := hE393.arr h382
  have h404 := hE393.arr h383
  have h405 := hE393.arr h384
  have h406 := hE393.obj (by decide) h385
  have h407 := hE393.obj (by decide) h386
  have h408 := hE393.obj (by decide) h387
  have h409 := hE393.obj (by decide) h388
  have h410 := hE393.obj (by decide) h389
  have h411 := hE393.obj (by decide) h390
  refine GO.putRF rfl rfl (by decide +kernel) h397 fp_raw_fp_RX11_91 rfl rfl dX11_init_191 (fun V413 e412 => ?_)
  refine GO.aload_n dX11_init_194 rfl rfl ?_
  refine GO.bipush dX11_init_195 rfl ?_
  refine GO.newI gw_89 (ir_c rfl) (by omega) 11 (by omega) rfl rfl rfl dX11_init_197 (fun o414 K415 V421 hq416 hK417 hE418 h419 _ hV420 => ?_)
  have h422 := (by rw [hK417, updK_ne (K_old h397 hq416)]; exact h397 : K415 x = some (0, 22))
  have h423 := hE418.obj (by decide) h399
  have h424 := hE418.obj (by decide) h400
  have h425 := hE418.obj (by decide) h401
  have h426 := hE418.arr h402
  have h427 := hE418.arr h403
  have h428 := hE418.arr h404
  have h429 := hE418.arr h405
  have h430 := hE418.obj (by decide) h406
  have h431 := hE418.obj (by decide) h407
  have h432 := hE418.obj (by decide) h408
  have h433 := hE418.obj (by decide) h409
  have h434 := hE418.obj (by decide) h410
  have h435 := hE418.obj (by decide) h411
  have h436 := hE418.obj (by decide) h398
  have h437 := KE.nw (KE.call (KE.new (KE.call (KE.new (KE.call (KE.new (KE.call (KE.new (KE.call (KE.new (KE.call (KE.new (KE.call (KE.new (KE.new (KE.new (KE.new (KE.new (KE.call (KE.new (KE.call (KE.new (KE.call (KE.new KE.rf hq3 hK4) h14.2 h10) hq23 hK24) h35.2 h31) hq44 hK45) h57.2 h53) hq67 hK68) hq84 hK85) hq102 hK103) hq121 hK122) hq141 hK142) h159.2 h155) hq174 hK175) h193.2 h189) hq209 hK210) h229.2 h225) hq246 hK247) h267.2 h263) hq286 hK287) h308.2 h304) hq327 hK328) h350.2 h346) hq371 hK372) h395.2 h391) h397 hq416
  refine GO.putRF rfl rfl (by decide +kernel) h422 fp_raw_fp_RX11_94 rfl rfl dX11_init_199 (fun V439 e438 => ?_)
  refine GO.aload_n dX11_init_202 rfl rfl ?_
  refine GO.bipush dX11_init_203 rfl ?_
  refine GO.newT (atype := .long) 1 8 gw_294 rfl rfl (fun _ _ h => h) rfl rfl rfl (Or.inr rfl) (fun _ => ⟨0, rfl⟩) rfl rfl dX11_init_205 (fun o440 K441 V447 hq442 hK443 hE444 h445 _ hV446 => ?_)
  have h448 := (by rw [hK443, updK_ne (K_old h422 hq442)]; exact h422 : K441 x = some (0, 22))
  have h449 := hE444.obj (by decide) h423
  have h450 := hE444.obj (by decide) h424
  have h451 := hE444.obj (by decide) h425
  have h452 := hE444.arr h426
  have h453 := hE444.arr h427
  have h454 := hE444.arr h428
  have h455 := hE444.arr h429
  have h456 := hE444.obj (by decide) h430
  have h457 := hE444.obj (by decide) h431
  have h458 := hE444.obj (by decide) h432
  have h459 := hE444.obj (by decide) h433
  have h460 := hE444.obj (by decide) h434
  have h461 := hE444.obj (by decide) h435
  have h462 := hE444.obj (by decide) h436
  have h463 := hE444.arr h419
  have h464 := KE.nw (KE.new (KE.call (KE.new (KE.call (KE.new (KE.call (KE.new (KE.call (KE.new (KE.call (KE.new (KE.call (KE.new (KE.call (KE.new (KE.new (KE.new (KE.new (KE.new (KE.call (KE.new (KE.call (KE.new (KE.call (KE.new KE.rf hq3 hK4) h14.2 h10) hq23 hK24) h35.2 h31) hq44 hK45) h57.2 h53) hq67 hK68) hq84 hK85) hq102 hK103) hq121 hK122) hq141 hK142) h159.2 h155) hq174 hK175) h193.2 h189) hq209 hK210) h229.2 h225) hq246 hK247) h267.2 h263) hq286 hK287) h308.2 h304) hq327 hK328) h350.2 h346) hq371 hK372) h395.2 h391) hq416 hK417) h422 hq442
  refine GO.putRF rfl rfl (by decide +kernel) h448 fp_raw_fp_RX11_98 rfl rfl dX11_init_207 (fun V466 e465 => ?_)
  refine GO.aload_n dX11_init_210 rfl rfl ?_
  refine GO.getRaw h448 fl_raw_fl_RX11_94 (Eq.trans (uq_ne e465 (Or.inr (by decide))) (Eq.trans (congrFun (hV446 _ (K_old h422 hq442)) _) (uq_at e438))) dX11_init_211 ?_
  refine GO.bipush dX11_init_214 rfl ?_
  refine GO.callS (N := mX4_fill) dX11_init_216 gS_RX11_102 (t_X4_fill h463 (ir_c rfl)) rfl [] rfl rfl (Nat.le_of_ble_eq_true rfl) rfl (k_vs fun V469 h468 hF467 => ?_)
  refine GO.aload_n dX11_init_219 rfl rfl ?_
  refine GO.getRaw h448 fl_raw_fl_RX11_94 (Eq.trans (hF467 _ _ _ h448 h448 (by decide +kernel)) (Eq.trans (uq_ne e465 (Or.inr (by decide))) (Eq.trans (congrFun (hV446 _ (K_old h422 hq442)) _) (uq_at e438)))) dX11_init_220 ?_
  refine GO.bipush dX11_init_223 rfl ?_
  refine GO.bipush dX11_init_225 rfl ?_
  refine GO.callS (N := mX4_put) dX11_init_227 gS_RX11_108 (t_X4_put h463 (ir_c rfl) (ir_c rfl)) rfl [] rfl rfl (Nat.le_of_ble_eq_true rfl) rfl (k_vs fun V472 h471 hF470 => ?_)
  refine GO.promote (ci := 10) rfl h448 (fun j hj => ?_) (fun K473 e474 hE475 h476 => ?_)
  ·
    have hj : j < 20 := hj
    match j, hj with
    | 0, _ => exact ⟨_, (Eq.trans (hF470 _ _ _ h448 h448 (by decide +kernel)) (Eq.trans (hF467 _ _ _ h448 h448 (by decide +kernel)) (Eq.trans (uq_ne e465 (Or.inr (by decide))) (Eq.trans (congrFun (hV446 _ (K_old h422 hq442)) _) (Eq.trans (uq_ne e438 (Or.inr (by decide))) (Eq.trans (congrFun (hV420 _ (K_old h397 hq416)) _) (Eq.trans (uq_ne e412 (Or.inr (by decide))) (Eq.trans (hF392 _ _ _ h377 h397 (by decide +kernel)) (Eq.trans (congrFun (hV375 _ (K_old h352 hq371)) _) (Eq.trans (uq_ne e367 (Or.inr (by decide))) (Eq.trans (hF347 _ _ _ h333 h352 (by decide +kernel)) (Eq.trans (congrFun (hV331 _ (K_old h310 hq327)) _) (Eq.trans (uq_ne e323 (Or.inr (by decide))) (Eq.trans (hF305 _ _ _ h292 h310 (by decide +kernel)) (Eq.trans (congrFun (hV290 _ (K_old h269 hq286)) _) (Eq.trans (uq_ne e282 (Or.inr (by decide))) (Eq.trans (hF264 _ _ _ h252 h269 (by decide +kernel)) (Eq.trans (congrFun (hV250 _ (K_old h231 hq246)) _) (Eq.trans (uq_ne e242 (Or.inr (by decide))) (Eq.trans (hF226 _ _ _ h215 h231 (by decide +kernel)) (Eq.trans (congrFun (hV213 _ (K_old h195 hq209)) _) (Eq.trans (uq_ne e205 (Or.inr (by decide))) (Eq.trans (hF190 _ _ _ h180 h195 (by decide +kernel)) (Eq.trans (congrFun (hV178 _ (K_old h161 hq174)) _) (Eq.trans (uq_ne e170 (Or.inr (by decide))) (Eq.trans (hF156 _ _ _ h147 h161 (by decide +kernel)) (Eq.trans (congrFun (hV145 _ (K_old h127 hq141)) _) (Eq.trans (uq_ne e137 (Or.inr (by decide))) (Eq.trans (uq_ne e135 (Or.inr (by decide))) (Eq.trans (congrFun (hV125 _ (K_old h108 hq121)) _) (Eq.trans (uq_ne e117 (Or.inr (by decide))) (Eq.trans (uq_ne e115 (Or.inr (by decide))) (Eq.trans (congrFun (hV106 _ (K_old h90 hq102)) _) (Eq.trans (uq_ne e98 (Or.inr (by decide))) (Eq.trans (uq_ne e96 (Or.inr (by decide))) (Eq.trans (congrFun (hV88 _ (K_old h73 hq84)) _) (Eq.trans (uq_ne e80 (Or.inr (by decide))) (Eq.trans (uq_ne e78 (Or.inr (by decide))) (Eq.trans (congrFun (hV71 _ (K_old h59 hq67)) _) (Eq.trans (uq_ne e63 (Or.inr (by decide))) (Eq.trans (hF54 _ _ _ h50 h59 (by decide +kernel)) (Eq.trans (congrFun (hV48 _ (K_old h37 hq44)) _) (Eq.trans (uq_ne e40 (Or.inr (by decide))) (Eq.trans (hF32 _ _ _ h29 h37 (by decide +kernel)) (Eq.trans (congrFun (hV27 _ (K_old h16 hq23)) _) (uq_at e19)))))))))))))))))))))))))))))))))))))))))))))), h449⟩
    | 1, _ => exact ⟨_, (Eq.trans (hF470 _ _ _ h448 h448 (by decide +kernel)) (Eq.trans (hF467 _ _ _ h448 h448 (by decide +kernel)) (Eq.trans (uq_ne e465 (Or.inr (by decide))) (Eq.trans (congrFun (hV446 _ (K_old h422 hq442)) _) (Eq.trans (uq_ne e438 (Or.inr (by decide))) (Eq.trans (congrFun (hV420 _ (K_old h397 hq416)) _) (Eq.trans (uq_ne e412 (Or.inr (by decide))) (Eq.trans (hF392 _ _ _ h377 h397 (by decide +kernel)) (Eq.trans (congrFun (hV375 _ (K_old h352 hq371)) _) (Eq.trans (uq_ne e367 (Or.inr (by decide))) (Eq.trans (hF347 _ _ _ h333 h352 (by decide +kernel)) (Eq.trans (congrFun (hV331 _ (K_old h310 hq327)) _) (Eq.trans (uq_ne e323 (Or.inr (by decide))) (Eq.trans (hF305 _ _ _ h292 h310 (by decide +kernel)) (Eq.trans (congrFun (hV290 _ (K_old h269 hq286)) _) (Eq.trans (uq_ne e282 (Or.inr (by decide))) (Eq.trans (hF264 _ _ _ h252 h269 (by decide +kernel)) (Eq.trans (congrFun (hV250 _ (K_old h231 hq246)) _) (Eq.trans (uq_ne e242 (Or.inr (by decide))) (Eq.trans (hF226 _ _ _ h215 h231 (by decide +kernel)) (Eq.trans (congrFun (hV213 _ (K_old h195 hq209)) _) (Eq.trans (uq_ne e205 (Or.inr (by decide))) (Eq.trans (hF190 _ _ _ h180 h195 (by decide +kernel)) (Eq.trans (congrFun (hV178 _ (K_old h161 hq174)) _) (Eq.trans (uq_ne e170 (Or.inr (by decide))) (Eq.trans (hF156 _ _ _ h147 h161 (by decide +kernel)) (Eq.trans (congrFun (hV145 _ (K_old h127 hq141)) _) (Eq.trans (uq_ne e137 (Or.inr (by decide))) (Eq.trans (uq_ne e135 (Or.inr (by decide))) (Eq.trans (congrFun (hV125 _ (K_old h108 hq121)) _) (Eq.trans (uq_ne e117 (Or.inr (by decide))) (Eq.trans (uq_ne e115 (Or.inr (by decide))) (Eq.trans (congrFun (hV106 _ (K_old h90 hq102)) _) (Eq.trans (uq_ne e98 (Or.inr (by decide))) (Eq.trans (uq_ne e96 (Or.inr (by decide))) (Eq.trans (congrFun (hV88 _ (K_old h73 hq84)) _) (Eq.trans (uq_ne e80 (Or.inr (by decide))) (Eq.trans (uq_ne e78 (Or.inr (by decide))) (Eq.trans (congrFun (hV71 _ (K_old h59 hq67)) _) (Eq.trans (uq_ne e63 (Or.inr (by decide))) (Eq.trans (hF54 _ _ _ h50 h59 (by decide +kernel)) (Eq.trans (congrFun (hV48 _ (K_old h37 hq44)) _) (uq_at e40))))))))))))))))))))))))))))))))))))))))))), h450⟩
    | 2, _ => exact ⟨_, (Eq.trans (hF470 _ _ _ h448 h448 (by decide +kernel)) (Eq.trans (hF467 _ _ _ h448 h448 (by decide +kernel)) (Eq.trans (uq_ne e465 (Or.inr (by decide))) (Eq.trans (congrFun (hV446 _ (K_old h422 hq442)) _) (Eq.trans (uq_ne e438 (Or.inr (by decide))) (Eq.trans (congrFun (hV420 _ (K_old h397 hq416)) _) (Eq.trans (uq_ne e412 (Or.inr (by decide))) (Eq.trans (hF392 _ _ _ h377 h397 (by decide +kernel)) (Eq.trans (congrFun (hV375 _ (K_old h352 hq371)) _) (Eq.trans (uq_ne e367 (Or.inr (by decide))) (Eq.trans (hF347 _ _ _ h333 h352 (by decide +kernel)) (Eq.trans (congrFun (hV331 _ (K_old h310 hq327)) _) (Eq.trans (uq_ne e323 (Or.inr (by decide))) (Eq.trans (hF305 _ _ _ h292 h310 (by decide +kernel)) (Eq.trans (congrFun (hV290 _ (K_old h269 hq286)) _) (Eq.trans (uq_ne e282 (Or.inr (by decide))) (Eq.trans (hF264 _ _ _ h252 h269 (by decide +kernel)) (Eq.trans (congrFun (hV250 _ (K_old h231 hq246)) _) (Eq.trans (uq_ne e242 (Or.inr (by decide))) (Eq.trans (hF226 _ _ _ h215 h231 (by decide +kernel)) (Eq.trans (congrFun (hV213 _ (K_old h195 hq209)) _) (Eq.trans (uq_ne e205 (Or.inr (by decide))) (Eq.trans (hF190 _ _ _ h180 h195 (by decide +kernel)) (Eq.trans (congrFun (hV178 _ (K_old h161 hq174)) _) (Eq.trans (uq_ne e170 (Or.inr (by decide))) (Eq.trans (hF156 _ _ _ h147 h161 (by decide +kernel)) (Eq.trans (congrFun (hV145 _ (K_old h127 hq141)) _) (Eq.trans (uq_ne e137 (Or.inr (by decide))) (Eq.trans (uq_ne e135 (Or.inr (by decide))) (Eq.trans (congrFun (hV125 _ (K_old h108 hq121)) _) (Eq.trans (uq_ne e117 (Or.inr (by decide))) (Eq.trans (uq_ne e115 (Or.inr (by decide))) (Eq.trans (congrFun (hV106 _ (K_old h90 hq102)) _) (Eq.trans (uq_ne e98 (Or.inr (by decide))) (Eq.trans (uq_ne e96 (Or.inr (by decide))) (Eq.trans (congrFun (hV88 _ (K_old h73 hq84)) _) (Eq.trans (uq_ne e80 (Or.inr (by decide))) (Eq.trans (uq_ne e78 (Or.inr (by decide))) (Eq.trans (congrFun (hV71 _ (K_old h59 hq67)) _) (uq_at e63)))))))))))))))))))))))))))))))))))))))), h451⟩
    | 3, _ => exact ⟨_, (Eq.trans (hF470 _ _ _ h448 h448 (by decide +kernel)) (Eq.trans (hF467 _ _ _ h448 h448 (by decide +kernel)) (Eq.trans (uq_ne e465 (Or.inr (by decide))) (Eq.trans (congrFun (hV446 _ (K_old h422 hq442)) _) (Eq.trans (uq_ne e438 (Or.inr (by decide))) (Eq.trans (congrFun (hV420 _ (K_old h397 hq416)) _) (Eq.trans (uq_ne e412 (Or.inr (by decide))) (Eq.trans (hF392 _ _ _ h377 h397 (by decide +kernel)) (Eq.trans (congrFun (hV375 _ (K_old h352 hq371)) _) (Eq.trans (uq_ne e367 (Or.inr (by decide))) (Eq.trans (hF347 _ _ _ h333 h352 (by decide +kernel)) (Eq.trans (congrFun (hV331 _ (K_old h310 hq327)) _) (Eq.trans (uq_ne e323 (Or.inr (by decide))) (Eq.trans (hF305 _ _ _ h292 h310 (by decide +kernel)) (Eq.trans (congrFun (hV290 _ (K_old h269 hq286)) _) (Eq.trans (uq_ne e282 (Or.inr (by decide))) (Eq.trans (hF264 _ _ _ h252 h269 (by decide +kernel)) (Eq.trans (congrFun (hV250 _ (K_old h231 hq246)) _) (Eq.trans (uq_ne e242 (Or.inr (by decide))) (Eq.trans (hF226 _ _ _ h215 h231 (by decide +kernel)) (Eq.trans (congrFun (hV213 _ (K_old h195 hq209)) _) (Eq.trans (uq_ne e205 (Or.inr (by decide))) (Eq.trans (hF190 _ _ _ h180 h195 (by decide +kernel)) (Eq.trans (congrFun (hV178 _ (K_old h161 hq174)) _) (Eq.trans (uq_ne e170 (Or.inr (by decide))) (Eq.trans (hF156 _ _ _ h147 h161 (by decide +kernel)) (Eq.trans (congrFun (hV145 _ (K_old h127 hq141)) _) (Eq.trans (uq_ne e137 (Or.inr (by decide))) (Eq.trans (uq_ne e135 (Or.inr (by decide))) (Eq.trans (congrFun (hV125 _ (K_old h108 hq121)) _) (Eq.trans (uq_ne e117 (Or.inr (by decide))) (Eq.trans (uq_ne e115 (Or.inr (by decide))) (Eq.trans (congrFun (hV106 _ (K_old h90 hq102)) _) (Eq.trans (uq_ne e98 (Or.inr (by decide))) (Eq.trans (uq_ne e96 (Or.inr (by decide))) (Eq.trans (congrFun (hV88 _ (K_old h73 hq84)) _) (Eq.trans (uq_ne e80 (Or.inr (by decide))) (uq_at e78)))))))))))))))))))))))))))))))))))))), ⟨_, h452⟩⟩
    | 4, _ => exact okv_at (Eq.trans (hF470 _ _ _ h448 h448 (by decide +kernel)) (Eq.trans (hF467 _ _ _ h448 h448 (by decide +kernel)) (Eq.trans (uq_ne e465 (Or.inr (by decide))) (Eq.trans (congrFun (hV446 _ (K_old h422 hq442)) _) (Eq.trans (uq_ne e438 (Or.inr (by decide))) (Eq.trans (congrFun (hV420 _ (K_old h397 hq416)) _) (Eq.trans (uq_ne e412 (Or.inr (by decide))) (Eq.trans (hF392 _ _ _ h377 h397 (by decide +kernel)) (Eq.trans (congrFun (hV375 _ (K_old h352 hq371)) _) (Eq.trans (uq_ne e367 (Or.inr (by decide))) (Eq.trans (hF347 _ _ _ h333 h352 (by decide +kernel)) (Eq.trans (congrFun (hV331 _ (K_old h310 hq327)) _) (Eq.trans (uq_ne e323 (Or.inr (by decide))) (Eq.trans (hF305 _ _ _ h292 h310 (by decide +kernel)) (Eq.trans (congrFun (hV290 _ (K_old h269 hq286)) _) (Eq.trans (uq_ne e282 (Or.inr (by decide))) (Eq.trans (hF264 _ _ _ h252 h269 (by decide +kernel)) (Eq.trans (congrFun (hV250 _ (K_old h231 hq246)) _) (Eq.trans (uq_ne e242 (Or.inr (by decide))) (Eq.trans (hF226 _ _ _ h215 h231 (by decide +kernel)) (Eq.trans (congrFun (hV213 _ (K_old h195 hq209)) _) (Eq.trans (uq_ne e205 (Or.inr (by decide))) (Eq.trans (hF190 _ _ _ h180 h195 (by decide +kernel)) (Eq.trans (congrFun (hV178 _ (K_old h161 hq174)) _) (Eq.trans (uq_ne e170 (Or.inr (by decide))) (Eq.trans (hF156 _ _ _ h147 h161 (by decide +kernel)) (Eq.trans (congrFun (hV145 _ (K_old h127 hq141)) _) (Eq.trans (uq_ne e137 (Or.inr (by decide))) (Eq.trans (uq_ne e135 (Or.inr (by decide))) (Eq.trans (congrFun (hV125 _ (K_old h108 hq121)) _) (Eq.trans (uq_ne e117 (Or.inr (by decide))) (Eq.trans (uq_ne e115 (Or.inr (by decide))) (Eq.trans (congrFun (hV106 _ (K_old h90 hq102)) _) (Eq.trans (uq_ne e98 (Or.inr (by decide))) (Eq.trans (uq_ne e96 (Or.inr (by decide))) (Eq.trans (congrFun (hV88 _ (K_old h73 hq84)) _) (uq_at e80))))))))))))))))))))))))))))))))))))) (ir_c rfl) (by omega) (by omega)
    | 5, _ => exact ⟨_, (Eq.trans (hF470 _ _ _ h448 h448 (by decide +kernel)) (Eq.trans (hF467 _ _ _ h448 h448 (by decide +kernel)) (Eq.trans (uq_ne e465 (Or.inr (by decide))) (Eq.trans (congrFun (hV446 _ (K_old h422 hq442)) _) (Eq.trans (uq_ne e438 (Or.inr (by decide))) (Eq.trans (congrFun (hV420 _ (K_old h397 hq416)) _) (Eq.trans (uq_ne e412 (Or.inr (by decide))) (Eq.trans (hF392 _ _ _ h377 h397 (by decide +kernel)) (Eq.trans (congrFun (hV375 _ (K_old h352 hq371)) _) (Eq.trans (uq_ne e367 (Or.inr (by decide))) (Eq.trans (hF347 _ _ _ h333 h352 (by decide +kernel)) (Eq.trans (congrFun (hV331 _ (K_old h310 hq327)) _) (Eq.trans (uq_ne e323 (Or.inr (by decide))) (Eq.trans (hF305 _ _ _ h292 h310 (by decide +kernel)) (Eq.trans (congrFun (hV290 _ (K_old h269 hq286)) _) (Eq.trans (uq_ne e282 (Or.inr (by decide))) (Eq.trans (hF264 _ _ _ h252 h269 (by decide +kernel)) (Eq.trans (congrFun (hV250 _ (K_old h231 hq246)) _) (Eq.trans (uq_ne e242 (Or.inr (by decide))) (Eq.trans (hF226 _ _ _ h215 h231 (by decide +kernel)) (Eq.trans (congrFun (hV213 _ (K_old h195 hq209)) _) (Eq.trans (uq_ne e205 (Or.inr (by decide))) (Eq.trans (hF190 _ _ _ h180 h195 (by decide +kernel)) (Eq.trans (congrFun (hV178 _ (K_old h161 hq174)) _) (Eq.trans (uq_ne e170 (Or.inr (by decide))) (Eq.trans (hF156 _ _ _ h147 h161 (by decide +kernel)) (Eq.trans (congrFun (hV145 _ (K_old h127 hq141)) _) (Eq.trans (uq_ne e137 (Or.inr (by decide))) (Eq.trans (uq_ne e135 (Or.inr (by decide))) (Eq.trans (congrFun (hV125 _ (K_old h108 hq121)) _) (Eq.trans (uq_ne e117 (Or.inr (by decide))) (Eq.trans (uq_ne e115 (Or.inr (by decide))) (Eq.trans (congrFun (hV106 _ (K_old h90 hq102)) _) (Eq.trans (uq_ne e98 (Or.inr (by decide))) (uq_at e96))))))))))))))))))))))))))))))))))), ⟨_, h453⟩⟩
    | 6, _ => exact okv_at (Eq.trans (hF470 _ _ _ h448 h448 (by decide +kernel)) (Eq.trans (hF467 _ _ _ h448 h448 (by decide +kernel)) (Eq.trans (uq_ne e465 (Or.inr (by decide))) (Eq.trans (congrFun (hV446 _ (K_old h422 hq442)) _) (Eq.trans (uq_ne e438 (Or.inr (by decide))) (Eq.trans (congrFun (hV420 _ (K_old h397 hq416)) _) (Eq.trans (uq_ne e412 (Or.inr (by decide))) (Eq.trans (hF392 _ _ _ h377 h397 (by decide +kernel)) (Eq.trans (congrFun (hV375 _ (K_old h352 hq371)) _) (Eq.trans (uq_ne e367 (Or.inr (by decide))) (Eq.trans (hF347 _ _ _ h333 h352 (by decide +kernel)) (Eq.trans (congrFun (hV331 _ (K_old h310 hq327)) _) (Eq.trans (uq_ne e323 (Or.inr (by decide))) (Eq.trans (hF305 _ _ _ h292 h310 (by decide +kernel)) (Eq.trans (congrFun (hV290 _ (K_old h269 hq286)) _) (Eq.trans (uq_ne e282 (Or.inr (by decide))) (Eq.trans (hF264 _ _ _ h252 h269 (by decide +kernel)) (Eq.trans (congrFun (hV250 _ (K_old h231 hq246)) _) (Eq.trans (uq_ne e242 (Or.inr (by decide))) (Eq.trans (hF226 _ _ _ h215 h231 (by decide +kernel)) (Eq.trans (congrFun (hV213 _ (K_old h195 hq209)) _) (Eq.trans (uq_ne e205 (Or.inr (by decide))) (Eq.trans (hF190 _ _ _ h180 h195 (by decide +kernel)) (Eq.trans (congrFun (hV178 _ (K_old h161 hq174)) _) (Eq.trans (uq_ne e170 (Or.inr (by decide))) (Eq.trans (hF156 _ _ _ h147 h161 (by decide +kernel)) (Eq.trans (congrFun (hV145 _ (K_old h127 hq141)) _) (Eq.trans (uq_ne e137 (Or.inr (by decide))) (Eq.trans (uq_ne e135 (Or.inr (by decide))) (Eq.trans (congrFun (hV125 _ (K_old h108 hq121)) _) (Eq.trans (uq_ne e117 (Or.inr (by decide))) (Eq.trans (uq_ne e115 (Or.inr (by decide))) (Eq.trans (congrFun (hV106 _ (K_old h90 hq102)) _) (uq_at e98)))))))))))))))))))))))))))))))))) (ir_c rfl) (by omega) (by omega)
    | 7, _ => exact ⟨_, (Eq.trans (hF470 _ _ _ h448 h448 (by decide +kernel)) (Eq.trans (hF467 _ _ _ h448 h448 (by decide +kernel)) (Eq.trans (uq_ne e465 (Or.inr (by decide))) (Eq.trans (congrFun (hV446 _ (K_old h422 hq442)) _) (Eq.trans (uq_ne e438 (Or.inr (by decide))) (Eq.trans (congrFun (hV420 _ (K_old h397 hq416)) _) (Eq.trans (uq_ne e412 (Or.inr (by decide))) (Eq.trans (hF392 _ _ _ h377 h397 (by decide +kernel)) (Eq.trans (congrFun (hV375 _ (K_old h352 hq371)) _) (Eq.trans (uq_ne e367 (Or.inr (by decide))) (Eq.trans (hF347 _ _ _ h333 h352 (by decide +kernel)) (Eq.trans (congrFun (hV331 _ (K_old h310 hq327)) _) (Eq.trans (uq_ne e323 (Or.inr (by decide))) (Eq.trans (hF305 _ _ _ h292 h310 (by decide +kernel)) (Eq.trans (congrFun (hV290 _ (K_old h269 hq286)) _) (Eq.trans (uq_ne e282 (Or.inr (by decide))) (Eq.trans (hF264 _ _ _ h252 h269 (by decide +kernel)) (Eq.trans (congrFun (hV250 _ (K_old h231 hq246)) _) (Eq.trans (uq_ne e242 (Or.inr (by decide))) (Eq.trans (hF226 _ _ _ h215 h231 (by decide +kernel)) (Eq.trans (congrFun (hV213 _ (K_old h195 hq209)) _) (Eq.trans (uq_ne e205 (Or.inr (by decide))) (Eq.trans (hF190 _ _ _ h180 h195 (by decide +kernel)) (Eq.trans (congrFun (hV178 _ (K_old h161 hq174)) _) (Eq.trans (uq_ne e170 (Or.inr (by decide))) (Eq.trans (hF156 _ _ _ h147 h161 (by decide +kernel)) (Eq.trans (congrFun (hV145 _ (K_old h127 hq141)) _) (Eq.trans (uq_ne e137 (Or.inr (by decide))) (Eq.trans (uq_ne e135 (Or.inr (by decide))) (Eq.trans (congrFun (hV125 _ (K_old h108 hq121)) _) (Eq.trans (uq_ne e117 (Or.inr (by decide))) (uq_at e115)))))))))))))))))))))))))))))))), ⟨_, h454⟩⟩
    | 8, _ => exact okv_at (Eq.trans (hF470 _ _ _ h448 h448 (by decide +kernel)) (Eq.trans (hF467 _ _ _ h448 h448 (by decide +kernel)) (Eq.trans (uq_ne e465 (Or.inr (by decide))) (Eq.trans (congrFun (hV446 _ (K_old h422 hq442)) _) (Eq.trans (uq_ne e438 (Or.inr (by decide))) (Eq.trans (congrFun (hV420 _ (K_old h397 hq416)) _) (Eq.trans (uq_ne e412 (Or.inr (by decide))) (Eq.trans (hF392 _ _ _ h377 h397 (by decide +kernel)) (Eq.trans (congrFun (hV375 _ (K_old h352 hq371)) _) (Eq.trans (uq_ne e367 (Or.inr (by decide))) (Eq.trans (hF347 _ _ _ h333 h352 (by decide +kernel)) (Eq.trans (congrFun (hV331 _ (K_old h310 hq327)) _) (Eq.trans (uq_ne e323 (Or.inr (by decide))) (Eq.trans (hF305 _ _ _ h292 h310 (by decide +kernel)) (Eq.trans (congrFun (hV290 _ (K_old h269 hq286)) _) (Eq.trans (uq_ne e282 (Or.inr (by decide))) (Eq.trans (hF264 _ _ _ h252 h269 (by decide +kernel)) (Eq.trans (congrFun (hV250 _ (K_old h231 hq246)) _) (Eq.trans (uq_ne e242 (Or.inr (by decide))) (Eq.trans (hF226 _ _ _ h215 h231 (by decide +kernel)) (Eq.trans (congrFun (hV213 _ (K_old h195 hq209)) _) (Eq.trans (uq_ne e205 (Or.inr (by decide))) (Eq.trans (hF190 _ _ _ h180 h195 (by decide +kernel)) (Eq.trans (congrFun (hV178 _ (K_old h161 hq174)) _) (Eq.trans (uq_ne e170 (Or.inr (by decide))) (Eq.trans (hF156 _ _ _ h147 h161 (by decide +kernel)) (Eq.trans (congrFun (hV145 _ (K_old h127 hq141)) _) (Eq.trans (uq_ne e137 (Or.inr (by decide))) (Eq.trans (uq_ne e135 (Or.inr (by decide))) (Eq.trans (congrFun (hV125 _ (K_old h108 hq121)) _) (uq_at e117))))))))))))))))))))))))))))))) (ir_c rfl) (by omega) (by omega)
    | 9, _ => exact ⟨_, (Eq.trans (hF470 _ _ _ h448 h448 (by decide +kernel)) (Eq.trans (hF467 _ _ _ h448 h448 (by decide +kernel)) (Eq.trans (uq_ne e465 (Or.inr (by decide))) (Eq.trans (congrFun (hV446 _ (K_old h422 hq442)) _) (Eq.trans (uq_ne e438 (Or.inr (by decide))) (Eq.trans (congrFun (hV420 _ (K_old h397 hq416)) _) (Eq.trans (uq_ne e412 (Or.inr (by decide))) (Eq.trans (hF392 _ _ _ h377 h397 (by decide +kernel)) (Eq.trans (congrFun (hV375 _ (K_old h352 hq371)) _) (Eq.trans (uq_ne e367 (Or.inr (by decide))) (Eq.trans (hF347 _ _ _ h333 h352 (by decide +kernel)) (Eq.trans (congrFun (hV331 _ (K_old h310 hq327)) _) (Eq.trans (uq_ne e323 (Or.inr (by decide))) (Eq.trans (hF305 _ _ _ h292 h310 (by decide +kernel)) (Eq.trans (congrFun (hV290 _ (K_old h269 hq286)) _) (Eq.trans (uq_ne e282 (Or.inr (by decide))) (Eq.trans (hF264 _ _ _ h252 h269 (by decide +kernel)) (Eq.trans (congrFun (hV250 _ (K_old h231 hq246)) _) (Eq.trans (uq_ne e242 (Or.inr (by decide))) (Eq.trans (hF226 _ _ _ h215 h231 (by decide +kernel)) (Eq.trans (congrFun (hV213 _ (K_old h195 hq209)) _) (Eq.trans (uq_ne e205 (Or.inr (by decide))) (Eq.trans (hF190 _ _ _ h180 h195 (by decide +kernel)) (Eq.trans (congrFun (hV178 _ (K_old h161 hq174)) _) (Eq.trans (uq_ne e170 (Or.inr (by decide))) (Eq.trans (hF156 _ _ _ h147 h161 (by decide +kernel)) (Eq.trans (congrFun (hV145 _ (K_old h127 hq141)) _) (Eq.trans (uq_ne e137 (Or.inr (by decide))) (uq_at e135))))))))))))))))))))))))))))), ⟨_, h455⟩⟩
    | 10, _ => exact okv_at (Eq.trans (hF470 _ _ _ h448 h448 (by decide +kernel)) (Eq.trans (hF467 _ _ _ h448 h448 (by decide +kernel)) (Eq.trans (uq_ne e465 (Or.inr (by decide))) (Eq.trans (congrFun (hV446 _ (K_old h422 hq442)) _) (Eq.trans (uq_ne e438 (Or.inr (by decide))) (Eq.trans (congrFun (hV420 _ (K_old h397 hq416)) _) (Eq.trans (uq_ne e412 (Or.inr (by decide))) (Eq.trans (hF392 _ _ _ h377 h397 (by decide +kernel)) (Eq.trans (congrFun (hV375 _ (K_old h352 hq371)) _) (Eq.trans (uq_ne e367 (Or.inr (by decide))) (Eq.trans (hF347 _ _ _ h333 h352 (by decide +kernel)) (Eq.trans (congrFun (hV331 _ (K_old h310 hq327)) _) (Eq.trans (uq_ne e323 (Or.inr (by decide))) (Eq.trans (hF305 _ _ _ h292 h310 (by decide +kernel)) (Eq.trans (congrFun (hV290 _ (K_old h269 hq286)) _) (Eq.trans (uq_ne e282 (Or.inr (by decide))) (Eq.trans (hF264 _ _ _ h252 h269 (by decide +kernel)) (Eq.trans (congrFun (hV250 _ (K_old h231 hq246)) _) (Eq.trans (uq_ne e242 (Or.inr (by decide))) (Eq.trans (hF226 _ _ _ h215 h231 (by decide +kernel)) (Eq.trans (congrFun (hV213 _ (K_old h195 hq209)) _) (Eq.trans (uq_ne e205 (Or.inr (by decide))) (Eq.trans (hF190 _ _ _ h180 h195 (by decide +kernel)) (Eq.trans (congrFun (hV178 _ (K_old h161 hq174)) _) (Eq.trans (uq_ne e170 (Or.inr (by decide))) (Eq.trans (hF156 _ _ _ h147 h161 (by decide +kernel)) (Eq.trans (congrFun (hV145 _ (K_old h127 hq141)) _) (uq_at e137)))))))))))))))))))))))))))) (ir_c rfl) (by omega) (by omega)
    | 11, _ => exact ⟨_, (Eq.trans (hF470 _ _ _ h448 h448 (by decide +kernel)) (Eq.trans (hF467 _ _ _ h448 h448 (by decide +kernel)) (Eq.trans (uq_ne e465 (Or.inr (by decide))) (Eq.trans (congrFun (hV446 _ (K_old h422 hq442)) _) (Eq.trans (uq_ne e438 (Or.inr (by decide))) (Eq.trans (congrFun (hV420 _ (K_old h397 hq416)) _) (Eq.trans (uq_ne e412 (Or.inr (by decide))) (Eq.trans (hF392 _ _ _ h377 h397 (by decide +kernel)) (Eq.trans (congrFun (hV375 _ (K_old h352 hq371)) _) (Eq.trans (uq_ne e367 (Or.inr (by decide))) (Eq.trans (hF347 _ _ _ h333 h352 (by decide +kernel)) (Eq.trans (congrFun (hV331 _ (K_old h310 hq327)) _) (Eq.trans (uq_ne e323 (Or.inr (by decide))) (Eq.trans (hF305 _ _ _ h292 h310 (by decide +kernel)) (Eq.trans (congrFun (hV290 _ (K_old h269 hq286)) _) (Eq.trans (uq_ne e282 (Or.inr (by decide))) (Eq.trans (hF264 _ _ _ h252 h269 (by decide +kernel)) (Eq.trans (congrFun (hV250 _ (K_old h231 hq246)) _) (Eq.trans (uq_ne e242 (Or.inr (by decide))) (Eq.trans (hF226 _ _ _ h215 h231 (by decide +kernel)) (Eq.trans (congrFun (hV213 _ (K_old h195 hq209)) _) (Eq.trans (uq_ne e205 (Or.inr (by decide))) (Eq.trans (hF190 _ _ _ h180 h195 (by decide +kernel)) (Eq.trans (congrFun (hV178 _ (K_old h161 hq174)) _) (uq_at e170))))))))))))))))))))))))), h456⟩
    | 12, _ => exact ⟨_, (Eq.trans (hF470 _ _ _ h448 h448 (by decide +kernel)) (Eq.trans (hF467 _ _ _ h448 h448 (by decide +kernel)) (Eq.trans (uq_ne e465 (Or.inr (by decide))) (Eq.trans (congrFun (hV446 _ (K_old h422 hq442)) _) (Eq.trans (uq_ne e438 (Or.inr (by decide))) (Eq.trans (congrFun (hV420 _ (K_old h397 hq416)) _) (Eq.trans (uq_ne e412 (Or.inr (by decide))) (Eq.trans (hF392 _ _ _ h377 h397 (by decide +kernel)) (Eq.trans (congrFun (hV375 _ (K_old h352 hq371)) _) (Eq.trans (uq_ne e367 (Or.inr (by decide))) (Eq.trans (hF347 _ _ _ h333 h352 (by decide +kernel)) (Eq.trans (congrFun (hV331 _ (K_old h310 hq327)) _) (Eq.trans (uq_ne e323 (Or.inr (by decide))) (Eq.trans (hF305 _ _ _ h292 h310 (by decide +kernel)) (Eq.trans (congrFun (hV290 _ (K_old h269 hq286)) _) (Eq.trans (uq_ne e282 (Or.inr (by decide))) (Eq.trans (hF264 _ _ _ h252 h269 (by decide +kernel)) (Eq.trans (congrFun (hV250 _ (K_old h231 hq246)) _) (Eq.trans (uq_ne e242 (Or.inr (by decide))) (Eq.trans (hF226 _ _ _ h215 h231 (by decide +kernel)) (Eq.trans (congrFun (hV213 _ (K_old h195 hq209)) _) (uq_at e205)))))))))))))))))))))), h457⟩
    | 13, _ => exact ⟨_, (Eq.trans (hF470 _ _ _ h448 h448 (by decide +kernel)) (Eq.trans (hF467 _ _ _ h448 h448 (by decide +kernel)) (Eq.trans (uq_ne e465 (Or.inr (by decide))) (Eq.trans (congrFun (hV446 _ (K_old h422 hq442)) _) (Eq.trans (uq_ne e438 (Or.inr (by decide))) (Eq.trans (congrFun (hV420 _ (K_old h397 hq416)) _) (Eq.trans (uq_ne e412 (Or.inr (by decide))) (Eq.trans (hF392 _ _ _ h377 h397 (by decide +kernel)) (Eq.trans (congrFun (hV375 _ (K_old h352 hq371)) _) (Eq.trans (uq_ne e367 (Or.inr (by decide))) (Eq.trans (hF347 _ _ _ h333 h352 (by decide +kernel)) (Eq.trans (congrFun (hV331 _ (K_old h310 hq327)) _) (Eq.trans (uq_ne e323 (Or.inr (by decide))) (Eq.trans (hF305 _ _ _ h292 h310 (by decide +kernel)) (Eq.trans (congrFun (hV290 _ (K_old h269 hq286)) _) (Eq.trans (uq_ne e282 (Or.inr (by decide))) (Eq.trans (hF264 _ _ _ h252 h269 (by decide +kernel)) (Eq.trans (congrFun (hV250 _ (K_old h231 hq246)) _) (uq_at e242))))))))))))))))))), h458⟩
    | 14, _ => exact ⟨_, (Eq.trans (hF470 _ _ _ h448 h448 (by decide +kernel)) (Eq.trans (hF467 _ _ _ h448 h448 (by decide +kernel)) (Eq.trans (uq_ne e465 (Or.inr (by decide))) (Eq.trans (congrFun (hV446 _ (K_old h422 hq442)) _) (Eq.trans (uq_ne e438 (Or.inr (by decide))) (Eq.trans (congrFun (hV420 _ (K_old h397 hq416)) _) (Eq.trans (uq_ne e412 (Or.inr (by decide))) (Eq.trans (hF392 _ _ _ h377 h397 (by decide +kernel)) (Eq.trans (congrFun (hV375 _ (K_old h352 hq371)) _) (Eq.trans (uq_ne e367 (Or.inr (by decide))) (Eq.trans (hF347 _ _ _ h333 h352 (by decide +kernel)) (Eq.trans (congrFun (hV331 _ (K_old h310 hq327)) _) (Eq.trans (uq_ne e323 (Or.inr (by decide))) (Eq.trans (hF305 _ _ _ h292 h310 (by decide +kernel)) (Eq.trans (congrFun (hV290 _ (K_old h269 hq286)) _) (uq_at e282)))))))))))))))), h459⟩
    | 15, _ => exact ⟨_, (Eq.trans (hF470 _ _ _ h448 h448 (by decide +kernel)) (Eq.trans (hF467 _ _ _ h448 h448 (by decide +kernel)) (Eq.trans (uq_ne e465 (Or.inr (by decide))) (Eq.trans (congrFun (hV446 _ (K_old h422 hq442)) _) (Eq.trans (uq_ne e438 (Or.inr (by decide))) (Eq.trans (congrFun (hV420 _ (K_old h397 hq416)) _) (Eq.trans (uq_ne e412 (Or.inr (by decide))) (Eq.trans (hF392 _ _ _ h377 h397 (by decide +kernel)) (Eq.trans (congrFun (hV375 _ (K_old h352 hq371)) _) (Eq.trans (uq_ne e367 (Or.inr (by decide))) (Eq.trans (hF347 _ _ _ h333 h352 (by decide +kernel)) (Eq.trans (congrFun (hV331 _ (K_old h310 hq327)) _) (uq_at e323))))))))))))), h460⟩
    | 16, _ => exact ⟨_, (Eq.trans (hF470 _ _ _ h448 h448 (by decide +kernel)) (Eq.trans (hF467 _ _ _ h448 h448 (by decide +kernel)) (Eq.trans (uq_ne e465 (Or.inr (by decide))) (Eq.trans (congrFun (hV446 _ (K_old h422 hq442)) _) (Eq.trans (uq_ne e438 (Or.inr (by decide))) (Eq.trans (congrFun (hV420 _ (K_old h397 hq416)) _) (Eq.trans (uq_ne e412 (Or.inr (by decide))) (Eq.trans (hF392 _ _ _ h377 h397 (by decide +kernel)) (Eq.trans (congrFun (hV375 _ (K_old h352 hq371)) _) (uq_at e367)))))))))), h461⟩
    | 17, _ => exact ⟨_, (Eq.trans (hF470 _ _ _ h448 h448 (by decide +kernel)) (Eq.trans (hF467 _ _ _ h448 h448 (by decide +kernel)) (Eq.trans (uq_ne e465 (Or.inr (by decide))) (Eq.trans (congrFun (hV446 _ (K_old h422 hq442)) _) (Eq.trans (uq_ne e438 (Or.inr (by decide))) (Eq.trans (congrFun (hV420 _ (K_old h397 hq416)) _) (uq_at e412))))))), h462⟩
    | 18, _ => exact ⟨_, (Eq.trans (hF470 _ _ _ h448 h448 (by decide +kernel)) (Eq.trans (hF467 _ _ _ h448 h448 (by decide +kernel)) (Eq.trans (uq_ne e465 (Or.inr (by decide))) (Eq.trans (congrFun (hV446 _ (K_old h422 hq442)) _) (uq_at e438))))), ⟨_, h463⟩⟩
    | 19, _ => exact ⟨_, (Eq.trans (hF470 _ _ _ h448 h448 (by decide +kernel)) (Eq.trans (hF467 _ _ _ h448 h448 (by decide +kernel)) (uq_at e465))), ⟨_, h445⟩⟩
    | j + 20, hj => exact absurd hj (by omega)
  exact GO.retv rfl rfl dX11_init_230 ⟨rfl, ⟨h476, vi_at (Eq.trans (hF470 _ _ _ h448 h448 (by decide +kernel)) (Eq.trans (hF467 _ _ _ h448 h448 (by decide +kernel)) (Eq.trans (uq_ne e465 (Or.inr (by decide))) (Eq.trans (congrFun (hV446 _ (K_old h422 hq442)) _) (Eq.trans (uq_ne e438 (Or.inr (by decide))) (Eq.trans (congrFun (hV420 _ (K_old h397 hq416)) _) (Eq.trans (uq_ne e412 (Or.inr (by decide))) (Eq.trans (hF392 _ _ _ h377 h397 (by decide +kernel)) (Eq.trans (congrFun (hV375 _ (K_old h352 hq371)) _) (Eq.trans (uq_ne e367 (Or.inr (by decide))) (Eq.trans (hF347 _ _ _ h333 h352 (by decide +kernel)) (Eq.trans (congrFun (hV331 _ (K_old h310 hq327)) _) (Eq.trans (uq_ne e323 (Or.inr (by decide))) (Eq.trans (hF305 _ _ _ h292 h310 (by decide +kernel)) (Eq.trans (congrFun (hV290 _ (K_old h269 hq286)) _) (Eq.trans (uq_ne e282 (Or.inr (by decide))) (Eq.trans (hF264 _ _ _ h252 h269 (by decide +kernel)) (Eq.trans (congrFun (hV250 _ (K_old h231 hq246)) _) (Eq.trans (uq_ne e242 (Or.inr (by decide))) (Eq.trans (hF226 _ _ _ h215 h231 (by decide +kernel)) (Eq.trans (congrFun (hV213 _ (K_old h195 hq209)) _) (Eq.trans (uq_ne e205 (Or.inr (by decide))) (Eq.trans (hF190 _ _ _ h180 h195 (by decide +kernel)) (Eq.trans (congrFun (hV178 _ (K_old h161 hq174)) _) (Eq.trans (uq_ne e170 (Or.inr (by decide))) (Eq.trans (hF156 _ _ _ h147 h161 (by decide +kernel)) (Eq.trans (congrFun (hV145 _ (K_old h127 hq141)) _) (Eq.trans (uq_ne e137 (Or.inr (by decide))) (Eq.trans (uq_ne e135 (Or.inr (by decide))) (Eq.trans (congrFun (hV125 _ (K_old h108 hq121)) _) (Eq.trans (uq_ne e117 (Or.inr (by decide))) (Eq.trans (uq_ne e115 (Or.inr (by decide))) (Eq.trans (congrFun (hV106 _ (K_old h90 hq102)) _) (Eq.trans (uq_ne e98 (Or.inr (by decide))) (Eq.trans (uq_ne e96 (Or.inr (by decide))) (Eq.trans (congrFun (hV88 _ (K_old h73 hq84)) _) (uq_at e80))))))))))))))))))))))))))))))))))))) (ir_c rfl), vi_at (Eq.trans (hF470 _ _ _ h448 h448 (by decide +kernel)) (Eq.trans (hF467 _ _ _ h448 h448 (by decide +kernel)) (Eq.trans (uq_ne e465 (Or.inr (by decide))) (Eq.trans (congrFun (hV446 _ (K_old h422 hq442)) _) (Eq.trans (uq_ne e438 (Or.inr (by decide))) (Eq.trans (congrFun (hV420 _ (K_old h397 hq416)) _) (Eq.trans (uq_ne e412 (Or.inr (by decide))) (Eq.trans (hF392 _ _ _ h377 h397 (by decide +kernel)) (Eq.trans (congrFun (hV375 _ (K_old h352 hq371)) _) (Eq.trans (uq_ne e367 (Or.inr (by decide))) (Eq.trans (hF347 _ _ _ h333 h352 (by decide +kernel)) (Eq.trans (congrFun (hV331 _ (K_old h310 hq327)) _) (Eq.trans (uq_ne e323 (Or.inr (by decide))) (Eq.trans (hF305 _ _ _ h292 h310 (by decide +kernel)) (Eq.trans (congrFun (hV290 _ (K_old h269 hq286)) _) (Eq.trans (uq_ne e282 (Or.inr (by decide))) (Eq.trans (hF264 _ _ _ h252 h269 (by decide +kernel)) (Eq.trans (congrFun (hV250 _ (K_old h231 hq246)) _) (Eq.trans (uq_ne e242 (Or.inr (by decide))) (Eq.trans (hF226 _ _ _ h215 h231 (by decide +kernel)) (Eq.trans (congrFun (hV213 _ (K_old h195 hq209)) _) (Eq.trans (uq_ne e205 (Or.inr (by decide))) (Eq.trans (hF190 _ _ _ h180 h195 (by decide +kernel)) (Eq.trans (congrFun (hV178 _ (K_old h161 hq174)) _) (Eq.trans (uq_ne e170 (Or.inr (by decide))) (Eq.trans (hF156 _ _ _ h147 h161 (by decide +kernel)) (Eq.trans (congrFun (hV145 _ (K_old h127 hq141)) _) (uq_at e137)))))))))))))))))))))))))))) (ir_c rfl), tdy_at (Eq.trans (hF470 _ _ _ h448 h448 (by decide +kernel)) (Eq.trans (hF467 _ _ _ h448 h448 (by decide +kernel)) (Eq.trans (uq_ne e465 (Or.inr (by decide))) (Eq.trans (congrFun (hV446 _ (K_old h422 hq442)) _) (Eq.trans (uq_ne e438 (Or.inr (by decide))) (Eq.trans (congrFun (hV420 _ (K_old h397 hq416)) _) (Eq.trans (uq_ne e412 (Or.inr (by decide))) (Eq.trans (hF392 _ _ _ h377 h397 (by decide +kernel)) (Eq.trans (congrFun (hV375 _ (K_old h352 hq371)) _) (Eq.trans (uq_ne e367 (Or.inr (by decide))) (Eq.trans (hF347 _ _ _ h333 h352 (by decide +kernel)) (Eq.trans (congrFun (hV331 _ (K_old h310 hq327)) _) (Eq.trans (uq_ne e323 (Or.inr (by decide))) (Eq.trans (hF305 _ _ _ h292 h310 (by decide +kernel)) (Eq.trans (congrFun (hV290 _ (K_old h269 hq286)) _) (Eq.trans (uq_ne e282 (Or.inr (by decide))) (Eq.trans (hF264 _ _ _ h252 h269 (by decide +kernel)) (Eq.trans (congrFun (hV250 _ (K_old h231 hq246)) _) (Eq.trans (uq_ne e242 (Or.inr (by decide))) (Eq.trans (hF226 _ _ _ h215 h231 (by decide +kernel)) (Eq.trans (congrFun (hV213 _ (K_old h195 hq209)) _) (Eq.trans (uq_ne e205 (Or.inr (by decide))) (Eq.trans (hF190 _ _ _ h180 h195 (by decide +kernel)) (Eq.trans (congrFun (hV178 _ (K_old h161 hq174)) _) (Eq.trans (uq_ne e170 (Or.inr (by decide))) (Eq.trans (hF156 _ _ _ h147 h161 (by decide +kernel)) (Eq.trans (congrFun (hV145 _ (K_old h127 hq141)) _) (Eq.trans (uq_ne e137 (Or.inr (by decide))) (Eq.trans (uq_ne e135 (Or.inr (by decide))) (Eq.trans (congrFun (hV125 _ (K_old h108 hq121)) _) (Eq.trans (uq_ne e117 (Or.inr (by decide))) (Eq.trans (uq_ne e115 (Or.inr (by decide))) (Eq.trans (congrFun (hV106 _ (K_old h90 hq102)) _) (Eq.trans (uq_ne e98 (Or.inr (by decide))) (Eq.trans (uq_ne e96 (Or.inr (by decide))) (Eq.trans (congrFun (hV88 _ (K_old h73 hq84)) _) (Eq.trans (uq_ne e80 (Or.inr (by decide))) (Eq.trans (uq_ne e78 (Or.inr (by decide))) (Eq.trans (congrFun (hV71 _ (K_old h59 hq67)) _) (Eq.trans (uq_ne e63 (Or.inr (by decide))) (Eq.trans (hF54 _ _ _ h50 h59 (by decide +kernel)) (Eq.trans (congrFun (hV48 _ (K_old h37 hq44)) _) (Eq.trans (uq_ne e40 (Or.inr (by decide))) (Eq.trans (hF32 _ _ _ h29 h37 (by decide +kernel)) (Eq.trans (congrFun (hV27 _ (K_old h16 hq23)) _) (uq_at e19)))))))))))))))))))))))))))))))))))))))))))))) (Eq.trans (hF470 _ _ _ h449 h449 (by decide +kernel)) (Eq.trans (hF467 _ _ _ h449 h449 (by decide +kernel)) (Eq.trans (uq_ne e465 (Or.inl (K_ne h449 h448 (by decide)))) (Eq.trans (congrFun (hV446 _ (K_old h423 hq442)) _) (Eq.trans (uq_ne e438 (Or.inl (K_ne h423 h422 (by decide)))) (Eq.trans (congrFun (hV420 _ (K_old h399 hq416)) _) (Eq.trans (uq_ne e412 (Or.inl (K_ne h399 h397 (by decide)))) (Eq.trans (hF392 _ _ _ h378 h399 (by decide +kernel)) (Eq.trans (congrFun (hV375 _ (K_old h354 hq371)) _) (Eq.trans (uq_ne e367 (Or.inl (K_ne h354 h352 (by decide)))) (Eq.trans (hF347 _ _ _ h334 h354 (by decide +kernel)) (Eq.trans (congrFun (hV331 _ (K_old h312 hq327)) _) (Eq.trans (uq_ne e323 (Or.inl (K_ne h312 h310 (by decide)))) (Eq.trans (hF305 _ _ _ h293 h312 (by decide +kernel)) (Eq.trans (congrFun (hV290 _ (K_old h271 hq286)) _) (Eq.trans (uq_ne e282 (Or.inl (K_ne h271 h269 (by decide)))) (Eq.trans (hF264 _ _ _ h253 h271 (by decide +kernel)) (Eq.trans (congrFun (hV250 _ (K_old h233 hq246)) _) (Eq.trans (uq_ne e242 (Or.inl (K_ne h233 h231 (by decide)))) (Eq.trans (hF226 _ _ _ h216 h233 (by decide +kernel)) (Eq.trans (congrFun (hV213 _ (K_old h197 hq209)) _) (Eq.trans (uq_ne e205 (Or.inl (K_ne h197 h195 (by decide)))) (Eq.trans (hF190 _ _ _ h181 h197 (by decide +kernel)) (Eq.trans (congrFun (hV178 _ (K_old h163 hq174)) _) (Eq.trans (uq_ne e170 (Or.inl (K_ne h163 h161 (by decide)))) (Eq.trans (hF156 _ _ _ h148 h163 (by decide +kernel)) (Eq.trans (congrFun (hV145 _ (K_old h128 hq141)) _) (Eq.trans (uq_ne e137 (Or.inl (K_ne h128 h127 (by decide)))) (Eq.trans (uq_ne e135 (Or.inl (K_ne h128 h127 (by decide)))) (Eq.trans (congrFun (hV125 _ (K_old h109 hq121)) _) (Eq.trans (uq_ne e117 (Or.inl (K_ne h109 h108 (by decide)))) (Eq.trans (uq_ne e115 (Or.inl (K_ne h109 h108 (by decide)))) (Eq.trans (congrFun (hV106 _ (K_old h91 hq102)) _) (Eq.trans (uq_ne e98 (Or.inl (K_ne h91 h90 (by decide)))) (Eq.trans (uq_ne e96 (Or.inl (K_ne h91 h90 (by decide)))) (Eq.trans (congrFun (hV88 _ (K_old h74 hq84)) _) (Eq.trans (uq_ne e80 (Or.inl (K_ne h74 h73 (by decide)))) (Eq.trans (uq_ne e78 (Or.inl (K_ne h74 h73 (by decide)))) (Eq.trans (congrFun (hV71 _ (K_old h61 hq67)) _) (Eq.trans (uq_ne e63 (Or.inl (K_ne h61 h59 (by decide)))) (Eq.trans (hF54 _ _ _ h51 h61 (by decide +kernel)) (Eq.trans (congrFun (hV48 _ (K_old h39 hq44)) _) (Eq.trans (uq_ne e40 (Or.inl (K_ne h39 h37 (by decide)))) (Eq.trans (hF32 _ _ _ h30 h39 (by decide +kernel)) (Eq.trans (congrFun (hV27 _ (K_old h17 hq23)) _) (uq_ne e19 (Or.inl (K_ne h17 h16 (by decide))))))))))))))))))))))))))))))))))))))))))))))))) q18, wsz_at (Eq.trans (hF470 _ _ _ h448 h448 (by decide +kernel)) (Eq.trans (hF467 _ _ _ h448 h448 (by decide +kernel)) (Eq.trans (uq_ne e465 (Or.inr (by decide))) (Eq.trans (congrFun (hV446 _ (K_old h422 hq442)) _) (Eq.trans (uq_ne e438 (Or.inr (by decide))) (Eq.trans (congrFun (hV420 _ (K_old h397 hq416)) _) (Eq.trans (uq_ne e412 (Or.inr (by decide))) (Eq.trans (hF392 _ _ _ h377 h397 (by decide +kernel)) (Eq.trans (congrFun (hV375 _ (K_old h352 hq371)) _) (uq_at e367)))))))))) (Eq.trans (hF470 _ _ _ h461 h461 (by decide +kernel)) (Eq.trans (hF467 _ _ _ h461 h461 (by decide +kernel)) (Eq.trans (uq_ne e465 (Or.inl (K_ne h461 h448 (by decide)))) (Eq.trans (congrFun (hV446 _ (K_old h435 hq442)) _) (Eq.trans (uq_ne e438 (Or.inl (K_ne h435 h422 (by decide)))) (Eq.trans (congrFun (hV420 _ (K_old h411 hq416)) _) (Eq.trans (uq_ne e412 (Or.inl (K_ne h411 h397 (by decide)))) (Eq.trans (hF392 _ _ _ h390 h411 (by decide +kernel)) (Eq.trans (congrFun (hV375 _ (K_old h353 hq371)) _) (uq_ne e367 (Or.inl (K_ne h353 h352 (by decide))))))))))))) q366, csz_at (Eq.trans (hF470 _ _ _ h448 h448 (by decide +kernel)) (Eq.trans (hF467 _ _ _ h448 h448 (by decide +kernel)) (Eq.trans (uq_ne e465 (Or.inr (by decide))) (Eq.trans (congrFun (hV446 _ (K_old h422 hq442)) _) (Eq.trans (uq_ne e438 (Or.inr (by decide))) (Eq.trans (congrFun (hV420 _ (K_old h397 hq416)) _) (Eq.trans (uq_ne e412 (Or.inr (by decide))) (Eq.trans (hF392 _ _ _ h377 h397 (by decide +kernel)) (Eq.trans (congrFun (hV375 _ (K_old h352 hq371)) _) (Eq.trans (uq_ne e367 (Or.inr (by decide))) (Eq.trans (hF347 _ _ _ h333 h352 (by decide +kernel)) (Eq.trans (congrFun (hV331 _ (K_old h310 hq327)) _) (Eq.trans (uq_ne e323 (Or.inr (by decide))) (Eq.trans (hF305 _ _ _ h292 h310 (by decide +kernel)) (Eq.trans (congrFun (hV290 _ (K_old h269 hq286)) _) (uq_at e282)))))))))))))))) (Eq.trans (hF470 _ _ _ h459 h459 (by decide +kernel)) (Eq.trans (hF467 _ _ _ h459 h459 (by decide +kernel)) (Eq.trans (uq_ne e465 (Or.inl (K_ne h459 h448 (by decide)))) (Eq.trans (congrFun (hV446 _ (K_old h433 hq442)) _) (Eq.trans (uq_ne e438 (Or.inl (K_ne h433 h422 (by decide)))) (Eq.trans (congrFun (hV420 _ (K_old h409 hq416)) _) (Eq.trans (uq_ne e412 (Or.inl (K_ne h409 h397 (by decide)))) (Eq.trans (hF392 _ _ _ h388 h409 (by decide +kernel)) (Eq.trans (congrFun (hV375 _ (K_old h364 hq371)) _) (Eq.trans (uq_ne e367 (Or.inl (K_ne h364 h352 (by decide)))) (Eq.trans (hF347 _ _ _ h344 h364 (by decide +kernel)) (Eq.trans (congrFun (hV331 _ (K_old h322 hq327)) _) (Eq.trans (uq_ne e323 (Or.inl (K_ne h322 h310 (by decide)))) (Eq.trans (hF305 _ _ _ h303 h322 (by decide +kernel)) (Eq.trans (congrFun (hV290 _ (K_old h270 hq286)) _) (uq_ne e282 (Or.inl (K_ne h270 h269 (by decide))))))))))))))))))) q281⟩, KE.promote (KE.new (KE.new (KE.call (KE.new (KE.call (KE.new (KE.call (KE.new (KE.call (KE.new (KE.call (KE.new (KE.call (KE.new (KE.call (KE.new (KE.new (KE.new (KE.new (KE.new (KE.call (KE.new (KE.call (KE.new (KE.call (KE.new KE.rf hq3 hK4) h14.2 h10) hq23 hK24) h35.2 h31) hq44 hK45) h57.2 h53) hq67 hK68) hq84 hK85) hq102 hK103) hq121 hK122) hq141 hK142) h159.2 h155) hq174 hK175) h193.2 h189) hq209 hK210) h229.2 h225) hq246 hK247) h267.2 h263) hq286 hK287) h308.2 h304) hq327 hK328) h350.2 h346) hq371 hK372) h395.2 h391) hq416 hK417) hq442 hK443) e474⟩
