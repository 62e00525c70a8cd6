def mX6_seek : MRec := (RX6, cX6_seek, 2, (none : Option Jvm.ClassFile.FieldType), yX6_seek, 18, 404, 0, 0, 79326716254829831874229836963932524779408561955713746314157855432928694948357361499022705252765834181710959278060858278674432)
def mX7_init : MRec := (RX7, cX7_init, 4, (none : Option Jvm.ClassFile.FieldType), yX7_init, 1, 12, 0, 0, 265568996408383549344794103276234313664796558863515961599722069100201779930426121369581251132614642834444664743123250507673289668826353619704759989383293675971915635417696609515864064)
def mX7_leave : MRec := (RX7, cX7_leave, 6, (none : Option Jvm.ClassFile.FieldType), yX7_leave, 0, 0, 0, 0, 35270174668932662689792)
def mX7_turnBack : MRec := (RX7, cX7_turnBack, 2, (none : Option Jvm.ClassFile.FieldType), yX7_turnBack, 0, 0, 0, 0, 4869940435459321626624)
def mX8_init_k33 : MRec := (RX8, cX8_init, 3, (none : Option Jvm.ClassFile.FieldType), yX8_init, 1, 21, 1, 72, 531137992816767098689588206552468627329593117727031923199444138200403559860852242739162502265229285668889329486246501015346579337652707239409519978766587351943831270835393219031728128)
def mX9_init : MRec := (RX9, cX9_init, 5, (none : Option Jvm.ClassFile.FieldType), yX9_init, 2, 43, 3, 276, 1593413978450301296068764619657405881988779353181095769598332414601210679582556728217487506795687857006667988458739503046039738012958121718228559936299762055831493812506179657095184384)
def mX10_init : MRec := (RX10, cX10_init, 6, (none : Option Jvm.ClassFile.FieldType), yX10_init, 1, 12, 0, 0, 2124551971267068394758352826209874509318372470908127692797776552801614239443408970956650009060917142675557317944986004061386317350610828957638079915066349407775325083341572876126912512)
def mX11_between : MRec := (RX11, cX11_between, 3, (some .boolean), yX11_between, 0, 0, 0, 0, 0)
def mX11_ice : MRec := (RX11, cX11_ice, 3, (some .boolean), yX11_ice, 2, 44, 0, 0, 2420859260706476802802424223752823632184099180777397043278743146756857145640788619965292518700129216971159223724450775064)
def mX4_put_t125 : MRec := (RX4, cX4_put, 3, (none : Option Jvm.ClassFile.FieldType), yX4_put, 0, 0, 0, 0, 161390617380431786853494948250188242145606612051826469551916209783790476376052574664352834580008614464743948248296718336)
def mX4_put_t126 : MRec := (RX4, cX4_put, 3, (none : Option Jvm.ClassFile.FieldType), yX4_put, 0, 0, 0, 0, 322781234760863573706989896500376484291213224103652939103832419567580952752105149328705669160017228929487896496593436672)
def mX4_put_t127 : MRec := (RX4, cX4_put, 3, (none : Option Jvm.ClassFile.FieldType), yX4_put, 0, 0, 0, 0, 645562469521727147413979793000752968582426448207305878207664839135161905504210298657411338320034457858975792993186873344)
def mX4_put_t128 : MRec := (RX4, cX4_put, 3, (none : Option Jvm.ClassFile.FieldType), yX4_put, 0, 0, 0, 0, 1291124939043454294827959586001505937164852896414611756415329678270323811008420597314822676640068915717951585986373746688)
def mX11_cell : MRec := (RX11, cX11_cell, 8, (some .boolean), yX11_cell, 1, 22, 0, 0, 2420859260706476802802424223752823632184099180777397043278743146756857145640788619965292518700129216971159223724450775040)
set_option maxHeartbeats 1000000 in
theorem t_X6_seek {K : Kmap} {V : Vmap} {x : Nat} {p0 : Int} (h_x : K x = some (0, 5)) (r_p0 : ir p0) : MC mX6_seek K V [.ref x, ti p0] (VS K (fun V1 => (True))) := by
  refine MC.start 0 (by decide +kernel) rfl rfl rfl (ls0 := [some (.ref x), some (ti p0)]) rfl ?_
  refine GO.aload_n dX6_seek_0 rfl rfl ?_
  refine GO.iload_n dX6_seek_1 rfl rfl ?_
  refine GO.putI h_x fp_RX6_42 rfl (by decide +kernel) r_p0 (r_p0).1 (r_p0).2 dX6_seek_2 (fun V2 e1 => ?_)
  refine GO.aload_n dX6_seek_5 rfl rfl ?_
  refine GO.iconst dX6_seek_6 ?_
  refine GO.putI h_x fp_RX6_46 rfl (by decide +kernel) (ir_c rfl) (by decide) (by decide) dX6_seek_7 (fun V4 e3 => ?_)
  refine GO.aload_n dX6_seek_10 rfl rfl ?_
  refine GO.callV (ci := 5) (N := mX6_lookAhead) dX6_seek_11 (RX6, TX6, 10) rfl gV_RX6_62 h_x (t_X6_lookAhead h_x) rfl [] rfl rfl (Nat.le_of_ble_eq_true rfl) rfl (k_vs fun V7 h6 hF5 => ?_)
  refine GO.aload_n dX6_seek_14 rfl rfl ?_
  refine GO.iconst dX6_seek_15 ?_
  refine GO.iconst dX6_seek_16 ?_
  refine GO.callV (ci := 5) (N := mX6_extend_8) dX6_seek_17 (RX6, TX6, 10) rfl gV_RX6_65 h_x (t_X6_extend_8 h_x (ir_c rfl) (ir_c rfl) (by omega)) rfl [] rfl rfl (Nat.le_of_ble_eq_true rfl) rfl (k_vs fun V10 h9 hF8 => ?_)
  exact GO.retv rfl rfl dX6_seek_20 ⟨rfl, rfl, trivial⟩

set_option maxHeartbeats 1000000 in
theorem t_X7_init {K : Kmap} {V : Vmap} {x : Nat} {p0 : Int} {p1 : Int} {p2 : Int} (h_x : K x = some (0, 18)) (r_p0 : ir p0) (r_p1 : ir p1) (r_p2 : ir p2) : MC mX7_init K V [.ref x, ti p0, ti p1, ti p2] (VX (fun K1 _ => K1 x = some (0, 6) ∧ KE K K1 x)) := by
  refine MC.start 0 (by decide +kernel) rfl rfl rfl (ls0 := [some (.ref x), some (ti p0), some (ti p1), some (ti p2)]) rfl ?_
  refine GO.aload_n dX7_init_0 rfl rfl ?_
  refine GO.objInit dX7_init_1 gw_1049 gw_27 gw_28 rfl rfl ?_
  refine GO.aload_n dX7_init_4 rfl rfl ?_
  refine GO.iconst dX7_init_5 ?_
  refine GO.putRW rfl (by decide +kernel) h_x fp_raw_fp_RX7_9 rfl rfl dX7_init_6 (fun V2 e1 => ?_)
  refine GO.aload_n dX7_init_9 rfl rfl ?_
  refine GO.iconst dX7_init_10 ?_
  refine GO.putRW rfl (by decide +kernel) h_x fp_raw_fp_RX7_15 rfl rfl dX7_init_11 (fun V4 e3 => ?_)
  refine GO.aload_n dX7_init_14 rfl rfl ?_
  refine GO.iconst dX7_init_15 ?_
  refine GO.putRW rfl (by decide +kernel) h_x fp_raw_fp_RX7_18 rfl rfl dX7_init_16 (fun V6 e5 => ?_)
  refine GO.aload_n dX7_init_19 rfl rfl ?_
  refine GO.iconst dX7_init_20 ?_
  refine GO.putRW rfl (by decide +kernel) h_x fp_raw_fp_RX7_21 rfl rfl dX7_init_21 (fun V8 e7 => ?_)
  refine GO.aload_n dX7_init_24 rfl rfl ?_
  refine GO.iconst dX7_init_25 ?_
  refine GO.putRW rfl (by decide +kernel) h_x fp_raw_fp_RX7_24 rfl rfl dX7_init_26 (fun V10 e9 => ?_)
  refine GO.aload_n dX7_init_29 rfl rfl ?_
  refine GO.iconst dX7_init_30 ?_
  refine GO.putRW rfl (by decide +kernel) h_x fp_raw_fp_RX7_27 rfl rfl dX7_init_31 (fun V12 e11 => ?_)
  refine GO.aload_n dX7_init_34 rfl rfl ?_
  refine GO.iconst dX7_init_35 ?_
  refine GO.putRW rfl (by decide +kernel) h_x fp_raw_fp_RX7_30 rfl rfl dX7_init_36 (fun V14 e13 => ?_)
  refine GO.aload_n dX7_init_39 rfl rfl ?_
  refine GO.iconst dX7_init_40 ?_
  refine GO.putRW rfl (by decide +kernel) h_x fp_raw_fp_RX7_33 rfl rfl dX7_init_41 (fun V16 e15 => ?_)
  refine GO.aload_n dX7_init_44 rfl rfl ?_
  refine GO.iload_n dX7_init_45 rfl rfl ?_
  refine GO.putRF rfl rfl (by decide +kernel) h_x fp_raw_fp_RX7_36 rfl rfl dX7_init_46 (fun V18 e17 => ?_)
  refine GO.aload_n dX7_init_49 rfl rfl ?_
  refine GO.iload_n dX7_init_50 rfl rfl ?_
  refine GO.putRF rfl rfl (by decide +kernel) h_x fp_raw_fp_RX7_39 rfl rfl dX7_init_51 (fun V20 e19 => ?_)
  refine GO.aload_n dX7_init_54 rfl rfl ?_
  refine GO.iload_n dX7_init_55 rfl rfl ?_
  refine GO.putRF rfl rfl (by decide +kernel) h_x fp_raw_fp_RX7_42 rfl rfl dX7_init_56 (fun V22 e21 => ?_)
  refine GO.promote (ci := 6) rfl h_x (fun j hj => ?_) (fun K23 e24 hE25 h26 => ?_)
  ·
    have hj : j < 11 := hj
    match j, hj with
    | 0, _ => exact okv_any (Eq.trans (uq_ne e21 (Or.inr (by decide))) (Eq.trans (uq_ne e19 (Or.inr (by decide))) (uq_at e17)))
    | 1, _ => exact okv_any (Eq.trans (uq_ne e21 (Or.inr (by decide))) (uq_at e19))
    | 2, _ => exact okv_any (uq_at e21)
    | 3, _ => exact okv_any (Eq.trans (uq_ne e21 (Or.inr (by decide))) (Eq.trans (uq_ne e19 (Or.inr (by decide))) (Eq.trans (uq_ne e17 (Or.inr (by decide))) (Eq.trans (uq_ne e15 (Or.inr (by decide))) (Eq.trans (uq_ne e13 (Or.inr (by decide))) (Eq.trans (uq_ne e11 (Or.inr (by decide))) (Eq.trans (uq_ne e9 (Or.inr (by decide))) (Eq.trans (uq_ne e7 (Or.inr (by decide))) (Eq.trans (uq_ne e5 (Or.inr (by decide))) (Eq.trans (uq_ne e3 (Or.inr (by decide))) (uq_at e1)))))))))))
    | 4, _ => exact okv_any (Eq.trans (uq_ne e21 (Or.inr (by decide))) (Eq.trans (uq_ne e19 (Or.inr (by decide))) (Eq.trans (uq_ne e17 (Or.inr (by decide))) (Eq.trans (uq_ne e15 (Or.inr (by decide))) (Eq.trans (uq_ne e13 (Or.inr (by decide))) (Eq.trans (uq_ne e11 (Or.inr (by decide))) (Eq.trans (uq_ne e9 (Or.inr (by decide))) (Eq.trans (uq_ne e7 (Or.inr (by decide))) (Eq.trans (uq_ne e5 (Or.inr (by decide))) (uq_at e3))))))))))
    | 5, _ => exact okv_any (Eq.trans (uq_ne e21 (Or.inr (by decide))) (Eq.trans (uq_ne e19 (Or.inr (by decide))) (Eq.trans (uq_ne e17 (Or.inr (by decide))) (Eq.trans (uq_ne e15 (Or.inr (by decide))) (Eq.trans (uq_ne e13 (Or.inr (by decide))) (Eq.trans (uq_ne e11 (Or.inr (by decide))) (Eq.trans (uq_ne e9 (Or.inr (by decide))) (Eq.trans (uq_ne e7 (Or.inr (by decide))) (uq_at e5)))))))))
    | 6, _ => exact okv_any (Eq.trans (uq_ne e21 (Or.inr (by decide))) (Eq.trans (uq_ne e19 (Or.inr (by decide))) (Eq.trans (uq_ne e17 (Or.inr (by decide))) (Eq.trans (uq_ne e15 (Or.inr (by decide))) (Eq.trans (uq_ne e13 (Or.inr (by decide))) (Eq.trans (uq_ne e11 (Or.inr (by decide))) (Eq.trans (uq_ne e9 (Or.inr (by decide))) (uq_at e7))))))))
    | 7, _ => exact okv_any (Eq.trans (uq_ne e21 (Or.inr (by decide))) (Eq.trans (uq_ne e19 (Or.inr (by decide))) (Eq.trans (uq_ne e17 (Or.inr (by decide))) (Eq.trans (uq_ne e15 (Or.inr (by decide))) (Eq.trans (uq_ne e13 (Or.inr (by decide))) (Eq.trans (uq_ne e11 (Or.inr (by decide))) (uq_at e9)))))))
    | 8, _ => exact okv_any (Eq.trans (uq_ne e21 (Or.inr (by decide))) (Eq.trans (uq_ne e19 (Or.inr (by decide))) (Eq.trans (uq_ne e17 (Or.inr (by decide))) (Eq.trans (uq_ne e15 (Or.inr (by decide))) (Eq.trans (uq_ne e13 (Or.inr (by decide))) (uq_at e11))))))
    | 9, _ => exact okv_any (Eq.trans (uq_ne e21 (Or.inr (by decide))) (Eq.trans (uq_ne e19 (Or.inr (by decide))) (Eq.trans (uq_ne e17 (Or.inr (by decide))) (Eq.trans (uq_ne e15 (Or.inr (by decide))) (uq_at e13)))))
    | 10, _ => exact okv_any (Eq.trans (uq_ne e21 (Or.inr (by decide))) (Eq.trans (uq_ne e19 (Or.inr (by decide))) (Eq.trans (uq_ne e17 (Or.inr (by decide))) (uq_at e15))))
    | j + 11, hj => exact absurd hj (by omega)
  exact GO.retv rfl rfl dX7_init_59 ⟨rfl, h26, KE.promote KE.rf e24⟩

set_option maxHeartbeats 1000000 in
theorem t_X7_leave {K : Kmap} {V : Vmap} {x : Nat} {p0 : Int} {p1 : Int} {p2 : Int} {p3 : Int} {p4 : Int} (h_x : K x = some (0, 6)) (r_p0 : ir p0) (r_p1 : ir p1) (r_p2 : ir p2) (r_p3 : ir p3) (r_p4 : ir p4) : MC mX7_leave K V [.ref x, ti p0, ti p1, ti p2, ti p3, ti p4] (VS K (fun V1 => (True))) := by
  refine MC.start 0 (by decide +kernel) rfl rfl rfl (ls0 := [some (.ref x), some (ti p0), some (ti p1), some (ti p2), some (ti p3), some (ti p4)]) rfl ?_
  refine GO.aload_n dX7_leave_0 rfl rfl ?_
  refine GO.iconst dX7_leave_1 ?_
  refine GO.putI h_x fp_RX7_9 rfl (by decide +kernel) (ir_c rfl) (by decide) (by decide) dX7_leave_2 (fun V2 e1 => ?_)
  refine GO.aload_n dX7_leave_5 rfl rfl ?_
  refine GO.iload_n dX7_leave_6 rfl rfl ?_
  refine GO.putI h_x fp_RX7_15 rfl (by decide +kernel) r_p0 (r_p0).1 (r_p0).2 dX7_leave_7 (fun V4 e3 => ?_)
  refine GO.aload_n dX7_leave_10 rfl rfl ?_
  refine GO.iload_n dX7_leave_11 rfl rfl ?_
  refine GO.putI h_x fp_RX7_18 rfl (by decide +kernel) r_p1 (r_p1).1 (r_p1).2 dX7_leave_12 (fun V6 e5 => ?_)
  refine GO.aload_n dX7_leave_15 rfl rfl ?_
  refine GO.iload_n dX7_leave_16 rfl rfl ?_
  refine GO.putI h_x fp_RX7_21 rfl (by decide +kernel) r_p2 (r_p2).1 (r_p2).2 dX7_leave_17 (fun V8 e7 => ?_)
  refine GO.aload_n dX7_leave_20 rfl rfl ?_
  refine GO.iload dX7_leave_21 rfl ?_
  refine GO.putI h_x fp_RX7_33 rfl (by decide +kernel) r_p4 (r_p4).1 (r_p4).2 dX7_leave_23 (fun V10 e9 => ?_)
  refine GO.aload_n dX7_leave_26 rfl rfl ?_
  refine GO.iload dX7_leave_27 rfl ?_
  refine GO.iload dX7_leave_29 rfl ?_
  refine GO.iadd dX7_leave_31 ?_
  refine GO.norm (fun z11 r12 hn13 => ?_)
  refine GO.putI h_x fp_RX7_27 rfl (by decide +kernel) r12 (r12).1 (r12).2 dX7_leave_32 (fun V15 e14 => ?_)
  refine GO.aload_n dX7_leave_35 rfl rfl ?_
  refine GO.iconst dX7_leave_36 ?_
  refine GO.putI h_x fp_RX7_30 rfl (by decide +kernel) (ir_c rfl) (by decide) (by decide) dX7_leave_37 (fun V17 e16 => ?_)
  exact GO.retv rfl rfl dX7_leave_40 ⟨rfl, rfl, trivial⟩

set_option maxHeartbeats 1000000 in
theorem t_X7_turnBack {K : Kmap} {V : Vmap} {x : Nat} {p0 : Int} (h_x : K x = some (0, 6)) (r_p0 : ir p0) : MC mX7_turnBack K V [.ref x, ti p0] (VS K (fun V1 => (True))) := by
  refine MC.start 0 (by decide +kernel) rfl rfl rfl (ls0 := [some (.ref x), some (ti p0)]) rfl ?_
  refine GO.aload_n dX7_turnBack_0 rfl rfl ?_
  refine GO.iconst dX7_turnBack_1 ?_
  refine GO.putI h_x fp_RX7_9 rfl (by decide +kernel) (ir_c rfl) (by decide) (by decide) dX7_turnBack_2 (fun V2 e1 => ?_)
  refine GO.aload_n dX7_turnBack_5 rfl rfl ?_
  refine GO.iload_n dX7_turnBack_6 rfl rfl ?_
  refine GO.aload_n dX7_turnBack_7 rfl rfl ?_
  refine GO.getI h_x fl_RX7_33 rfl rfl dX7_turnBack_8 (fun _ _ => ?_)
  refine GO.iadd dX7_turnBack_11 ?_
  refine GO.norm (fun z4 r5 hn6 => ?_)
  refine GO.putI h_x fp_RX7_27 rfl (by decide +kernel) r5 (r5).1 (r5).2 dX7_turnBack_12 (fun V8 e7 => ?_)
  exact GO.retv rfl rfl dX7_turnBack_15 ⟨rfl, rfl, trivial⟩

set_option maxHeartbeats 1000000 in
theorem t_X8_init_k33 {K : Kmap} {V : Vmap} {x : Nat} {p0 : Int} {p1 : Int} (h_x : K x = some (0, 19)) (r_p0 : ir p0) (r_p1 : ir p1) (q_0 : p0 = 6) (q_1 : p1 ≥ 1) (q_2 : p1 ≤ 12) : MC mX8_init_k33 K V [.ref x, ti p0, ti p1] (VX (fun K1 V1 => (K1 x = some (0, 33) ∧ vi V1 x 3 = 0 ∧ (TBM K1 V1 x p1) ∧ (TBZ K V1 x)) ∧ KE K K1 x)) := by
  refine MC.start 0 (by decide +kernel) rfl rfl rfl (ls0 := [some (.ref x), some (ti p0), some (ti p1)]) rfl ?_
  refine GO.aload_n dX8_init_0 rfl rfl ?_
  refine GO.objInit dX8_init_1 gw_103 gw_27 gw_28 rfl rfl ?_
  refine GO.aload_n dX8_init_4 rfl rfl ?_
  refine GO.iconst dX8_init_5 ?_
  refine GO.putRW rfl (by decide +kernel) h_x fp_raw_fp_RX8_9 rfl rfl dX8_init_6 (fun V2 e1 => ?_)
  refine GO.aload_n dX8_init_9 rfl rfl ?_
  refine GO.iload_n dX8_init_10 rfl rfl ?_
  refine GO.putRF rfl rfl (by decide +kernel) h_x fp_raw_fp_RX8_15 rfl rfl dX8_init_11 (fun V4 e3 => ?_)
  refine GO.aload_n dX8_init_14 rfl rfl ?_
  refine GO.iload_n dX8_init_15 rfl rfl ?_
  refine GO.putRF rfl rfl (by decide +kernel) h_x fp_raw_fp_RX8_18 rfl rfl dX8_init_16 (fun V6 e5 => ?_)
  refine GO.aload_n dX8_init_19 rfl rfl ?_
  refine GO.iconst dX8_init_20 ?_
  refine GO.iload_n dX8_init_21 rfl rfl ?_
  refine GO.iload_n dX8_init_22 rfl rfl ?_
  refine GO.imul dX8_init_23 ?_
  have q7 : -2147483648 ≤ p1 ∧ p1 ≤ 2147483647 := r_p1
  have q8 : -2147483648 ≤ p0 ∧ p0 ≤ 2147483647 := r_p0
  have m9 := mul_rng (a := p0) (b := p1) (A := 6) (B := 12) (by omega) (by omega) (by omega) (by omega)
  have m10 := mul_low (a := p0) (b := p1) (m := 6) (n := 1) (by omega) (by omega) (by omega) (by omega)
  refine GO.callS (N := mJ9_max_7cf53) dX8_init_24 gS_RX8_21 (t_J9_max_7cf53 (ir_c rfl) ⟨by omega, by omega⟩) rfl [.ref x] rfl rfl (Nat.le_of_ble_eq_true rfl) rfl (k_ip fun X11 r12 h13 => ?_)
  have q14 : -2147483648 ≤ X11 ∧ X11 ≤ 2147483647 := r12
  refine GO.newIT 155 72 gw_89 rfl rfl (fun _ _ => okv_df rfl rfl rfl) r12 (by omega) (by omega) rfl (Or.inl rfl) rfl rfl dX8_init_27 (fun o15 K16 V22 hq17 hK18 hE19 h20 hz23 hV21 => ?_)
  have h24 := (by rw [hK18, updK_ne (K_old h_x hq17)]; exact h_x : K16 x = some (0, 19))
  have h25 := KE.nw KE.rf h_x hq17
  refine GO.putRF rfl rfl (by decide +kernel) h24 fp_raw_fp_RX8_27 rfl rfl dX8_init_29 (fun V27 e26 => ?_)
  refine GO.promoteT 33 rfl rfl h24 (fun j hj => ?_) (fun K28 e29 hE30 h31 => ?_)
  ·
    have hj : j < 4 := hj
    match j, hj with
    | 0, _ => exact okv_at (Eq.trans (uq_ne e26 (Or.inr (by decide))) (Eq.trans (congrFun (hV21 _ (K_old h_x hq17)) _) (Eq.trans (uq_ne e5 (Or.inr (by decide))) (uq_at e3)))) r_p0 (by omega) (by omega)
    | 1, _ => exact okv_at (Eq.trans (uq_ne e26 (Or.inr (by decide))) (Eq.trans (congrFun (hV21 _ (K_old h_x hq17)) _) (uq_at e5))) r_p1 (by omega) (by omega)
    | 2, _ => exact ⟨_, (uq_at e26), ⟨_, h20⟩⟩
    | 3, _ => exact okv_at (Eq.trans (uq_ne e26 (Or.inr (by decide))) (Eq.trans (congrFun (hV21 _ (K_old h_x hq17)) _) (Eq.trans (uq_ne e5 (Or.inr (by decide))) (Eq.trans (uq_ne e3 (Or.inr (by decide))) (uq_at e1))))) (ir_c rfl) (by omega) (by omega)
    | j + 4, hj => exact absurd hj (by omega)
  exact GO.retv rfl rfl dX8_init_32 ⟨rfl, ⟨h31, vi_at (Eq.trans (uq_ne e26 (Or.inr (by decide))) (Eq.trans (congrFun (hV21 _ (K_old h_x hq17)) _) (Eq.trans (uq_ne e5 (Or.inr (by decide))) (Eq.trans (uq_ne e3 (Or.inr (by decide))) (uq_at e1))))) (ir_c rfl), (TBM.mk (Eq.trans (uq_ne e26 (Or.inr (by decide))) (Eq.trans (congrFun (hV21 _ (K_old h_x hq17)) _) (uq_at e5))) r_p1 (uq_at e26) (hE30.arr h20) (by have e9 : p0 * p1 = 6 * p1 := (by rw [q_0]); omega)), (TBZ.mk (uq_at e26) h25.1 (by assumption) h25.2 hz23)⟩, KE.promote (KE.new KE.rf hq17 hK18) e29⟩

set_option maxHeartbeats 1000000 in
theorem t_X9_init {K : Kmap} {V : Vmap} {x : Nat} {p0 : Int} {p1 : Int} {p2 : Int} {p3 : Int} (h_x : K x = some (0, 20)) (r_p0 : ir p0) (r_p1 : ir p1) (r_p2 : ir p2) (r_p3 : ir p3) (q_0 : p2 ≥ 0) (q_1 : p2 ≤ 200) (q_2 : p3 ≥ 1) (q_3 : p3 ≤ 12) : MC mX9_init K V [.ref x, ti p0, ti p1, ti p2, ti p3] (VX (fun K1 V1 => (K1 x = some (0, 8) ∧ (NTX K K1 V1 x p0 p1 p2 p3)) ∧ KE K K1 x)) := by
  refine MC.start 0 (by decide +kernel) rfl rfl rfl (ls0 := [some (.ref x), some (ti p0), some (ti p1), some (ti p2), some (ti p3)]) rfl ?_
  refine GO.aload_n dX9_init_0 rfl rfl ?_
  refine GO.objInit dX9_init_1 gw_575 gw_27 gw_28 rfl rfl ?_
  refine GO.aload_n dX9_init_4 rfl rfl ?_
  refine GO.iconst dX9_init_5 ?_
  refine GO.putRW rfl (by decide +kernel) h_x fp_raw_fp_RX9_9 rfl rfl dX9_init_6 (fun V2 e1 => ?_)
  refine GO.aload_n dX9_init_9 rfl rfl ?_
  refine GO.iload_n dX9_init_10 rfl rfl ?_
  refine GO.putRF rfl rfl (by decide +kernel) h_x fp_raw_fp_RX9_15 rfl rfl dX9_init_11 (fun V4 e3 => ?_)
  refine GO.aload_n dX9_init_14 rfl rfl ?_
  refine GO.iload_n dX9_init_15 rfl rfl ?_
  refine GO.putRF rfl rfl (by decide +kernel) h_x fp_raw_fp_RX9_18 rfl rfl dX9_init_16 (fun V6 e5 => ?_)
  refine GO.aload_n dX9_init_19 rfl rfl ?_
  refine GO.new (ci := 19) (RX8, TX8, 4) tyX8 rfl rfl lays_7 tyX8_ok gw_576 gw_99 gw_5 rfl rfl dX9_init_20 (fun o7 K8 V14 hq9 hK10 hE11 h12 _ hV13 => ?_)
  have h15 := (by rw [hK10, updK_ne (K_old h_x hq9)]; exact h_x : K8 x = some (0, 20))
  have h16 := KE.nw KE.rf h_x hq9
  refine GO.dup dX9_init_23 rfl ?_
  refine GO.bipush dX9_init_24 rfl ?_
  refine GO.iload dX9_init_26 rfl ?_
  have q17 : -2147483648 ≤ p3 ∧ p3 ≤ 2147483647 := r_p3
  refine GO.callI (N := mX8_init_k33) dX9_init_28 gI_RX9_23 rfl (t_X8_init_k33 h12 (ir_c rfl) r_p3 (by omega) (by omega) (by omega)) rfl [.ref o7, .ref x] rfl rfl (Nat.le_of_ble_eq_true rfl) rfl (k_vx fun K20 V22 h21 hE19 hF18 => ?_)
  have h23 := h21.2 _ _ (K_ne h15 h12 (by decide)) h15
  have h24 := h21.1.1
  have ir0_28 := h21.1.2.2.1
  have ir1_28 := h21.1.2.2.2
  have q25 : vi V22 o7 3 = 0 := h21.1.2.1
  refine GO.putRF rfl rfl (by decide +kernel) h23 fp_raw_fp_RX9_26 rfl rfl dX9_init_31 (fun V27 e26 => ?_)
  refine GO.aload_n dX9_init_34 rfl rfl ?_
  refine GO.iconst dX9_init_35 ?_
  refine GO.iload_n dX9_init_36 rfl rfl ?_
  refine GO.callS (N := mJ9_max_7cf53) dX9_init_37 gS_RX9_30 (t_J9_max_7cf53 (ir_c rfl) r_p2) rfl [.ref x] rfl rfl (Nat.le_of_ble_eq_true rfl) rfl (k_ip fun X28 r29 h30 => ?_)
  have q31 : -2147483648 ≤ p2 ∧ p2 ≤ 2147483647 := r_p2
  have q32 : -2147483648 ≤ X28 ∧ X28 ≤ 2147483647 := r29
  refine GO.newIT 144 200 gw_89 rfl rfl (fun _ _ => okv_df rfl rfl rfl) r29 (by omega) (by omega) rfl (Or.inl rfl) rfl rfl dX9_init_40 (fun o33 K34 V40 hq35 hK36 hE37 h38 hz41 hV39 => ?_)
  have h42 := (by rw [hK36, updK_ne (K_old h23 hq35)]; exact h23 : K34 x = some (0, 20))
  have h43 := hE37.obj (by decide) h24
  have h44 := KE.nw (KE.call (KE.new KE.rf hq9 hK10) h21.2 h16) h23 hq35
  refine GO.putRF rfl rfl (by decide +kernel) h42 fp_raw_fp_RX9_36 rfl rfl dX9_init_42 (fun V46 e45 => ?_)
  refine GO.promote (ci := 8) rfl h42 (fun j hj => ?_) (fun K47 e48 hE49 h50 => ?_)
  ·
    have hj : j < 5 := hj
    match j, hj with
    | 0, _ => exact okv_any (Eq.trans (uq_ne e45 (Or.inr (by decide))) (Eq.trans (congrFun (hV39 _ (K_old h23 hq35)) _) (Eq.trans (uq_ne e26 (Or.inr (by decide))) (Eq.trans (hF18 _ _ _ h15 h23 (by decide +kernel)) (Eq.trans (congrFun (hV13 _ (K_old h_x hq9)) _) (Eq.trans (uq_ne e5 (Or.inr (by decide))) (uq_at e3)))))))
    | 1, _ => exact okv_any (Eq.trans (uq_ne e45 (Or.inr (by decide))) (Eq.trans (congrFun (hV39 _ (K_old h23 hq35)) _) (Eq.trans (uq_ne e26 (Or.inr (by decide))) (Eq.trans (hF18 _ _ _ h15 h23 (by decide +kernel)) (Eq.trans (congrFun (hV13 _ (K_old h_x hq9)) _) (uq_at e5))))))
    | 2, _ => exact ⟨_, (Eq.trans (uq_ne e45 (Or.inr (by decide))) (Eq.trans (congrFun (hV39 _ (K_old h23 hq35)) _) (uq_at e26))), h43⟩
    | 3, _ => exact ⟨_, (uq_at e45), ⟨_, h38⟩⟩
    | 4, _ => exact okv_any (Eq.trans (uq_ne e45 (Or.inr (by decide))) (Eq.trans (congrFun (hV39 _ (K_old h23 hq35)) _) (Eq.trans (uq_ne e26 (Or.inr (by decide))) (Eq.trans (hF18 _ _ _ h15 h23 (by decide +kernel)) (Eq.trans (congrFun (hV13 _ (K_old h_x hq9)) _) (Eq.trans (uq_ne e5 (Or.inr (by decide))) (Eq.trans (uq_ne e3 (Or.inr (by decide))) (uq_at e1))))))))
    | j + 5, hj => exact absurd hj (by omega)
  exact GO.retv rfl rfl dX9_init_45 ⟨rfl, ⟨h50, (NTX.mk (Eq.trans (uq_ne e45 (Or.inr (by decide))) (Eq.trans (congrFun (hV39 _ (K_old h23 hq35)) _) (Eq.trans (uq_ne e26 (Or.inr (by decide))) (Eq.trans (hF18 _ _ _ h15 h23 (by decide +kernel)) (Eq.trans (congrFun (hV13 _ (K_old h_x hq9)) _) (Eq.trans (uq_ne e5 (Or.inr (by decide))) (uq_at e3))))))) r_p0 (Eq.trans (uq_ne e45 (Or.inr (by decide))) (Eq.trans (congrFun (hV39 _ (K_old h23 hq35)) _) (Eq.trans (uq_ne e26 (Or.inr (by decide))) (Eq.trans (hF18 _ _ _ h15 h23 (by decide +kernel)) (Eq.trans (congrFun (hV13 _ (K_old h_x hq9)) _) (uq_at e5)))))) r_p1 (Eq.trans (uq_ne e45 (Or.inr (by decide))) (Eq.trans (congrFun (hV39 _ (K_old h23 hq35)) _) (Eq.trans (uq_ne e26 (Or.inr (by decide))) (Eq.trans (hF18 _ _ _ h15 h23 (by decide +kernel)) (Eq.trans (congrFun (hV13 _ (K_old h_x hq9)) _) (Eq.trans (uq_ne e5 (Or.inr (by decide))) (Eq.trans (uq_ne e3 (Or.inr (by decide))) (uq_at e1)))))))) (Eq.trans (uq_ne e45 (Or.inr (by decide))) (Eq.trans (congrFun (hV39 _ (K_old h23 hq35)) _) (uq_at e26))) (uq_at e45) (hE49.arr h38) (by omega) h44.1 (hE49.obj (by decide) h43) h16.1 h21.1.1 h21.1.2.1 ir0_28 ir1_28 hE11 (by assumption) hq35 (hE37.tr hE49) (by assumption) hV39 (by assumption))⟩, KE.promote (KE.new (KE.call (KE.new KE.rf hq9 hK10) h21.2 h16) hq35 hK36) e48⟩

set_option maxHeartbeats 1000000 in
theorem t_X10_init {K : Kmap} {V : Vmap} {x : Nat} {p0 : Int} {p1 : Int} {p2 : Int} {p3 : Int} {p4 : Int} (h_x : K x = some (0, 21)) (r_p0 : ir p0) (r_p1 : ir p1) (r_p2 : ir p2) (r_p3 : ir p3) (r_p4 : ir p4) : MC mX10_init K V [.ref x, ti p0, ti p1, ti p2, ti p3, ti p4] (VX (fun K1 V1 => (K1 x = some (0, 9) ∧ (wkr V1 x = (p0, p2, -1, -1, -1))) ∧ KE K K1 x)) := by
  refine MC.start 0 (by decide +kernel) rfl rfl rfl (ls0 := [some (.ref x), some (ti p0), some (ti p1), some (ti p2), some (ti p3), some (ti p4)]) rfl ?_
  refine GO.aload_n dX10_init_0 rfl rfl ?_
  refine GO.objInit dX10_init_1 gw_879 gw_27 gw_28 rfl rfl ?_
  refine GO.aload_n dX10_init_4 rfl rfl ?_
  refine GO.iconst dX10_init_5 ?_
  refine GO.putRW rfl (by decide +kernel) h_x fp_raw_fp_RX10_9 rfl rfl dX10_init_6 (fun V2 e1 => ?_)
  refine GO.aload_n dX10_init_9 rfl rfl ?_
  refine GO.iconst dX10_init_10 ?_
  refine GO.putRW rfl (by decide +kernel) h_x fp_raw_fp_RX10_15 rfl rfl dX10_init_11 (fun V4 e3 => ?_)
  refine GO.aload_n dX10_init_14 rfl rfl ?_
  refine GO.iconst dX10_init_15 ?_
  refine GO.putRW rfl (by decide +kernel) h_x fp_raw_fp_RX10_18 rfl rfl dX10_init_16 (fun V6 e5 => ?_)
  refine GO.aload_n dX10_init_19 rfl rfl ?_
  refine GO.iconst dX10_init_20 ?_
  refine GO.putRW rfl (by decide +kernel) h_x fp_raw_fp_RX10_21 rfl rfl dX10_init_21 (fun V8 e7 => ?_)
  refine GO.aload_n dX10_init_24 rfl rfl ?_
  refine GO.iconst dX10_init_25 ?_
  refine GO.putRW rfl (by decide +kernel) h_x fp_raw_fp_RX10_24 rfl rfl dX10_init_26 (fun V10 e9 => ?_)
  refine GO.aload_n dX10_init_29 rfl rfl ?_
  refine GO.iconst dX10_init_30 ?_
  refine GO.putRW rfl (by decide +kernel) h_x fp_raw_fp_RX10_27 rfl rfl dX10_init_31 (fun V12 e11 => ?_)
  refine GO.aload_n dX10_init_34 rfl rfl ?_
  refine GO.iconst dX10_init_35 ?_
  refine GO.putRW rfl (by decide +kernel) h_x fp_raw_fp_RX10_30 rfl rfl dX10_init_36 (fun V14 e13 => ?_)
  refine GO.aload_n dX10_init_39 rfl rfl ?_
  refine GO.iconst dX10_init_40 ?_
  refine GO.putRW rfl (by decide +kernel) h_x fp_raw_fp_RX10_33 rfl rfl dX10_init_41 (fun V16 e15 => ?_)
  refine GO.aload_n dX10_init_44 rfl rfl ?_
  refine GO.iconst dX10_init_45 ?_
  refine GO.putRW rfl (by decide +kernel) h_x fp_raw_fp_RX10_36 rfl rfl dX10_init_46 (fun V18 e17 => ?_)
  refine GO.aload_n dX10_init_49 rfl rfl ?_
  refine GO.iconst dX10_init_50 ?_
  refine GO.putRW rfl (by decide +kernel) h_x fp_raw_fp_RX10_39 rfl rfl dX10_init_51 (fun V20 e19 => ?_)
  refine GO.aload_n dX10_init_54 rfl rfl ?_
  refine GO.iload_n dX10_init_55 rfl rfl ?_
  refine GO.putRF rfl rfl (by decide +kernel) h_x fp_raw_fp_RX10_42 rfl rfl dX10_init_56 (fun V22 e21 => ?_)
  refine GO.aload_n dX10_init_59 rfl rfl ?_
  refine GO.iload_n dX10_init_60 rfl rfl ?_
  refine GO.putRF rfl rfl (by decide +kernel) h_x fp_raw_fp_RX10_45 rfl rfl dX10_init_61 (fun V24 e23 => ?_)
  refine GO.aload_n dX10_init_64 rfl rfl ?_
  refine GO.iload_n dX10_init_65 rfl rfl ?_
  refine GO.putRF rfl rfl (by decide +kernel) h_x fp_raw_fp_RX10_48 rfl rfl dX10_init_66 (fun V26 e25 => ?_)
  refine GO.aload_n dX10_init_69 rfl rfl ?_
  refine GO.iload dX10_init_70 rfl ?_
  refine GO.putRF rfl rfl (by decide +kernel) h_x fp_raw_fp_RX10_51 rfl rfl dX10_init_72 (fun V28 e27 => ?_)
  refine GO.aload_n dX10_init_75 rfl rfl ?_
  refine GO.iload dX10_init_76 rfl ?_
  refine GO.putRF rfl rfl (by decide +kernel) h_x fp_raw_fp_RX10_54 rfl rfl dX10_init_78 (fun V30 e29 => ?_)
  refine GO.promote (ci := 9) rfl h_x (fun j hj => ?_) (fun K31 e32 hE33 h34 => ?_)
  ·
    have hj : j < 15 := hj
    match j, hj with
    | 0, _ => exact okv_any (Eq.trans (uq_ne e29 (Or.inr (by decide))) (Eq.trans (uq_ne e27 (Or.inr (by decide))) (Eq.trans (uq_ne e25 (Or.inr (by decide))) (Eq.trans (uq_ne e23 (Or.inr (by decide))) (uq_at e21)))))
    | 1, _ => exact okv_any (Eq.trans (uq_ne e29 (Or.inr (by decide))) (Eq.trans (uq_ne e27 (Or.inr (by decide))) (Eq.trans (uq_ne e25 (Or.inr (by decide))) (uq_at e23))))
    | 2, _ => exact okv_any (Eq.trans (uq_ne e29 (Or.inr (by decide))) (Eq.trans (uq_ne e27 (Or.inr (by decide))) (uq_at e25)))
    | 3, _ => exact okv_any (Eq.trans (uq_ne e29 (Or.inr (by decide))) (uq_at e27))
    | 4, _ => exact okv_any (uq_at e29)
    | 5, _ => exact okv_any (Eq.trans (uq_ne e29 (Or.inr (by decide))) (Eq.trans (uq_ne e27 (Or.inr (by decide))) (Eq.trans (uq_ne e25 (Or.inr (by decide))) (Eq.trans (uq_ne e23 (Or.inr (by decide))) (Eq.trans (uq_ne e21 (Or.inr (by decide))) (Eq.trans (uq_ne e19 (Or.inr (by decide))) (Eq.trans (uq_ne e17 (Or.inr (by decide))) (Eq.trans (uq_ne e15 (Or.inr (by decide))) (Eq.trans (uq_ne e13 (Or.inr (by decide))) (Eq.trans (uq_ne e11 (Or.inr (by decide))) (Eq.trans (uq_ne e9 (Or.inr (by decide))) (Eq.trans (uq_ne e7 (Or.inr (by decide))) (Eq.trans (uq_ne e5 (Or.inr (by decide))) (Eq.trans (uq_ne e3 (Or.inr (by decide))) (uq_at e1)))))))))))))))
    | 6, _ => exact okv_any (Eq.trans (uq_ne e29 (Or.inr (by decide))) (Eq.trans (uq_ne e27 (Or.inr (by decide))) (Eq.trans (uq_ne e25 (Or.inr (by decide))) (Eq.trans (uq_ne e23 (Or.inr (by decide))) (Eq.trans (uq_ne e21 (Or.inr (by decide))) (Eq.trans (uq_ne e19 (Or.inr (by decide))) (Eq.trans (uq_ne e17 (Or.inr (by decide))) (Eq.trans (uq_ne e15 (Or.inr (by decide))) (Eq.trans (uq_ne e13 (Or.inr (by decide))) (Eq.trans (uq_ne e11 (Or.inr (by decide))) (Eq.trans (uq_ne e9 (Or.inr (by decide))) (Eq.trans (uq_ne e7 (Or.inr (by decide))) (Eq.trans (uq_ne e5 (Or.inr (by decide))) (uq_at e3))))))))))))))
    | 7, _ => exact okv_any (Eq.trans (uq_ne e29 (Or.inr (by decide))) (Eq.trans (uq_ne e27 (Or.inr (by decide))) (Eq.trans (uq_ne e25 (Or.inr (by decide))) (Eq.trans (uq_ne e23 (Or.inr (by decide))) (Eq.trans (uq_ne e21 (Or.inr (by decide))) (Eq.trans (uq_ne e19 (Or.inr (by decide))) (Eq.trans (uq_ne e17 (Or.inr (by decide))) (Eq.trans (uq_ne e15 (Or.inr (by decide))) (Eq.trans (uq_ne e13 (Or.inr (by decide))) (Eq.trans (uq_ne e11 (Or.inr (by decide))) (Eq.trans (uq_ne e9 (Or.inr (by decide))) (Eq.trans (uq_ne e7 (Or.inr (by decide))) (uq_at e5)))))))))))))
    | 8, _ => exact okv_any (Eq.trans (uq_ne e29 (Or.inr (by decide))) (Eq.trans (uq_ne e27 (Or.inr (by decide))) (Eq.trans (uq_ne e25 (Or.inr (by decide))) (Eq.trans (uq_ne e23 (Or.inr (by decide))) (Eq.trans (uq_ne e21 (Or.inr (by decide))) (Eq.trans (uq_ne e19 (Or.inr (by decide))) (Eq.trans (uq_ne e17 (Or.inr (by decide))) (Eq.trans (uq_ne e15 (Or.inr (by decide))) (Eq.trans (uq_ne e13 (Or.inr (by decide))) (Eq.trans (uq_ne e11 (Or.inr (by decide))) (Eq.trans (uq_ne e9 (Or.inr (by decide))) (uq_at e7))))))))))))
    | 9, _ => exact okv_any (Eq.trans (uq_ne e29 (Or.inr (by decide))) (Eq.trans (uq_ne e27 (Or.inr (by decide))) (Eq.trans (uq_ne e25 (Or.inr (by decide))) (Eq.trans (uq_ne e23 (Or.inr (by decide))) (Eq.trans (uq_ne e21 (Or.inr (by decide))) (Eq.trans (uq_ne e19 (Or.inr (by decide))) (Eq.trans (uq_ne e17 (Or.inr (by decide))) (Eq.trans (uq_ne e15 (Or.inr (by decide))) (Eq.trans (uq_ne e13 (Or.inr (by decide))) (Eq.trans (uq_ne e11 (Or.inr (by decide))) (uq_at e9)))))))))))
    | 10, _ => exact okv_any (Eq.trans (uq_ne e29 (Or.inr (by decide))) (Eq.trans (uq_ne e27 (Or.inr (by decide))) (Eq.trans (uq_ne e25 (Or.inr (by decide))) (Eq.trans (uq_ne e23 (Or.inr (by decide))) (Eq.trans (uq_ne e21 (Or.inr (by decide))) (Eq.trans (uq_ne e19 (Or.inr (by decide))) (Eq.trans (uq_ne e17 (Or.inr (by decide))) (Eq.trans (uq_ne e15 (Or.inr (by decide))) (Eq.trans (uq_ne e13 (Or.inr (by decide))) (uq_at e11))))))))))
    | 11, _ => exact okv_any (Eq.trans (uq_ne e29 (Or.inr (by decide))) (Eq.trans (uq_ne e27 (Or.inr (by decide))) (Eq.trans (uq_ne e25 (Or.inr (by decide))) (Eq.trans (uq_ne e23 (Or.inr (by decide))) (Eq.trans (uq_ne e21 (Or.inr (by decide))) (Eq.trans (uq_ne e19 (Or.inr (by decide))) (Eq.trans (uq_ne e17 (Or.inr (by decide))) (Eq.trans (uq_ne e15 (Or.inr (by decide))) (uq_at e13)))))))))
    | 12, _ => exact okv_any (Eq.trans (uq_ne e29 (Or.inr (by decide))) (Eq.trans (uq_ne e27 (Or.inr (by decide))) (Eq.trans (uq_ne e25 (Or.inr (by decide))) (Eq.trans (uq_ne e23 (Or.inr (by decide))) (Eq.trans (uq_ne e21 (Or.inr (by decide))) (Eq.trans (uq_ne e19 (Or.inr (by decide))) (Eq.trans (uq_ne e17 (Or.inr (by decide))) (uq_at e15))))))))
    | 13, _ => exact okv_any (Eq.trans (uq_ne e29 (Or.inr (by decide))) (Eq.trans (uq_ne e27 (Or.inr (by decide))) (Eq.trans (uq_ne e25 (Or.inr (by decide))) (Eq.trans (uq_ne e23 (Or.inr (by decide))) (Eq.trans (uq_ne e21 (Or.inr (by decide))) (Eq.trans (uq_ne e19 (Or.inr (by decide))) (uq_at e17)))))))
    | 14, _ => exact okv_any (Eq.trans (uq_ne e29 (Or.inr (by decide))) (Eq.trans (uq_ne e27 (Or.inr (by decide))) (Eq.trans (uq_ne e25 (Or.inr (by decide))) (Eq.trans (uq_ne e23 (Or.inr (by decide))) (Eq.trans (uq_ne e21 (Or.inr (by decide))) (uq_at e19))))))
    | j + 15, hj => exact absurd hj (by omega)
  exact GO.retv rfl rfl dX10_init_81 ⟨rfl, ⟨h34, (wkr_new (Eq.trans (uq_ne e29 (Or.inr (by decide))) (Eq.trans (uq_ne e27 (Or.inr (by decide))) (Eq.trans (uq_ne e25 (Or.inr (by decide))) (Eq.trans (uq_ne e23 (Or.inr (by decide))) (uq_at e21))))) (Eq.trans (uq_ne e29 (Or.inr (by decide))) (Eq.trans (uq_ne e27 (Or.inr (by decide))) (uq_at e25))) (Eq.trans (uq_ne e29 (Or.inr (by decide))) (Eq.trans (uq_ne e27 (Or.inr (by decide))) (Eq.trans (uq_ne e25 (Or.inr (by decide))) (Eq.trans (uq_ne e23 (Or.inr (by decide))) (Eq.trans (uq_ne e21 (Or.inr (by decide))) (Eq.trans (uq_ne e19 (Or.inr (by decide))) (Eq.trans (uq_ne e17 (Or.inr (by decide))) (Eq.trans (uq_ne e15 (Or.inr (by decide))) (Eq.trans (uq_ne e13 (Or.inr (by decide))) (Eq.trans (uq_ne e11 (Or.inr (by decide))) (uq_at e9))))))))))) (Eq.trans (uq_ne e29 (Or.inr (by decide))) (Eq.trans (uq_ne e27 (Or.inr (by decide))) (Eq.trans (uq_ne e25 (Or.inr (by decide))) (Eq.trans (uq_ne e23 (Or.inr (by decide))) (Eq.trans (uq_ne e21 (Or.inr (by decide))) (Eq.trans (uq_ne e19 (Or.inr (by decide))) (Eq.trans (uq_ne e17 (Or.inr (by decide))) (Eq.trans (uq_ne e15 (Or.inr (by decide))) (Eq.trans (uq_ne e13 (Or.inr (by decide))) (uq_at e11)))))))))) (Eq.trans (uq_ne e29 (Or.inr (by decide))) (Eq.trans (uq_ne e27 (Or.inr (by decide))) (Eq.trans (uq_ne e25 (Or.inr (by decide))) (Eq.trans (uq_ne e23 (Or.inr (by decide))) (Eq.trans (uq_ne e21 (Or.inr (by decide))) (Eq.trans (uq_ne e19 (Or.inr (by decide))) (Eq.trans (uq_ne e17 (Or.inr (by decide))) (Eq.trans (uq_ne e15 (Or.inr (by decide))) (uq_at e13))))))))) r_p0 r_p2)⟩, KE.promote KE.rf e32⟩

set_option maxHeartbeats 1000000 in
theorem t_X11_between {K : Kmap} {V : Vmap} {p0 : Int} {p1 : Int} {p2 : Int} (r_p0 : ir p0) (r_p1 : ir p1) (r_p2 : ir p2) : MC mX11_between K V [ti p0, ti p1, ti p2] (IP K V (fun X => (X = 0 ∨ X = 1) ∧ (X ≠ 0 → p0 ≥ p1 ∧ p0 ≤ p2) ∧ (X = 0 → (p0 < p1 ∨ p0 > p2)))) := by
  refine MC.start 0 (by decide +kernel) rfl rfl rfl (ls0 := [some (ti p0), some (ti p1), some (ti p2)]) rfl ?_
  refine GO.iload_n dX11_between_0 rfl rfl ?_
  refine GO.iload_n dX11_between_1 rfl rfl ?_
  refine GO.icmp_lt (tgt := 14) dX11_between_2 (by decide) r_p0 r_p1 (fun c1 => ?_) (fun c1 => ?_)
  ·
    refine GO.iconst dX11_between_14 ?_
    exact GO.retz rfl rfl dX11_between_15 (Or.inl rfl) ⟨rfl, rfl, _, rfl, (ir_c rfl), ⟨Or.inl rfl, fun h => absurd rfl h, fun h => by omega⟩⟩
  ·
    refine GO.iload_n dX11_between_5 rfl rfl ?_
    refine GO.iload_n dX11_between_6 rfl rfl ?_
    refine GO.icmp_gt (tgt := 14) dX11_between_7 (by decide) r_p0 r_p2 (fun c2 => ?_) (fun c2 => ?_)
    ·
      refine GO.iconst dX11_between_14 ?_
      exact GO.retz rfl rfl dX11_between_15 (Or.inl rfl) ⟨rfl, rfl, _, rfl, (ir_c rfl), ⟨Or.inl rfl, fun h => absurd rfl h, fun h => by omega⟩⟩
    ·
      refine GO.iconst dX11_between_10 ?_
      refine GO.goto (tgt := 15) dX11_between_11 (by decide) ?_
      exact GO.retz rfl rfl dX11_between_15 (Or.inr rfl) ⟨rfl, rfl, _, rfl, (ir_c rfl), ⟨Or.inr rfl, fun h => by omega, fun h => absurd h (by decide)⟩⟩

set_option maxHeartbeats 1000000 in
theorem t_X11_ice {K : Kmap} {V : Vmap} {x : Nat} {p0 : Int} {p1 : Int} (h_x : K x = some (0, 10)) (r_p0 : ir p0) (r_p1 : ir p1) : MC mX11_ice K V [.ref x, ti p0, ti p1] (IS K (fun X V1 => (X = 0 ∨ X = 1) ∧ (X ≠ 0 → True) ∧ (X = 0 → True) ∧ (ICC V V1 x p0 p1 X))) := by
  refine MC.start 0 (by decide +kernel) rfl rfl rfl (ls0 := [some (.ref x), some (ti p0), some (ti p1)]) rfl ?_
  refine GO.iload_n dX11_ice_0 rfl rfl ?_
  refine GO.iconst dX11_ice_1 ?_
  refine GO.bipush dX11_ice_2 rfl ?_
  refine GO.callS (N := mX11_between) dX11_ice_4 gS_RX11_112 (t_X11_between r_p0 (ir_c rfl) (ir_c rfl)) rfl [] rfl rfl (Nat.le_of_ble_eq_true rfl) rfl (k_ip fun X1 r2 h3 => ?_)
  refine GO.if_eq (tgt := 34) dX11_ice_7 (by decide) r2 (fun c4 => ?_) (fun c4 => ?_)
  ·
    have q5 := h3.2.2 (by omega)
    refine GO.iconst dX11_ice_34 ?_
    exact GO.retz rfl rfl dX11_ice_35 (Or.inl rfl) ⟨rfl, _, rfl, (ir_c rfl), ⟨Or.inl rfl, fun _ => trivial, fun _ => trivial, (by first | exact ICC.no (by unfold ICD; omega) rfl)⟩⟩
  ·
    have q6 := h3.2.1 (by omega)
    refine GO.iload_n dX11_ice_10 rfl rfl ?_
    refine GO.iconst dX11_ice_11 ?_
    refine GO.bipush dX11_ice_12 rfl ?_
    refine GO.callS (N := mX11_between) dX11_ice_14 gS_RX11_112 (t_X11_between r_p1 (ir_c rfl) (ir_c rfl)) rfl [] rfl rfl (Nat.le_of_ble_eq_true rfl) rfl (k_ip fun X7 r8 h9 => ?_)
    refine GO.if_eq (tgt := 34) dX11_ice_17 (by decide) r8 (fun c10 => ?_) (fun c10 => ?_)
    ·
      have q11 := h9.2.2 (by omega)
      refine GO.iconst dX11_ice_34 ?_
      exact GO.retz rfl rfl dX11_ice_35 (Or.inl rfl) ⟨rfl, _, rfl, (ir_c rfl), ⟨Or.inl rfl, fun _ => trivial, fun _ => trivial, (by first | exact ICC.no (by unfold ICD; omega) rfl)⟩⟩
    ·
      have q12 := h9.2.1 (by omega)
      refine GO.aload_n dX11_ice_20 rfl rfl ?_
      refine GO.getI h_x fl_RX11_46 rfl rfl dX11_ice_21 (fun l13 u14 => ?_)
      refine GO.if_gt (tgt := 34) dX11_ice_24 (by decide) vi_ir (fun c15 => ?_) (fun c15 => ?_)
      ·
        refine GO.iconst dX11_ice_34 ?_
        exact GO.retz rfl rfl dX11_ice_35 (Or.inl rfl) ⟨rfl, _, rfl, (ir_c rfl), ⟨Or.inl rfl, fun _ => trivial, fun _ => trivial, (by first | exact ICC.no (by unfold ICD; omega) rfl)⟩⟩
      ·
        refine GO.aload_n dX11_ice_27 rfl rfl ?_
        refine GO.getI h_x fl_RX11_55 rfl rfl dX11_ice_28 (fun l16 u17 => ?_)
        refine GO.if_le (tgt := 36) dX11_ice_31 (by decide) vi_ir (fun c18 => ?_) (fun c18 => ?_)
        ·
          refine GO.aload_n dX11_ice_36 rfl rfl ?_
          refine GO.getR h_x fl_RX11_12 rfl rfl dX11_ice_37 (fun hv20 h19 => ?_)
          refine GO.iload_n dX11_ice_40 rfl rfl ?_
          refine GO.iload_n dX11_ice_41 rfl rfl ?_
          have q21 : -2147483648 ≤ p0 ∧ p0 ≤ 2147483647 := r_p0
          have q22 : -2147483648 ≤ p1 ∧ p1 ≤ 2147483647 := r_p1
          refine GO.callV (ci := 0) (N := mX0_lay) dX11_ice_42 (RX0, TX0, 13) rfl gV_RX11_116 h19 (t_X0_lay h19 r_p0 r_p1 (by omega) (by omega) (by omega) (by omega)) rfl [] rfl rfl (Nat.le_of_ble_eq_true rfl) rfl (k_vs fun V25 h24 hF23 => ?_)
          have raw_lay := h24.2
          have rw42 := h24.2
          refine GO.iconst dX11_ice_45 ?_
          exact GO.retz rfl rfl dX11_ice_46 (Or.inr rfl) ⟨rfl, _, rfl, (ir_c rfl), ⟨Or.inr rfl, fun _ => trivial, fun _ => trivial, (by first | exact ICC.no (by unfold ICD; omega) rfl | exact ICC.ok (by unfold ICD; omega) rfl rw42 (vq_eq (hF23 _ _ 0 h_x h_x (by decide +kernel))))⟩⟩
        ·
          refine GO.iconst dX11_ice_34 ?_
          exact GO.retz rfl rfl dX11_ice_35 (Or.inl rfl) ⟨rfl, _, rfl, (ir_c rfl), ⟨Or.inl rfl, fun _ => trivial, fun _ => trivial, (by first | exact ICC.no (by unfold ICD; omega) rfl)⟩⟩

set_option maxHeartbeats 1000000 in
theorem t_X4_put_t125 {K : Kmap} {V : Vmap} {p0 n_p0 : Nat} {p1 : Int} {p2 : Int} (h_p0 : K p0 = some (126, n_p0)) (r_p1 : ir p1) (r_p2 : ir p2) : MC mX4_put_t125 K V [.ref p0, ti p1, ti p2] (VS K (fun V1 => (True) ∧ (V1 = rpv V p0 n_p0 p1 p2))) := by
  refine MC.start 0 (by decide +kernel) rfl rfl rfl (ls0 := [some (.ref p0), some (ti p1), some (ti p2)]) rfl ?_
  refine GO.aload_n dX4_put_0 rfl rfl ?_
  refine GO.ifnull dX4_put_1 ?_
  refine GO.iload_n dX4_put_4 rfl rfl ?_
  refine GO.if_lt (tgt := 18) dX4_put_5 (by decide) r_p1 (fun c1 => ?_) (fun c1 => ?_)
  ·
    exact GO.retv rfl rfl dX4_put_18 ⟨rfl, rfl, ⟨trivial, (by first | exact rpv_in (by assumption) (by omega) (by omega) | exact rpv_out (by omega))⟩⟩
  ·
    refine GO.iload_n dX4_put_8 rfl rfl ?_
    refine GO.aload_n dX4_put_9 rfl rfl ?_
    refine GO.alen h_p0 dX4_put_10 (fun h2 => ?_)
    refine GO.icmp_ge (tgt := 18) dX4_put_11 (by decide) r_p1 ⟨by omega, by omega⟩ (fun c3 => ?_) (fun c3 => ?_)
    ·
      exact GO.retv rfl rfl dX4_put_18 ⟨rfl, rfl, ⟨trivial, (by first | exact rpv_in (by assumption) (by omega) (by omega) | exact rpv_out (by omega))⟩⟩
    ·
      refine GO.aload_n dX4_put_14 rfl rfl ?_
      refine GO.iload_n dX4_put_15 rfl rfl ?_
      refine GO.iload_n dX4_put_16 rfl rfl ?_
      have q4 : -2147483648 ≤ p1 ∧ p1 ≤ 2147483647 := r_p1
      refine GO.iast (t := 125) rfl rfl (by decide +kernel) h_p0 r_p1 (by omega) (by omega) r_p2 (r_p2).1 (r_p2).2 dX4_put_17 (fun V6 e5 => ?_)
      exact GO.retv rfl rfl dX4_put_18 ⟨rfl, rfl, ⟨trivial, (by first | exact rpv_in (by assumption) (by omega) (by omega) | exact rpv_out (by omega))⟩⟩

set_option maxHeartbeats 1000000 in
theorem t_X4_put_t126 {K : Kmap} {V : Vmap} {p0 n_p0 : Nat} {p1 : Int} {p2 : Int} (h_p0 : K p0 = some (127, n_p0)) (r_p1 : ir p1) (r_p2 : ir p2) : MC mX4_put_t126 K V [.ref p0, ti p1, ti p2] (VS K (fun V1 => (True) ∧ (V1 = rpv V p0 n_p0 p1 p2))) := by
  refine MC.start 0 (by decide +kernel) rfl rfl rfl (ls0 := [some (.ref p0), some (ti p1), some (ti p2)]) rfl ?_
  refine GO.aload_n dX4_put_0 rfl rfl ?_
  refine GO.ifnull dX4_put_1 ?_
  refine GO.iload_n dX4_put_4 rfl rfl ?_
  refine GO.if_lt (tgt := 18) dX4_put_5 (by decide) r_p1 (fun c1 => ?_) (fun c1 => ?_)
  ·
    exact GO.retv rfl rfl dX4_put_18 ⟨rfl, rfl, ⟨trivial, (by first | exact rpv_in (by assumption) (by omega) (by omega) | exact rpv_out (by omega))⟩⟩
  ·
    refine GO.iload_n dX4_put_8 rfl rfl ?_
    refine GO.aload_n dX4_put_9 rfl rfl ?_
    refine GO.alen h_p0 dX4_put_10 (fun h2 => ?_)
    refine GO.icmp_ge (tgt := 18) dX4_put_11 (by decide) r_p1 ⟨by omega, by omega⟩ (fun c3 => ?_) (fun c3 => ?_)
    ·
      exact GO.retv rfl rfl dX4_put_18 ⟨rfl, rfl, ⟨trivial, (by first | exact rpv_in (by assumption) (by omega) (by omega) | exact rpv_out (by omega))⟩⟩
    ·
      refine GO.aload_n dX4_put_14 rfl rfl ?_
      refine GO.iload_n dX4_put_15 rfl rfl ?_
      refine GO.iload_n dX4_put_16 rfl rfl ?_
      have q4 : -2147483648 ≤ p1 ∧ p1 ≤ 2147483647 := r_p1
      refine GO.iast (t := 126) rfl rfl (by decide +kernel) h_p0 r_p1 (by omega) (by omega) r_p2 (r_p2).1 (r_p2).2 dX4_put_17 (fun V6 e5 => ?_)
      exact GO.retv rfl rfl dX4_put_18 ⟨rfl, rfl, ⟨trivial, (by first | exact rpv_in (by assumption) (by omega) (by omega) | exact rpv_out (by omega))⟩⟩

set_option maxHeartbeats 1000000 in
theorem t_X4_put_t127 {K : Kmap} {V : Vmap} {p0 n_p0 : Nat} {p1 : Int} {p2 : Int} (h_p0 : K p0 = some (128, n_p0)) (r_p1 : ir p1) (r_p2 : ir p2) : MC mX4_put_t127 K V [.ref p0, ti p1, ti p2] (VS K (fun V1 => (True) ∧ (V1 = rpv V p0 n_p0 p1 p2))) := by
  refine MC.start 0 (by decide +kernel) rfl rfl rfl (ls0 := [some (.ref p0), some (ti p1), some (ti p2)]) rfl ?_
  refine GO.aload_n dX4_put_0 rfl rfl ?_
  refine GO.ifnull dX4_put_1 ?_
  refine GO.iload_n dX4_put_4 rfl rfl ?_
  refine GO.if_lt (tgt := 18) dX4_put_5 (by decide) r_p1 (fun c1 => ?_) (fun c1 => ?_)
  ·
    exact GO.retv rfl rfl dX4_put_18 ⟨rfl, rfl, ⟨trivial, (by first | exact rpv_in (by assumption) (by omega) (by omega) | exact rpv_out (by omega))⟩⟩
  ·
    refine GO.iload_n dX4_put_8 rfl rfl ?_
    refine GO.aload_n dX4_put_9 rfl rfl ?_
    refine GO.alen h_p0 dX4_put_10 (fun h2 => ?_)
    refine GO.icmp_ge (tgt := 18) dX4_put_11 (by decide) r_p1 ⟨by omega, by omega⟩ (fun c3 => ?_) (fun c3 => ?_)
    ·
      exact GO.retv rfl rfl dX4_put_18 ⟨rfl, rfl, ⟨trivial, (by first | exact rpv_in (by assumption) (by omega) (by omega) | exact rpv_out (by omega))⟩⟩
    ·
      refine GO.aload_n dX4_put_14 rfl rfl ?_
      refine GO.iload_n dX4_put_15 rfl rfl ?_
      refine GO.iload_n dX4_put_16 rfl rfl ?_
      have q4 : -2147483648 ≤ p1 ∧ p1 ≤ 2147483647 := r_p1
      refine GO.iast (t := 127) rfl rfl (by decide +kernel) h_p0 r_p1 (by omega) (by omega) r_p2 (r_p2).1 (r_p2).2 dX4_put_17 (fun V6 e5 => ?_)
      exact GO.retv rfl rfl dX4_put_18 ⟨rfl, rfl, ⟨trivial, (by first | exact rpv_in (by assumption) (by omega) (by omega) | exact rpv_out (by omega))⟩⟩

set_option maxHeartbeats 1000000 in
theorem t_X4_put_t128 {K : Kmap} {V : Vmap} {p0 n_p0 : Nat} {p1 : Int} {p2 : Int} (h_p0 : K p0 = some (129, n_p0)) (r_p1 : ir p1) (r_p2 : ir p2) : MC mX4_put_t128 K V [.ref p0, ti p1, ti p2] (VS K (fun V1 => (True) ∧ (V1 = rpv V p0 n_p0 p1 p2))) := by
  refine MC.start 0 (by decide +kernel) rfl rfl rfl (ls0 := [some (.ref p0), some (ti p1), some (ti p2)]) rfl ?_
  refine GO.aload_n dX4_put_0 rfl rfl ?_
  refine GO.ifnull dX4_put_1 ?_
  refine GO.iload_n dX4_put_4 rfl rfl ?_
  refine GO.if_lt (tgt := 18) dX4_put_5 (by decide) r_p1 (fun c1 => ?_) (fun c1 => ?_)
  ·
    exact GO.retv rfl rfl dX4_put_18 ⟨rfl, rfl, ⟨trivial, (by first | exact rpv_in (by assumption) (by omega) (by omega) | exact rpv_out (by omega))⟩⟩
  ·
    refine GO.iload_n dX4_put_8 rfl rfl ?_
    refine GO.aload_n dX4_put_9 rfl rfl ?_
    refine GO.alen h_p0 dX4_put_10 (fun h2 => ?_)
    refine GO.icmp_ge (tgt := 18) dX4_put_11 (by decide) r_p1 ⟨by omega, by omega⟩ (fun c3 => ?_) (fun c3 => ?_)
    ·
      exact GO.retv rfl rfl dX4_put_18 ⟨rfl, rfl, ⟨trivial, (by first | exact rpv_in (by assumption) (by omega) (by omega) | exact rpv_out (by omega))⟩⟩
    ·
      refine GO.aload_n dX4_put_14 rfl rfl ?_
      refine GO.iload_n dX4_put_15 rfl rfl ?_
      refine GO.iload_n dX4_put_16 rfl rfl ?_
      have q4 : -2147483648 ≤ p1 ∧ p1 ≤ 2147483647 := r_p1
      refine GO.iast (t := 128) rfl rfl (by decide +kernel) h_p0 r_p1 (by omega) (by omega) r_p2 (r_p2).1 (r_p2).2 dX4_put_17 (fun V6 e5 => ?_)
      exact GO.retv rfl rfl dX4_put_18 ⟨rfl, rfl, ⟨trivial, (by first | exact rpv_in (by assumption) (by omega) (by omega) | exact rpv_out (by omega))⟩⟩

set_option maxHeartbeats 8000000 in
theorem t_X11_cell {K : Kmap} {V : Vmap} {x : Nat} {p0 : Int} {p1 : Int} {p2 : Int} {p3 : Int} {p4 : Int} (h_x : K x = some (0, 10)) (r_p0 : ir p0) (r_p1 : ir p1) (r_p2 : ir p2) (r_p3 : ir p3) (r_p4 : ir p4) : MC mX11_cell K V [.ref x, ti p0, ti p1, ti p2, ti p3, ti p4] (IS K (fun X V1 => (X = 0 ∨ X = 1) ∧ (X ≠ 0 → True) ∧ (X = 0 → True) ∧ (CEC V V1 x p0 p1 p2 p3 p4 X))) := by
  refine MC.start 2 (by decide +kernel) rfl rfl rfl (ls0 := [some (.ref x), some (ti p0), some (ti p1), some (ti p2), some (ti p3), some (ti p4), none, none]) rfl ?_
  refine GO.useWT (fun hW_0 => ?_)
  refine GO.iload dX11_cell_0 rfl ?_
  refine GO.iconst dX11_cell_2 ?_
  refine GO.icmp_ne (tgt := 15) dX11_cell_3 (by decide) r_p3 (ir_c rfl) (fun c1 => ?_) (fun c1 => ?_)
  ·
    refine GO.iconst dX11_cell_15 ?_
    refine GO.istore (ls1 := [some (.ref x), some (ti p0), some (ti p1), some (ti p2), some (ti p3), some (ti p4), some (ti 0), none]) dX11_cell_16 rfl rfl ?_
    refine GO.iload dX11_cell_18 rfl ?_
    refine GO.iconst dX11_cell_20 ?_
    refine GO.bipush dX11_cell_21 rfl ?_
    refine GO.callS (N := mX11_between) dX11_cell_23 gS_RX11_112 (t_X11_between r_p3 (ir_c rfl) (ir_c rfl)) rfl [] rfl rfl (Nat.le_of_ble_eq_true rfl) rfl (k_ip fun X2 r3 h4 => ?_)
    refine GO.if_eq (tgt := 46) dX11_cell_26 (by decide) r3 (fun c5 => ?_) (fun c5 => ?_)
    ·
      have q6 := h4.2.2 (by omega)
      refine GO.iconst dX11_cell_46 ?_
      refine GO.istore (ls1 := [some (.ref x), some (ti p0), some (ti p1), some (ti p2), some (ti p3), some (ti p4), some (ti 0), some (ti 0)]) dX11_cell_47 rfl rfl ?_
      refine GO.aload_n dX11_cell_49 rfl rfl ?_
      refine GO.getR h_x fl_RX11_12 rfl rfl dX11_cell_50 (fun hv8 h7 => ?_)
      refine GO.iload_n dX11_cell_53 rfl rfl ?_
      refine GO.callV (ci := 0) (N := mX0_isCell) dX11_cell_54 (RX0, TX0, 13) rfl gV_RX11_119 h7 (t_X0_isCell h7 r_p0) rfl [] rfl rfl (Nat.le_of_ble_eq_true rfl) rfl (k_ip fun X9 r10 h11 => ?_)
      have raw_isCell := h11.2.2.2
      have rw54 := h11.2.2.2
      refine GO.if_eq (tgt := 89) dX11_cell_57 (by decide) r10 (fun c12 => ?_) (fun c12 => ?_)
      ·
        refine GO.iconst dX11_cell_89 ?_
        exact GO.retz rfl rfl dX11_cell_90 (Or.inl rfl) ⟨rfl, _, rfl, (ir_c rfl), ⟨Or.inl rfl, fun _ => trivial, fun _ => trivial, (by first | exact CEC.no (by unfold CED; omega) rfl | exact CEC.no (fun g => absurd (rw54.mpr g.1) (by omega)) rfl)⟩⟩
      ·
        refine GO.iload_n dX11_cell_60 rfl rfl ?_
        refine GO.iconst dX11_cell_61 ?_
        refine GO.bipush dX11_cell_62 rfl ?_
        refine GO.callS (N := mX11_between) dX11_cell_64 gS_RX11_112 (t_X11_between r_p1 (ir_c rfl) (ir_c rfl)) rfl [] rfl rfl (Nat.le_of_ble_eq_true rfl) rfl (k_ip fun X13 r14 h15 => ?_)
        refine GO.if_eq (tgt := 89) dX11_cell_67 (by decide) r14 (fun c16 => ?_) (fun c16 => ?_)
        ·
          have q17 := h15.2.2 (by omega)
          refine GO.iconst dX11_cell_89 ?_
          exact GO.retz rfl rfl dX11_cell_90 (Or.inl rfl) ⟨rfl, _, rfl, (ir_c rfl), ⟨Or.inl rfl, fun _ => trivial, fun _ => trivial, (by first | exact CEC.no (by unfold CED; omega) rfl | exact CEC.no (fun g => absurd (rw54.mpr g.1) (by omega)) rfl)⟩⟩
        ·
          have q18 := h15.2.1 (by omega)
          refine GO.iload_n dX11_cell_70 rfl rfl ?_
          refine GO.iconst dX11_cell_71 ?_
          refine GO.iconst dX11_cell_72 ?_
          refine GO.callS (N := mX11_between) dX11_cell_73 gS_RX11_112 (t_X11_between r_p2 (ir_c rfl) (ir_c rfl)) rfl [] rfl rfl (Nat.le_of_ble_eq_true rfl) rfl (k_ip fun X19 r20 h21 => ?_)
          refine GO.if_eq (tgt := 89) dX11_cell_76 (by decide) r20 (fun c22 => ?_) (fun c22 => ?_)
          ·
            have q23 := h21.2.2 (by omega)
            refine GO.iconst dX11_cell_89 ?_
            exact GO.retz rfl rfl dX11_cell_90 (Or.inl rfl) ⟨rfl, _, rfl, (ir_c rfl), ⟨Or.inl rfl, fun _ => trivial, fun _ => trivial, (by first | exact CEC.no (by unfold CED; omega) rfl | exact CEC.no (fun g => absurd (rw54.mpr g.1) (by omega)) rfl)⟩⟩
          ·
            have q24 := h21.2.1 (by omega)
            refine GO.iload dX11_cell_79 rfl ?_
            refine GO.if_ne (tgt := 91) dX11_cell_81 (by decide) (ir_c rfl) (fun h => by exfalso; omega) (fun c25 => ?_)
            refine GO.iload dX11_cell_84 rfl ?_
            refine GO.if_ne (tgt := 91) dX11_cell_86 (by decide) (ir_c rfl) (fun h => by exfalso; omega) (fun c26 => ?_)
            refine GO.iconst dX11_cell_89 ?_
            exact GO.retz rfl rfl dX11_cell_90 (Or.inl rfl) ⟨rfl, _, rfl, (ir_c rfl), ⟨Or.inl rfl, fun _ => trivial, fun _ => trivial, (by first | exact CEC.no (by unfold CED; omega) rfl | exact CEC.no (fun g => absurd (rw54.mpr g.1) (by omega)) rfl)⟩⟩
    ·
      have q27 := h4.2.1 (by omega)
      refine GO.iload dX11_cell_29 rfl ?_
      refine GO.bipush dX11_cell_31 rfl ?_
      refine GO.sipush dX11_cell_33 rfl ?_
      refine GO.callS (N := mX11_between) dX11_cell_36 gS_RX11_112 (t_X11_between r_p4 (ir_c rfl) (ir_c rfl)) rfl [] rfl rfl (Nat.le_of_ble_eq_true rfl) rfl (k_ip fun X28 r29 h30 => ?_)
      refine GO.if_eq (tgt := 46) dX11_cell_39 (by decide) r29 (fun c31 => ?_) (fun c31 => ?_)
      ·
        have q32 := h30.2.2 (by omega)
        refine GO.iconst dX11_cell_46 ?_
        refine GO.istore (ls1 := [some (.ref x), some (ti p0), some (ti p1), some (ti p2), some (ti p3), some (ti p4), some (ti 0), some (ti 0)]) dX11_cell_47 rfl rfl ?_
        refine GO.aload_n dX11_cell_49 rfl rfl ?_
        refine GO.getR h_x fl_RX11_12 rfl rfl dX11_cell_50 (fun hv34 h33 => ?_)
        refine GO.iload_n dX11_cell_53 rfl rfl ?_
        refine GO.callV (ci := 0) (N := mX0_isCell) dX11_cell_54 (RX0, TX0, 13) rfl gV_RX11_119 h33 (t_X0_isCell h33 r_p0) rfl [] rfl rfl (Nat.le_of_ble_eq_true rfl) rfl (k_ip fun X35 r36 h37 => ?_)
        have raw_isCell := h37.2.2.2
        have rw54 := h37.2.2.2
        refine GO.if_eq (tgt := 89) dX11_cell_57 (by decide) r36 (fun c38 => ?_) (fun c38 => ?_)
        ·
          refine GO.iconst dX11_cell_89 ?_
          exact GO.retz rfl rfl dX11_cell_90 (Or.inl rfl) ⟨rfl, _, rfl, (ir_c rfl), ⟨Or.inl rfl, fun _ => trivial, fun _ => trivial, (by first | exact CEC.no (by unfold CED; omega) rfl | exact CEC.no (fun g => absurd (rw54.mpr g.1) (by omega)) rfl)⟩⟩
        ·
          refine GO.iload_n dX11_cell_60 rfl rfl ?_
          refine GO.iconst dX11_cell_61 ?_
          refine GO.bipush dX11_cell_62 rfl ?_
          refine GO.callS (N := mX11_between) dX11_cell_64 gS_RX11_112 (t_X11_between r_p1 (ir_c rfl) (ir_c rfl)) rfl [] rfl rfl (Nat.le_of_ble_eq_true rfl) rfl (k_ip fun X39 r40 h41 => ?_)
          refine GO.if_eq (tgt := 89) dX11_cell_67 (by decide) r40 (fun c42 => ?_) (fun c42 => ?_)
          ·
            have q43 := h41.2.2 (by omega)
            refine GO.iconst dX11_cell_89 ?_
            exact GO.retz rfl rfl dX11_cell_90 (Or.inl rfl) ⟨rfl, _, rfl, (ir_c rfl), ⟨Or.inl rfl, fun _ => trivial, fun _ => trivial, (by first | exact CEC.no (by unfold CED; omega) rfl | exact CEC.no (fun g => absurd (rw54.mpr g.1) (by omega)) rfl)⟩⟩
          ·
            have q44 := h41.2.1 (by omega)
            refine GO.iload_n dX11_cell_70 rfl rfl ?_
            refine GO.iconst dX11_cell_71 ?_
            refine GO.iconst dX11_cell_72 ?_
            refine GO.callS (N := mX11_between) dX11_cell_73 gS_RX11_112 (t_X11_between r_p2 (ir_c rfl) (ir_c rfl)) rfl [] rfl rfl (Nat.le_of_ble_eq_true rfl) rfl (k_ip fun X45 r46 h47 => ?_)
            refine GO.if_eq (tgt := 89) dX11_cell_76 (by decide) r46 (fun c48 => ?_) (fun c48 => ?_)
            ·
              have q49 := h47.2.2 (by omega)
              refine GO.iconst dX11_cell_89 ?_
              exact GO.retz rfl rfl dX11_cell_90 (Or.inl rfl) ⟨rfl, _, rfl, (ir_c rfl), ⟨Or.inl rfl, fun _ => trivial, fun _ => trivial, (by first | exact CEC.no (by unfold CED; omega) rfl | exact CEC.no (fun g => absurd (rw54.mpr g.1) (by omega)) rfl)⟩⟩
            ·
              have q50 := h47.2.1 (by omega)
              refine GO.iload dX11_cell_79 rfl ?_
              refine GO.if_ne (tgt := 91) dX11_cell_81 (by decide) (ir_c rfl) (fun h => by exfalso; omega) (fun c51 => ?_)
              refine GO.iload dX11_cell_84 rfl ?_
              refine GO.if_ne (tgt := 91) dX11_cell_86 (by decide) (ir_c rfl) (fun h => by exfalso; omega) (fun c52 => ?_)
              refine GO.iconst dX11_cell_89 ?_
              exact GO.retz rfl rfl dX11_cell_90 (Or.inl rfl) ⟨rfl, _, rfl, (ir_c rfl), ⟨Or.inl rfl, fun _ => trivial, fun _ => trivial, (by first | exact CEC.no (by unfold CED; omega) rfl | exact CEC.no (fun g => absurd (rw54.mpr g.1) (by omega)) rfl)⟩⟩
      ·
        have q53 := h30.2.1 (by omega)
        refine GO.iconst dX11_cell_42 ?_
        refine GO.goto (tgt := 47) dX11_cell_43 (by decide) ?_
        refine GO.istore (ls1 := [some (.ref x), some (ti p0), some (ti p1), some (ti p2), some (ti p3), some (ti p4), some (ti 0), some (ti 1)]) dX11_cell_47 rfl rfl ?_
        refine GO.aload_n dX11_cell_49 rfl rfl ?_
        refine GO.getR h_x fl_RX11_12 rfl rfl dX11_cell_50 (fun hv55 h54 => ?_)
        refine GO.iload_n dX11_cell_53 rfl rfl ?_
        refine GO.callV (ci := 0) (N := mX0_isCell) dX11_cell_54 (RX0, TX0, 13) rfl gV_RX11_119 h54 (t_X0_isCell h54 r_p0) rfl [] rfl rfl (Nat.le_of_ble_eq_true rfl) rfl (k_ip fun X56 r57 h58 => ?_)
        have raw_isCell := h58.2.2.2
        have rw54 := h58.2.2.2
        refine GO.if_eq (tgt := 89) dX11_cell_57 (by decide) r57 (fun c59 => ?_) (fun c59 => ?_)
        ·
          refine GO.iconst dX11_cell_89 ?_
          exact GO.retz rfl rfl dX11_cell_90 (Or.inl rfl) ⟨rfl, _, rfl, (ir_c rfl), ⟨Or.inl rfl, fun _ => trivial, fun _ => trivial, (by first | exact CEC.no (by unfold CED; omega) rfl | exact CEC.no (fun g => absurd (rw54.mpr g.1) (by omega)) rfl)⟩⟩
        ·
          refine GO.iload_n dX11_cell_60 rfl rfl ?_
          refine GO.iconst dX11_cell_61 ?_
          refine GO.bipush dX11_cell_62 rfl ?_
          refine GO.callS (N := mX11_between) dX11_cell_64 gS_RX11_112 (t_X11_between r_p1 (ir_c rfl) (ir_c rfl)) rfl [] rfl rfl (Nat.le_of_ble_eq_true rfl) rfl (k_ip fun X60 r61 h62 => ?_)
          refine GO.if_eq (tgt := 89) dX11_cell_67 (by decide) r61 (fun c63 => ?_) (fun c63 => ?_)
          ·
            have q64 := h62.2.2 (by omega)
            refine GO.iconst dX11_cell_89 ?_
            exact GO.retz rfl rfl dX11_cell_90 (Or.inl rfl) ⟨rfl, _, rfl, (ir_c rfl), ⟨Or.inl rfl, fun _ => trivial, fun _ => trivial, (by first | exact CEC.no (by unfold CED; omega) rfl | exact CEC.no (fun g => absurd (rw54.mpr g.1) (by omega)) rfl)⟩⟩
          ·
            have q65 := h62.2.1 (by omega)
            refine GO.iload_n dX11_cell_70 rfl rfl ?_
            refine GO.iconst dX11_cell_71 ?_
            refine GO.iconst dX11_cell_72 ?_
            refine GO.callS (N := mX11_between) dX11_cell_73 gS_RX11_112 (t_X11_between r_p2 (ir_c rfl) (ir_c rfl)) rfl [] rfl rfl (Nat.le_of_ble_eq_true rfl) rfl (k_ip fun X66 r67 h68 => ?_)
            refine GO.if_eq (tgt := 89) dX11_cell_76 (by decide) r67 (fun c69 => ?_) (fun c69 => ?_)
            ·
              have q70 := h68.2.2 (by omega)
              refine GO.iconst dX11_cell_89 ?_
              exact GO.retz rfl rfl dX11_cell_90 (Or.inl rfl) ⟨rfl, _, rfl, (ir_c rfl), ⟨Or.inl rfl, fun _ => trivial, fun _ => trivial, (by first | exact CEC.no (by unfold CED; omega) rfl | exact CEC.no (fun g => absurd (rw54.mpr g.1) (by omega)) rfl)⟩⟩
            ·
              have q71 := h68.2.1 (by omega)
              refine GO.iload dX11_cell_79 rfl ?_
              refine GO.if_ne (tgt := 91) dX11_cell_81 (by decide) (ir_c rfl) (fun h => by exfalso; omega) (fun c72 => ?_)
              refine GO.iload dX11_cell_84 rfl ?_
              refine GO.if_ne (tgt := 91) dX11_cell_86 (by decide) (ir_c rfl) (fun c73 => ?_) (fun h => by exfalso; omega)
              refine GO.aload_n dX11_cell_91 rfl rfl ?_
              refine GO.getRaw h_x fl_RX11_12 hv55 dX11_cell_92 ?_
              refine GO.getA (n := 144) h54 fl_RX11_123 rfl rfl rfl rfl dX11_cell_95 (fun hv77 h76 => ?_)
              refine GO.iload_n dX11_cell_98 rfl rfl ?_
              refine GO.iload_n dX11_cell_99 rfl rfl ?_
              refine GO.callS (N := mX4_put_t125) dX11_cell_100 gS_RX11_108 (t_X4_put_t125 h76 r_p0 r_p1) rfl [] rfl rfl (Nat.le_of_ble_eq_true rfl) rfl (k_vs fun V80 h79 hF78 => ?_)
              have raw_put := h79.2
              have rw100 := h79.2
              refine GO.aload_n dX11_cell_103 rfl rfl ?_
              refine GO.getRaw h_x fl_RX11_12 (Eq.trans (hF78 _ _ _ h_x h_x (by decide +kernel)) hv55) dX11_cell_104 ?_
              refine GO.getA (n := 144) h54 fl_RX11_126 rfl rfl rfl rfl dX11_cell_107 (fun hv84 h83 => ?_)
              refine GO.iload_n dX11_cell_110 rfl rfl ?_
              refine GO.iload_n dX11_cell_111 rfl rfl ?_
              refine GO.callS (N := mX4_put_t126) dX11_cell_112 gS_RX11_108 (t_X4_put_t126 h83 r_p0 r_p2) rfl [] rfl rfl (Nat.le_of_ble_eq_true rfl) rfl (k_vs fun V87 h86 hF85 => ?_)
              have raw_put := h86.2
              have rw112 := h86.2
              refine GO.aload_n dX11_cell_115 rfl rfl ?_
              refine GO.getRaw h_x fl_RX11_12 (Eq.trans (hF85 _ _ _ h_x h_x (by decide +kernel)) (Eq.trans (hF78 _ _ _ h_x h_x (by decide +kernel)) hv55)) dX11_cell_116 ?_
              refine GO.getA (n := 144) h54 fl_RX11_129 rfl rfl rfl rfl dX11_cell_119 (fun hv91 h90 => ?_)
              refine GO.iload_n dX11_cell_122 rfl rfl ?_
              refine GO.iload dX11_cell_123 rfl ?_
              refine GO.callS (N := mX4_put_t127) dX11_cell_125 gS_RX11_108 (t_X4_put_t127 h90 r_p0 r_p3) rfl [] rfl rfl (Nat.le_of_ble_eq_true rfl) rfl (k_vs fun V94 h93 hF92 => ?_)
              have raw_put := h93.2
              have rw125 := h93.2
              refine GO.aload_n dX11_cell_128 rfl rfl ?_
              refine GO.getRaw h_x fl_RX11_12 (Eq.trans (hF92 _ _ _ h_x h_x (by decide +kernel)) (Eq.trans (hF85 _ _ _ h_x h_x (by decide +kernel)) (Eq.trans (hF78 _ _ _ h_x h_x (by decide +kernel)) hv55))) dX11_cell_129 ?_
              refine GO.getA (n := 144) h54 fl_RX11_132 rfl rfl rfl rfl dX11_cell_132 (fun hv98 h97 => ?_)
              refine GO.iload_n dX11_cell_135 rfl rfl ?_
              refine GO.iload dX11_cell_136 rfl ?_
              refine GO.callS (N := mX4_put_t128) dX11_cell_138 gS_RX11_108 (t_X4_put_t128 h97 r_p0 r_p4) rfl [] rfl rfl (Nat.le_of_ble_eq_true rfl) rfl (k_vs fun V101 h100 hF99 => ?_)
              have raw_put := h100.2
              have rw138 := h100.2
              refine GO.iconst dX11_cell_141 ?_
              exact GO.retz rfl rfl dX11_cell_142 (Or.inr rfl) ⟨rfl, _, rfl, (ir_c rfl), ⟨Or.inr rfl, fun _ => trivial, fun _ => trivial, (by first | exact CEC.no (by unfold CED; omega) rfl | exact CEC.no (fun g => absurd (rw54.mpr g.1) (by omega)) rfl | exact CEC.ok ⟨rw54.mp (by omega), by omega, by omega, by omega, by omega, by omega⟩ rfl hW_0 h_x r_p1 r_p2 r_p3 r_p4 rw100 rw112 rw125 rw138)⟩⟩
  ·
    refine GO.iload dX11_cell_6 rfl ?_
    refine GO.if_ne (tgt := 15) dX11_cell_8 (by decide) r_p4 (fun c102 => ?_) (fun c102 => ?_)
    ·
      refine GO.iconst dX11_cell_15 ?_
      refine GO.istore (ls1 := [some (.ref x), some (ti p0), some (ti p1), some (ti p2), some (ti p3), some (ti p4), some (ti 0), none]) dX11_cell_16 rfl rfl ?_
      refine GO.iload dX11_cell_18 rfl ?_
      refine GO.iconst dX11_cell_20 ?_
      refine GO.bipush dX11_cell_21 rfl ?_
      refine GO.callS (N := mX11_between) dX11_cell_23 gS_RX11_112 (t_X11_between r_p3 (ir_c rfl) (ir_c rfl)) rfl [] rfl rfl (Nat.le_of_ble_eq_true rfl) rfl (k_ip fun X103 r104 h105 => ?_)
      refine GO.if_eq (tgt := 46) dX11_cell_26 (by decide) r104 (fun c106 => ?_) (fun c106 => ?_)
      ·
        have q107 := h105.2.2 (by omega)
        refine GO.iconst dX11_cell_46 ?_
        refine GO.istore (ls1 := [some (.ref x), some (ti p0), some (ti p1), some (ti p2), some (ti p3), some (ti p4), some (ti 0), some (ti 0)]) dX11_cell_47 rfl rfl ?_
        refine GO.aload_n dX11_cell_49 rfl rfl ?_
        refine GO.getR h_x fl_RX11_12 rfl rfl dX11_cell_50 (fun hv109 h108 => ?_)
        refine GO.iload_n dX11_cell_53 rfl rfl ?_
        refine GO.callV (ci := 0) (N := mX0_isCell) dX11_cell_54 (RX0, TX0, 13) rfl gV_RX11_119 h108 (t_X0_isCell h108 r_p0) rfl [] rfl rfl (Nat.le_of_ble_eq_true rfl) rfl (k_ip fun X110 r111 h112 => ?_)
        have raw_isCell := h112.2.2.2
        have rw54 := h112.2.2.2
        refine GO.if_eq (tgt := 89) dX11_cell_57 (by decide) r111 (fun c113 => ?_) (fun c113 => ?_)
        ·
          refine GO.iconst dX11_cell_89 ?_
          exact GO.retz rfl rfl dX11_cell_90 (Or.inl rfl) ⟨rfl, _, rfl, (ir_c rfl), ⟨Or.inl rfl, fun _ => trivial, fun _ => trivial, (by first | exact CEC.no (by unfold CED; omega) rfl | exact CEC.no (fun g => absurd (rw54.mpr g.1) (by omega)) rfl)⟩⟩
        ·
          refine GO.iload_n dX11_cell_60 rfl rfl ?_
          refine GO.iconst dX11_cell_61 ?_
          refine GO.bipush dX11_cell_62 rfl ?_
          refine GO.callS (N := mX11_between) dX11_cell_64 gS_RX11_112 (t_X11_between r_p1 (ir_c rfl) (ir_c rfl)) rfl [] rfl rfl (Nat.le_of_ble_eq_true rfl) rfl (k_ip fun X114 r115 h116 => ?_)
          refine GO.if_eq (tgt := 89) dX11_cell_67 (by decide) r115 (fun c117 => ?_) (fun c117 => ?_)
          ·
            have q118 := h116.2.2 (by omega)
            refine GO.iconst dX11_cell_89 ?_
            exact GO.retz rfl rfl dX11_cell_90 (Or.inl rfl) ⟨rfl, _, rfl, (ir_c rfl), ⟨Or.inl rfl, fun _ => trivial, fun _ => trivial, (by first | exact CEC.no (by unfold CED; omega) rfl | exact CEC.no (fun g => absurd (rw54.mpr g.1) (by omega)) rfl)⟩⟩
          ·
            have q119 := h116.2.1 (by omega)
            refine GO.iload_n dX11_cell_70 rfl rfl ?_
            refine GO.iconst dX11_cell_71 ?_
            refine GO.iconst dX11_cell_72 ?_
            refine GO.callS (N := mX11_between) dX11_cell_73 gS_RX11_112 (t_X11_between r_p2 (ir_c rfl) (ir_c rfl)) rfl [] rfl rfl (Nat.le_of_ble_eq_true rfl) rfl (k_ip fun X120 r121 h122 => ?_)
            refine GO.if_eq (tgt := 89) dX11_cell_76 (by decide) r121 (fun c123 => ?_) (fun c123 => ?_)
            ·
              have q124 := h122.2.2 (by omega)
              refine GO.iconst dX11_cell_89 ?_
              exact GO.retz rfl rfl dX11_cell_90 (Or.inl rfl) ⟨rfl, _, rfl, (ir_c rfl), ⟨Or.inl rfl, fun _ => trivial, fun _ => trivial, (by first | exact CEC.no (by unfold CED; omega) rfl | exact CEC.no (fun g => absurd (rw54.mpr g.1) (by omega)) rfl)⟩⟩
            ·
              have q125 := h122.2.1 (by omega)
              refine GO.iload dX11_cell_79 rfl ?_
              refine GO.if_ne (tgt := 91) dX11_cell_81 (by decide) (ir_c rfl) (fun h => by exfalso; omega) (fun c126 => ?_)
              refine GO.iload dX11_cell_84 rfl ?_
              refine GO.if_ne (tgt := 91) dX11_cell_86 (by decide) (ir_c rfl) (fun h => by exfalso; omega) (fun c127 => ?_)
              refine GO.iconst dX11_cell_89 ?_
              exact GO.retz rfl rfl dX11_cell_90 (Or.inl rfl) ⟨rfl, _, rfl, (ir_c rfl), ⟨Or.inl rfl, fun _ => trivial, fun _ => trivial, (by first | exact CEC.no (by unfold CED; omega) rfl | exact CEC.no (fun g => absurd (rw54.mpr g.1) (by omega)) rfl)⟩⟩
      ·
        have q128 := h105.2.1 (by omega)
        refine GO.iload dX11_cell_29 rfl ?_
        refine GO.bipush dX11_cell_31 rfl ?_
        refine GO.sipush dX11_cell_33 rfl ?_
        refine GO.callS (N := mX11_between) dX11_cell_36 gS_RX11_112 (t_X11_between r_p4 (ir_c rfl) (ir_c rfl)) rfl [] rfl rfl (Nat.le_of_ble_eq_true rfl) rfl (k_ip fun X129 r130 h131 => ?_)
        refine GO.if_eq (tgt := 46) dX11_cell_39 (by decide) r130 (fun c132 => ?_) (fun c132 => ?_)
        ·
          have q133 := h131.2.2 (by omega)
          refine GO.iconst dX11_cell_46 ?_
          refine GO.istore (ls1 := [some (.ref x), some (ti p0), some (ti p1), some (ti p2), some (ti p3), some (ti p4), some (ti 0), some (ti 0)]) dX11_cell_47 rfl rfl ?_
          refine GO.aload_n dX11_cell_49 rfl rfl ?_
          refine GO.getR h_x fl_RX11_12 rfl rfl dX11_cell_50 (fun hv135 h134 => ?_)
          refine GO.iload_n dX11_cell_53 rfl rfl ?_
          refine GO.callV (ci := 0) (N := mX0_isCell) dX11_cell_54 (RX0, TX0, 13) rfl gV_RX11_119 h134 (t_X0_isCell h134 r_p0) rfl [] rfl rfl (Nat.le_of_ble_eq_true rfl) rfl (k_ip fun X136 r137 h138 => ?_)
          have raw_isCell := h138.2.2.2
          have rw54 := h138.2.2.2
          refine GO.if_eq (tgt := 89) dX11_cell_57 (by decide) r137 (fun c139 => ?_) (fun c139 => ?_)
          ·
            refine GO.iconst dX11_cell_89 ?_
            exact GO.retz rfl rfl dX11_cell_90 (Or.inl rfl) ⟨rfl, _, rfl, (ir_c rfl), ⟨Or.inl rfl, fun _ => trivial, fun _ => trivial, (by first | exact CEC.no (by unfold CED; omega) rfl | exact CEC.no (fun g => absurd (rw54.mpr g.1) (by omega)) rfl)⟩⟩
          ·
            refine GO.iload_n dX11_cell_60 rfl rfl ?_
            refine GO.iconst dX11_cell_61 ?_
            refine GO.bipush dX11_cell_62 rfl ?_
            refine GO.callS (N := mX11_between) dX11_cell_64 gS_RX11_112 (t_X11_between r_p1 (ir_c rfl) (ir_c rfl)) rfl [] rfl rfl (Nat.le_of_ble_eq_true rfl) rfl (k_ip fun X140 r141 h142 => ?_)
            refine GO.if_eq (tgt := 89) dX11_cell_67 (by decide) r141 (fun c143 => ?_) (fun c143 => ?_)
            ·
              have q144 := h142.2.2 (by omega)
              refine GO.iconst dX11_cell_89 ?_
              exact GO.retz rfl rfl dX11_cell_90 (Or.inl rfl) ⟨rfl, _, rfl, (ir_c rfl), ⟨Or.inl rfl, fun _ => trivial, fun _ => trivial, (by first | exact CEC.no (by unfold CED; omega) rfl | exact CEC.no (fun g => absurd (rw54.mpr g.1) (by omega)) rfl)⟩⟩
            ·
              have q145 := h142.2.1 (by omega)
              refine GO.iload_n dX11_cell_70 rfl rfl ?_
              refine GO.iconst dX11_cell_71 ?_
              refine GO.iconst dX11_cell_72 ?_
              refine GO.callS (N := mX11_between) dX11_cell_73 gS_RX11_112 (t_X11_between r_p2 (ir_c rfl) (ir_c rfl)) rfl [] rfl rfl (Nat.le_of_ble_eq_true rfl) rfl (k_ip fun X146 r147 h148 => ?_)
              refine GO.if_eq (tgt := 89) dX11_cell_76 (by decide) r147 (fun c149 => ?_) (fun c149 => ?_)
              ·
                have q150 := h148.2.2 (by omega)
                refine GO.iconst dX11_cell_89 ?_
                exact GO.retz rfl rfl dX11_cell_90 (Or.inl rfl) ⟨rfl, _, rfl, (ir_c rfl), ⟨Or.inl rfl, fun _ => trivial, fun _ => trivial, (by first | exact CEC.no (by unfold CED; omega) rfl | exact CEC.no (fun g => absurd (rw54.mpr g.1) (by omega)) rfl)⟩⟩
              ·
                have q151 := h148.2.1 (by omega)
                refine GO.iload dX11_cell_79 rfl ?_
                refine GO.if_ne (tgt := 91) dX11_cell_81 (by decide) (ir_c rfl) (fun c152 => ?_) (fun c152 => ?_)
                ·
                  refine GO.aload_n dX11_cell_91 rfl rfl ?_
                  refine GO.getRaw h_x fl_RX11_12 hv135 dX11_cell_92 ?_
                  refine GO.getA (n := 144) h134 fl_RX11_123 rfl rfl rfl rfl dX11_cell_95 (fun hv156 h155 => ?_)
                  refine GO.iload_n dX11_cell_98 rfl rfl ?_
                  refine GO.iload_n dX11_cell_99 rfl rfl ?_
                  refine GO.callS (N := mX4_put_t125) dX11_cell_100 gS_RX11_108 (t_X4_put_t125 h155 r_p0 r_p1) rfl [] rfl rfl (Nat.le_of_ble_eq_true rfl) rfl (k_vs fun V159 h158 hF157 => ?_)
                  have raw_put := h158.2
                  have rw100 := h158.2
                  refine GO.aload_n dX11_cell_103 rfl rfl ?_
                  refine GO.getRaw h_x fl_RX11_12 (Eq.trans (hF157 _ _ _ h_x h_x (by decide +kernel)) hv135) dX11_cell_104 ?_
                  refine GO.getA (n := 144) h134 fl_RX11_126 rfl rfl rfl rfl dX11_cell_107 (fun hv163 h162 => ?_)
                  refine GO.iload_n dX11_cell_110 rfl rfl ?_
                  refine GO.iload_n dX11_cell_111 rfl rfl ?_
                  refine GO.callS (N := mX4_put_t126) dX11_cell_112 gS_RX11_108 (t_X4_put_t126 h162 r_p0 r_p2) rfl [] rfl rfl (Nat.le_of_ble_eq_true rfl) rfl (k_vs fun V166 h165 hF164 => ?_)
                  have raw_put := h165.2
                  have rw112 := h165.2
                  refine GO.aload_n dX11_cell_115 rfl rfl ?_
                  refine GO.getRaw h_x fl_RX11_12 (Eq.trans (hF164 _ _ _ h_x h_x (by decide +kernel)) (Eq.trans (hF157 _ _ _ h_x h_x (by decide +kernel)) hv135)) dX11_cell_116 ?_
                  refine GO.getA (n := 144) h134 fl_RX11_129 rfl rfl rfl rfl dX11_cell_119 (fun hv170 h169 => ?_)
                  refine GO.iload_n dX11_cell_122 rfl rfl ?_
                  refine GO.iload dX11_cell_123 rfl ?_
                  refine GO.callS (N := mX4_put_t127) dX11_cell_125 gS_RX11_108 (t_X4_put_t127 h169 r_p0 r_p3) rfl [] rfl rfl (Nat.le_of_ble_eq_true rfl) rfl (k_vs fun V173 h172 hF171 => ?_)
                  have raw_put := h172.2
                  have rw125 := h172.2
                  refine GO.aload_n dX11_cell_128 rfl rfl ?_
                  refine GO.getRaw h_x fl_RX11_12 (Eq.trans (hF171 _ _ _ h_x h_x (by decide +kernel)) (Eq.trans (hF164 _ _ _ h_x h_x (by decide +kernel)) (Eq.trans (hF157 _ _ _ h_x h_x (by decide +kernel)) hv135))) dX11_cell_129 ?_
                  refine GO.getA (n := 144) h134 fl_RX11_132 rfl rfl rfl rfl dX11_cell_132 (fun hv177 h176 => ?_)
                  refine GO.iload_n dX11_cell_135 rfl rfl ?_
                  refine GO.iload dX11_cell_136 rfl ?_
                  refine GO.callS (N := mX4_put_t128) dX11_cell_138 gS_RX11_108 (t_X4_put_t128 h176 r_p0 r_p4) rfl [] rfl rfl (Nat.le_of_ble_eq_true rfl) rfl (k_vs fun V180 h179 hF178 => ?_)
                  have raw_put := h179.2
                  have rw138 := h179.2
                  refine GO.iconst dX11_cell_141 ?_
                  exact GO.retz rfl rfl dX11_cell_142 (Or.inr rfl) ⟨rfl, _, rfl, (ir_c rfl), ⟨Or.inr rfl, fun _ => trivial, fun _ => trivial, (by first | exact CEC.no (by unfold CED; omega) rfl | exact CEC.no (fun g => absurd (rw54.mpr g.1) (by omega)) rfl | exact CEC.ok ⟨rw54.mp (by omega), by omega, by omega, by omega, by omega, by omega⟩ rfl hW_0 h_x r_p1 r_p2 r_p3 r_p4 rw100 rw112 rw125 rw138)⟩⟩
                ·
                  refine GO.iload dX11_cell_84 rfl ?_
                  refine GO.if_ne (tgt := 91) dX11_cell_86 (by decide) (ir_c rfl) (fun c181 => ?_) (fun c181 => ?_)
                  ·
                    refine GO.aload_n dX11_cell_91 rfl rfl ?_
                    refine GO.getRaw h_x fl_RX11_12 hv135 dX11_cell_92 ?_
                    refine GO.getA (n := 144) h134 fl_RX11_123 rfl rfl rfl rfl dX11_cell_95 (fun hv185 h184 => ?_)
                    refine GO.iload_n dX11_cell_98 rfl rfl ?_
                    refine GO.iload_n dX11_cell_99 rfl rfl ?_
                    refine GO.callS (N := mX4_put_t125) dX11_cell_100 gS_RX11_108 (t_X4_put_t125 h184 r_p0 r_p1) rfl [] rfl rfl (Nat.le_of_ble_eq_true rfl) rfl (k_vs fun V188 h187 hF186 => ?_)
                    have raw_put := h187.2
                    have rw100 := h187.2
                    refine GO.aload_n dX11_cell_103 rfl rfl ?_
                    refine GO.getRaw h_x fl_RX11_12 (Eq.trans (hF186 _ _ _ h_x h_x (by decide +kernel)) hv135) dX11_cell_104 ?_
                    refine GO.getA (n := 144) h134 fl_RX11_126 rfl rfl rfl rfl dX11_cell_107 (fun hv192 h191 => ?_)
                    refine GO.iload_n dX11_cell_110 rfl rfl ?_
                    refine GO.iload_n dX11_cell_111 rfl rfl ?_
                    refine GO.callS (N := mX4_put_t126) dX11_cell_112 gS_RX11_108 (t_X4_put_t126 h191 r_p0 r_p2) rfl [] rfl rfl (Nat.le_of_ble_eq_true rfl) rfl (k_vs fun V195 h194 hF193 => ?_)
                    have raw_put := h194.2
                    have rw112 := h194.2
                    refine GO.aload_n dX11_cell_115 rfl rfl ?_
                    refine GO.getRaw h_x fl_RX11_12 (Eq.trans (hF193 _ _ _ h_x h_x (by decide +kernel)) (Eq.trans (hF186 _ _ _ h_x h_x (by decide +kernel)) hv135)) dX11_cell_116 ?_
                    refine GO.getA (n := 144) h134 fl_RX11_129 rfl rfl rfl rfl dX11_cell_119 (fun hv199 h198 => ?_)
                    refine GO.iload_n dX11_cell_122 rfl rfl ?_
                    refine GO.iload dX11_cell_123 rfl ?_
                    refine GO.callS (N := mX4_put_t127) dX11_cell_125 gS_RX11_108 (t_X4_put_t127 h198 r_p0 r_p3) rfl [] rfl rfl (Nat.le_of_ble_eq_true rfl) rfl (k_vs fun V202 h201 hF200 => ?_)
                    have raw_put := h201.2
                    have rw125 := h201.2
                    refine GO.aload_n dX11_cell_128 rfl rfl ?_
                    refine GO.getRaw h_x fl_RX11_12 (Eq.trans (hF200 _ _ _ h_x h_x (by decide +kernel)) (Eq.trans (hF193 _ _ _ h_x h_x (by decide +kernel)) (Eq.trans (hF186 _ _ _ h_x h_x (by decide +kernel)) hv135))) dX11_cell_129 ?_
                    refine GO.getA (n := 144) h134 fl_RX11_132 rfl rfl rfl rfl dX11_cell_132 (fun hv206 h205 => ?_)
                    refine GO.iload_n dX11_cell_135 rfl rfl ?_
                    refine GO.iload dX11_cell_136 rfl ?_
                    refine GO.callS (N := mX4_put_t128) dX11_cell_138 gS_RX11_108 (t_X4_put_t128 h205 r_p0 r_p4) rfl [] rfl rfl (Nat.le_of_ble_eq_true rfl) rfl (k_vs fun V209 h208 hF207 => ?_)
                    have raw_put := h208.2
                    have rw138 := h208.2
                    refine GO.iconst dX11_cell_141 ?_
                    exact GO.retz rfl rfl dX11_cell_142 (Or.inr rfl) ⟨rfl, _, rfl, (ir_c rfl), ⟨Or.inr rfl, fun _ => trivial, fun _ => trivial, (by first | exact CEC.no (by unfold CED; omega) rfl | exact CEC.no (fun g => absurd (rw54.mpr g.1) (by omega)) rfl | exact CEC.ok ⟨rw54.mp (by omega), by omega, by omega, by omega, by omega, by omega⟩ rfl hW_0 h_x r_p1 r_p2 r_p3 r_p4 rw100 rw112 rw125 rw138)⟩⟩
                  ·
                    refine GO.iconst dX11_cell_89 ?_
                    exact GO.retz rfl rfl dX11_cell_90 (Or.inl rfl) ⟨rfl, _, rfl, (ir_c rfl), ⟨Or.inl rfl, fun _ => trivial, fun _ => trivial, (by first | exact CEC.no (by unfold CED; omega) rfl | exact CEC.no (fun g => absurd (rw54.mpr g.1) (by omega)) rfl)⟩⟩
        ·
          have q210 := h131.2.1 (by omega)
          refine GO.iconst dX11_cell_42 ?_
          refine GO.goto (tgt := 47) dX11_cell_43 (by decide) ?_
          refine GO.istore (ls1 := [some (.ref x), some (ti p0), some (ti p1), some (ti p2), some (ti p3), some (ti p4), some (ti 0), some (ti 1)]) dX11_cell_47 rfl rfl ?_
          refine GO.aload_n dX11_cell_49 rfl rfl ?_
          refine GO.getR h_x fl_RX11_12 rfl rfl dX11_cell_50 (fun hv212 h211 => ?_)
          refine GO.iload_n dX11_cell_53 rfl rfl ?_
          refine GO.callV (ci := 0) (N := mX0_isCell) dX11_cell_54 (RX0, TX0, 13) rfl gV_RX11_119 h211 (t_X0_isCell h211 r_p0) rfl [] rfl rfl (Nat.le_of_ble_eq_true rfl) rfl (k_ip fun X213 r214 h215 => ?_)
          have raw_isCell := h215.2.2.2
          have rw54 := h215.2.2.2
          refine GO.if_eq (tgt := 89) dX11_cell_57 (by decide) r214 (fun c216 => ?_) (fun c216 => ?_)
          ·
            refine GO.iconst dX11_cell_89 ?_
            exact GO.retz rfl rfl dX11_cell_90 (Or.inl rfl) ⟨rfl, _, rfl, (ir_c rfl), ⟨Or.inl rfl, fun _ => trivial, fun _ => trivial, (by first | exact CEC.no (by unfold CED; omega) rfl | exact CEC.no (fun g => absurd (rw54.mpr g.1) (by omega)) rfl)⟩⟩
          ·
            refine GO.iload_n dX11_cell_60 rfl rfl ?_
            refine GO.iconst dX11_cell_61 ?_
            refine GO.bipush dX11_cell_62 rfl ?_
            refine GO.callS (N := mX11_between) dX11_cell_64 gS_RX11_112 (t_X11_between r_p1 (ir_c rfl) (ir_c rfl)) rfl [] rfl rfl (Nat.le_of_ble_eq_true rfl) rfl (k_ip fun X217 r218 h219 => ?_)
            refine GO.if_eq (tgt := 89) dX11_cell_67 (by decide) r218 (fun c220 => ?_) (fun c220 => ?_)
            ·
              have q221 := h219.2.2 (by omega)
              refine GO.iconst dX11_cell_89 ?_
              exact GO.retz rfl rfl dX11_cell_90 (Or.inl rfl) ⟨rfl, _, rfl, (ir_c rfl), ⟨Or.inl rfl, fun _ => trivial, fun _ => trivial, (by first | exact CEC.no (by unfold CED; omega) rfl | exact CEC.no (fun g => absurd (rw54.mpr g.1) (by omega)) rfl)⟩⟩
            ·
              have q222 := h219.2.1 (by omega)
              refine GO.iload_n dX11_cell_70 rfl rfl ?_
              refine GO.iconst dX11_cell_71 ?_
              refine GO.iconst dX11_cell_72 ?_
              refine GO.callS (N := mX11_between) dX11_cell_73 gS_RX11_112 (t_X11_between r_p2 (ir_c rfl) (ir_c rfl)) rfl [] rfl rfl (Nat.le_of_ble_eq_true rfl) rfl (k_ip fun X223 r224 h225 => ?_)
              refine GO.if_eq (tgt := 89) dX11_cell_76 (by decide) r224 (fun c226 => ?_) (fun c226 => ?_)
              ·
                have q227 := h225.2.2 (by omega)
                refine GO.iconst dX11_cell_89 ?_
                exact GO.retz rfl rfl dX11_cell_90 (Or.inl rfl) ⟨rfl, _, rfl, (ir_c rfl), ⟨Or.inl rfl, fun _ => trivial, fun _ => trivial, (by first | exact CEC.no (by unfold CED; omega) rfl | exact CEC.no (fun g => absurd (rw54.mpr g.1) (by omega)) rfl)⟩⟩
              ·
                have q228 := h225.2.1 (by omega)
                refine GO.iload dX11_cell_79 rfl ?_
                refine GO.if_ne (tgt := 91) dX11_cell_81 (by decide) (ir_c rfl) (fun c229 => ?_) (fun c229 => ?_)
                ·
                  refine GO.aload_n dX11_cell_91 rfl rfl ?_
                  refine GO.getRaw h_x fl_RX11_12 hv212 dX11_cell_92 ?_
                  refine GO.getA (n := 144) h211 fl_RX11_123 rfl rfl rfl rfl dX11_cell_95 (fun hv233 h232 => ?_)
                  refine GO.iload_n dX11_cell_98 rfl rfl ?_
                  refine GO.iload_n dX11_cell_99 rfl rfl ?_
                  refine GO.callS (N := mX4_put_t125) dX11_cell_100 gS_RX11_108 (t_X4_put_t125 h232 r_p0 r_p1) rfl [] rfl rfl (Nat.le_of_ble_eq_true rfl) rfl (k_vs fun V236 h235 hF234 => ?_)
                  have raw_put := h235.2
                  have rw100 := h235.2
                  refine GO.aload_n dX11_cell_103 rfl rfl ?_
                  refine GO.getRaw h_x fl_RX11_12 (Eq.trans (hF234 _ _ _ h_x h_x (by decide +kernel)) hv212) dX11_cell_104 ?_
                  refine GO.getA (n := 144) h211 fl_RX11_126 rfl rfl rfl rfl dX11_cell_107 (fun hv240 h239 => ?_)
                  refine GO.iload_n dX11_cell_110 rfl rfl ?_
                  refine GO.iload_n dX11_cell_111 rfl rfl ?_
                  refine GO.callS (N := mX4_put_t126) dX11_cell_112 gS_RX11_108 (t_X4_put_t126 h239 r_p0 r_p2) rfl [] rfl rfl (Nat.le_of_ble_eq_true rfl) rfl (k_vs fun V243 h242 hF241 => ?_)
                  have raw_put := h242.2
                  have rw112 := h242.2
                  refine GO.aload_n dX11_cell_115 rfl rfl ?_
                  refine GO.getRaw h_x fl_RX11_12 (Eq.trans (hF241 _ _ _ h_x h_x (by decide +kernel)) (Eq.trans (hF234 _ _ _ h_x h_x (by decide +kernel)) hv212)) dX11_cell_116 ?_
                  refine GO.getA (n := 144) h211 fl_RX11_129 rfl rfl rfl rfl dX11_cell_119 (fun hv247 h246 => ?_)
                  refine GO.iload_n dX11_cell_122 rfl rfl ?_
                  refine GO.iload dX11_cell_123 rfl ?_
                  refine GO.callS (N := mX4_put_t127) dX11_cell_125 gS_RX11_108 (t_X4_put_t127 h246 r_p0 r_p3) rfl [] rfl rfl (Nat.le_of_ble_eq_true rfl) rfl (k_vs fun V250 h249 hF248 => ?_)
                  have raw_put := h249.2
                  have rw125 := h249.2
                  refine GO.aload_n dX11_cell_128 rfl rfl ?_
                  refine GO.getRaw h_x fl_RX11_12 (Eq.trans (hF248 _ _ _ h_x h_x (by decide +kernel)) (Eq.trans (hF241 _ _ _ h_x h_x (by decide +kernel)) (Eq.trans (hF234 _ _ _ h_x h_x (by decide +kernel)) hv212))) dX11_cell_129 ?_
                  refine GO.getA (n := 144) h211 fl_RX11_132 rfl rfl rfl rfl dX11_cell_132 (fun hv254 h253 => ?_)
                  refine GO.iload_n dX11_cell_135 rfl rfl ?_
                  refine GO.iload dX11_cell_136 rfl ?_
                  refine GO.callS (N := mX4_put_t128) dX11_cell_138 gS_RX11_108 (t_X4_put_t128 h253 r_p0 r_p4) rfl [] rfl rfl (Nat.le_of_ble_eq_true rfl) rfl (k_vs fun V257 h256 hF255 => ?_)
                  have raw_put := h256.2
                  have rw138 := h256.2
                  refine GO.iconst dX11_cell_141 ?_
                  exact GO.retz rfl rfl dX11_cell_142 (Or.inr rfl) ⟨rfl, _, rfl, (ir_c rfl), ⟨Or.inr rfl, fun _ => trivial, fun _ => trivial, (by first | exact CEC.no (by unfold CED; omega) rfl | exact CEC.no (fun g => absurd (rw54.mpr g.1) (by omega)) rfl | exact CEC.ok ⟨rw54.mp (by omega), by omega, by omega, by omega, by omega, by omega⟩ rfl hW_0 h_x r_p1 r_p2 r_p3 r_p4 rw100 rw112 rw125 rw138)⟩⟩
                ·
                  refine GO.iload dX11_cell_84 rfl ?_
                  refine GO.if_ne (tgt := 91) dX11_cell_86 (by decide) (ir_c rfl) (fun c258 => ?_) (fun c258 => ?_)
                  ·
                    refine GO.aload_n dX11_cell_91 rfl rfl ?_
                    refine GO.getRaw h_x fl_RX11_12 hv212 dX11_cell_92 ?_
                    refine GO.getA (n := 144) h211 fl_RX11_123 rfl rfl rfl rfl dX11_cell_95 (fun hv262 h261 => ?_)
                    refine GO.iload_n dX11_cell_98 rfl rfl ?_
                    refine GO.iload_n dX11_cell_99 rfl rfl ?_
                    refine GO.callS (N := mX4_put_t125) dX11_cell_100 gS_RX11_108 (t_X4_put_t125 h261 r_p0 r_p1) rfl [] rfl rfl (Nat.le_of_ble_eq_true rfl) rfl (k_vs fun V265 h264 hF263 => ?_)
                    have raw_put := h264.2
                    have rw100 := h264.2
                    refine GO.aload_n dX11_cell_103 rfl rfl ?_
                    refine GO.getRaw h_x fl_RX11_12 (Eq.trans (hF263 _ _ _ h_x h_x (by decide +kernel)) hv212) dX11_cell_104 ?_
                    refine GO.getA (n := 144) h211 fl_RX11_126 rfl rfl rfl rfl dX11_cell_107 (fun hv269 h268 => ?_)
                    refine GO.iload_n dX11_cell_110 rfl rfl ?_
                    refine GO.iload_n dX11_cell_111 rfl rfl ?_
                    refine GO.callS (N := mX4_put_t126) dX11_cell_112 gS_RX11_108 (t_X4_put_t126 h268 r_p0 r_p2) rfl [] rfl rfl (Nat.le_of_ble_eq_true rfl) rfl (k_vs fun V272 h271 hF270 => ?_)
                    have raw_put := h271.2
                    have rw112 := h271.2
                    refine GO.aload_n dX11_cell_115 rfl rfl ?_
                    refine GO.getRaw h_x fl_RX11_12 (Eq.trans (hF270 _ _ _ h_x h_x (by decide +kernel)) (Eq.trans (hF263 _ _ _ h_x h_x (by decide +kernel)) hv212)) dX11_cell_116 ?_
                    refine GO.getA (n := 144) h211 fl_RX11_129 rfl rfl rfl rfl dX11_cell_119 (fun hv276 h275 => ?_)
                    refine GO.iload_n dX11_cell_122 rfl rfl ?_
                    refine GO.iload dX11_cell_123 rfl ?_
                    refine GO.callS (N := mX4_put_t127) dX11_cell_125 gS_RX11_108 (t_X4_put_t127 h275 r_p0 r_p3) rfl [] rfl rfl (Nat.le_of_ble_eq_true rfl) rfl (k_vs fun V279 h278 hF277 => ?_)
                    have raw_put := h278.2
                    have rw125 := h278.2
                    refine GO.aload_n dX11_cell_128 rfl rfl ?_
                    refine GO.getRaw h_x fl_RX11_12 (Eq.trans (hF277 _ _ _ h_x h_x (by decide +kernel)) (Eq.trans (hF270 _ _ _ h_x h_x (by decide +kernel)) (Eq.trans (hF263 _ _ _ h_x h_x (by decide +kernel)) hv212))) dX11_cell_129 ?_
                    refine GO.getA (n := 144) h211 fl_RX11_132 rfl rfl rfl rfl dX11_cell_132 (fun hv283 h282 => ?_)
                    refine GO.iload_n dX11_cell_135 rfl rfl ?_
                    refine GO.iload dX11_cell_136 rfl ?_
                    refine GO.callS (N := mX4_put_t128) dX11_cell_138 gS_RX11_108 (t_X4_put_t128 h282 r_p0 r_p4) rfl [] rfl rfl (Nat.le_of_ble_eq_true rfl) rfl (k_vs fun V286 h285 hF284 => ?_)
                    have raw_put := h285.2
                    have rw138 := h285.2
                    refine GO.iconst dX11_cell_141 ?_
                    exact GO.retz rfl rfl dX11_cell_142 (Or.inr rfl) ⟨rfl, _, rfl, (ir_c rfl), ⟨Or.inr rfl, fun _ => trivial, fun _ => trivial, (by first | exact CEC.no (by unfold CED; omega) rfl | exact CEC.no (fun g => absurd (rw54.mpr g.1) (by omega)) rfl | exact CEC.ok ⟨rw54.mp (by omega), by omega, by omega, by omega, by omega, by omega⟩ rfl hW_0 h_x r_p1 r_p2 r_p3 r_p4 rw100 rw112 rw125 rw138)⟩⟩
                  ·
                    refine GO.iconst dX11_cell_89 ?_
                    exact GO.retz rfl rfl dX11_cell_90 (Or.inl rfl) ⟨rfl, _, rfl, (ir_c rfl), ⟨Or.inl rfl, fun _ => trivial, fun _ => trivial, (by first | exact CEC.no (by unfold CED; omega) rfl | exact CEC.no (fun g => absurd (rw54.mpr g.1) (by omega)) rfl)⟩⟩
    ·
      refine GO.iconst dX11_cell_11 ?_
      refine GO.goto (tgt := 16) dX11_cell_12 (by decide) ?_
      refine GO.istore (ls1 := [some (.ref x), some (ti p0), some (ti p1), some (ti p2), some (ti p3), some (ti p4), some (ti 1), none]) dX11_cell_16 rfl rfl ?_
      refine GO.iload dX11_cell_18 rfl ?_
      refine GO.iconst dX11_cell_20 ?_
      refine GO.bipush dX11_cell_21 rfl ?_
      refine GO.callS (N := mX11_between) dX11_cell_23 gS_RX11_112 (t_X11_between r_p3 (ir_c rfl) (ir_c rfl)) rfl [] rfl rfl (Nat.le_of_ble_eq_true rfl) rfl (k_ip fun X287 r288 h289 => ?_)
      refine GO.if_eq (tgt := 46) dX11_cell_26 (by decide) r288 (fun c290 => ?_) (fun c290 => ?_)
      ·
        have q291 := h289.2.2 (by omega)
        refine GO.iconst dX11_cell_46 ?_
        refine GO.istore (ls1 := [some (.ref x), some (ti p0), some (ti p1), some (ti p2), some (ti p3), some (ti p4), some (ti 1), some (ti 0)]) dX11_cell_47 rfl rfl ?_
        refine GO.aload_n dX11_cell_49 rfl rfl ?_
        refine GO.getR h_x fl_RX11_12 rfl rfl dX11_cell_50 (fun hv293 h292 => ?_)
        refine GO.iload_n dX11_cell_53 rfl rfl ?_
        refine GO.callV (ci := 0) (N := mX0_isCell) dX11_cell_54 (RX0, TX0, 13) rfl gV_RX11_119 h292 (t_X0_isCell h292 r_p0) rfl [] rfl rfl (Nat.le_of_ble_eq_true rfl) rfl (k_ip fun X294 r295 h296 => ?_)
        have raw_isCell := h296.2.2.2
        have rw54 := h296.2.2.2
        refine GO.if_eq (tgt := 89) dX11_cell_57 (by decide) r295 (fun c297 => ?_) (fun c297 => ?_)
        ·
          refine GO.iconst dX11_cell_89 ?_
          exact GO.retz rfl rfl dX11_cell_90 (Or.inl rfl) ⟨rfl, _, rfl, (ir_c rfl), ⟨Or.inl rfl, fun _ => trivial, fun _ => trivial, (by first | exact CEC.no (by unfold CED; omega) rfl | exact CEC.no (fun g => absurd (rw54.mpr g.1) (by omega)) rfl)⟩⟩
        ·
          refine GO.iload_n dX11_cell_60 rfl rfl ?_
          refine GO.iconst dX11_cell_61 ?_
          refine GO.bipush dX11_cell_62 rfl ?_
          refine GO.callS (N := mX11_between) dX11_cell_64 gS_RX11_112 (t_X11_between r_p1 (ir_c rfl) (ir_c rfl)) rfl [] rfl rfl (Nat.le_of_ble_eq_true rfl) rfl (k_ip fun X298 r299 h300 => ?_)
          refine GO.if_eq (tgt := 89) dX11_cell_67 (by decide) r299 (fun c301 => ?_) (fun c301 => ?_)
          ·
            have q302 := h300.2.2 (by omega)
            refine GO.iconst dX11_cell_89 ?_
            exact GO.retz rfl rfl dX11_cell_90 (Or.inl rfl) ⟨rfl, _, rfl, (ir_c rfl), ⟨Or.inl rfl, fun _ => trivial, fun _ => trivial, (by first | exact CEC.no (by unfold CED; omega) rfl | exact CEC.no (fun g => absurd (rw54.mpr g.1) (by omega)) rfl)⟩⟩
          ·
            have q303 := h300.2.1 (by omega)
            refine GO.iload_n dX11_cell_70 rfl rfl ?_
            refine GO.iconst dX11_cell_71 ?_
            refine GO.iconst dX11_cell_72 ?_
            refine GO.callS (N := mX11_between) dX11_cell_73 gS_RX11_112 (t_X11_between r_p2 (ir_c rfl) (ir_c rfl)) rfl [] rfl rfl (Nat.le_of_ble_eq_true rfl) rfl (k_ip fun X304 r305 h306 => ?_)
            refine GO.if_eq (tgt := 89) dX11_cell_76 (by decide) r305 (fun c307 => ?_) (fun c307 => ?_)
            ·
              have q308 := h306.2.2 (by omega)
              refine GO.iconst dX11_cell_89 ?_
              exact GO.retz rfl rfl dX11_cell_90 (Or.inl rfl) ⟨rfl, _, rfl, (ir_c rfl), ⟨Or.inl rfl, fun _ => trivial, fun _ => trivial, (by first | exact CEC.no (by unfold CED; omega) rfl | exact CEC.no (fun g => absurd (rw54.mpr g.1) (by omega)) rfl)⟩⟩
            ·
              have q309 := h306.2.1 (by omega)
              refine GO.iload dX11_cell_79 rfl ?_
              refine GO.if_ne (tgt := 91) dX11_cell_81 (by decide) (ir_c rfl) (fun c310 => ?_) (fun h => by exfalso; omega)
              refine GO.aload_n dX11_cell_91 rfl rfl ?_
              refine GO.getRaw h_x fl_RX11_12 hv293 dX11_cell_92 ?_
              refine GO.getA (n := 144) h292 fl_RX11_123 rfl rfl rfl rfl dX11_cell_95 (fun hv314 h313 => ?_)
              refine GO.iload_n dX11_cell_98 rfl rfl ?_
              refine GO.iload_n dX11_cell_99 rfl rfl ?_
              refine GO.callS (N := mX4_put_t125) dX11_cell_100 gS_RX11_108 (t_X4_put_t125 h313 r_p0 r_p1) rfl [] rfl rfl (Nat.le_of_ble_eq_true rfl) rfl (k_vs fun V317 h316 hF315 => ?_)
              have raw_put := h316.2
              have rw100 := h316.2
              refine GO.aload_n dX11_cell_103 rfl rfl ?_
              refine GO.getRaw h_x fl_RX11_12 (Eq.trans (hF315 _ _ _ h_x h_x (by decide +kernel)) hv293) dX11_cell_104 ?_
              refine GO.getA (n := 144) h292 fl_RX11_126 rfl rfl rfl rfl dX11_cell_107 (fun hv321 h320 => ?_)
              refine GO.iload_n dX11_cell_110 rfl rfl ?_
              refine GO.iload_n dX11_cell_111 rfl rfl ?_
              refine GO.callS (N := mX4_put_t126) dX11_cell_112 gS_RX11_108 (t_X4_put_t126 h320 r_p0 r_p2) rfl [] rfl rfl (Nat.le_of_ble_eq_true rfl) rfl (k_vs fun V324 h323 hF322 => ?_)
              have raw_put := h323.2
              have rw112 := h323.2
              refine GO.aload_n dX11_cell_115 rfl rfl ?_
              refine GO.getRaw h_x fl_RX11_12 (Eq.trans (hF322 _ _ _ h_x h_x (by decide +kernel)) (Eq.trans (hF315 _ _ _ h_x h_x (by decide +kernel)) hv293)) dX11_cell_116 ?_
              refine GO.getA (n := 144) h292 fl_RX11_129 rfl rfl rfl rfl dX11_cell_119 (fun hv328 h327 => ?_)
              refine GO.iload_n dX11_cell_122 rfl rfl ?_
              refine GO.iload dX11_cell_123 rfl ?_
              refine GO.callS (N := mX4_put_t127) dX11_cell_125 gS_RX11_108 (t_X4_put_t127 h327 r_p0 r_p3) rfl [] rfl rfl (Nat.le_of_ble_eq_true rfl) rfl (k_vs fun V331 h330 hF329 => ?_)
              have raw_put := h330.2
              have rw125 := h330.2
              refine GO.aload_n dX11_cell_128 rfl rfl ?_
              refine GO.getRaw h_x fl_RX11_12 (Eq.trans (hF329 _ _ _ h_x h_x (by decide +kernel)) (Eq.trans (hF322 _ _ _ h_x h_x (by decide +kernel)) (Eq.trans (hF315 _ _ _ h_x h_x (by decide +kernel)) hv293))) dX11_cell_129 ?_
              refine GO.getA (n := 144) h292 fl_RX11_132 rfl rfl rfl rfl dX11_cell_132 (fun hv335 h334 => ?_)
              refine GO.iload_n dX11_cell_135 rfl rfl ?_
              refine GO.iload dX11_cell_136 rfl ?_
              refine GO.callS (N := mX4_put_t128) dX11_cell_138 gS_RX11_108 (t_X4_put_t128 h334 r_p0 r_p4) rfl [] rfl rfl (Nat.le_of_ble_eq_true rfl) rfl (k_vs fun V338 h337 hF336 => ?_)
              have raw_put := h337.2
              have rw138 := h337.2
              refine GO.iconst dX11_cell_141 ?_
              exact GO.retz rfl rfl dX11_cell_142 (Or.inr rfl) ⟨rfl, _, rfl, (ir_c rfl), ⟨Or.inr rfl, fun _ => trivial, fun _ => trivial, (by first | exact CEC.no (by unfold CED; omega) rfl | exact CEC.no (fun g => absurd (rw54.mpr g.1) (by omega)) rfl | exact CEC.ok ⟨rw54.mp (by omega), by omega, by omega, by omega, by omega, by omega⟩ rfl hW_0 h_x r_p1 r_p2 r_p3 r_p4 rw100 rw112 rw125 rw138)⟩⟩
      ·
        have q339 := h289.2.1 (by omega)
        refine GO.iload dX11_cell_29 rfl ?_
        refine GO.bipush dX11_cell_31 rfl ?_
        refine GO.sipush dX11_cell_33 rfl ?_
        refine GO.callS (N := mX11_between) dX11_cell_36 gS_RX11_112 (t_X11_between r_p4 (ir_c rfl) (ir_c rfl)) rfl [] rfl rfl (Nat.le_of_ble_eq_true rfl) rfl (k_ip fun X340 r341 h342 => ?_)
        refine GO.if_eq (tgt := 46) dX11_cell_39 (by decide) r341 (fun c343 => ?_) (fun c343 => ?_)
        ·
          have q344 := h342.2.2 (by omega)
          refine GO.iconst dX11_cell_46 ?_
          refine GO.istore (ls1 := [some (.ref x), some (ti p0), some (ti p1), some (ti p2), some (ti p3), some (ti p4), some (ti 1), some (ti 0)]) dX11_cell_47 rfl rfl ?_
          refine GO.aload_n dX11_cell_49 rfl rfl ?_
          refine GO.getR h_x fl_RX11_12 rfl rfl dX11_cell_50 (fun hv346 h345 => ?_)
          refine GO.iload_n dX11_cell_53 rfl rfl ?_
          refine GO.callV (ci := 0) (N := mX0_isCell) dX11_cell_54 (RX0, TX0, 13) rfl gV_RX11_119 h345 (t_X0_isCell h345 r_p0) rfl [] rfl rfl (Nat.le_of_ble_eq_true rfl) rfl (k_ip fun X347 r348 h349 => ?_)
          have raw_isCell := h349.2.2.2
          have rw54 := h349.2.2.2
          refine GO.if_eq (tgt := 89) dX11_cell_57 (by decide) r348 (fun c350 => ?_) (fun c350 => ?_)
          ·
            refine GO.iconst dX11_cell_89 ?_
            exact GO.retz rfl rfl dX11_cell_90 (Or.inl rfl) ⟨rfl, _, rfl, (ir_c rfl), ⟨Or.inl rfl, fun _ => trivial, fun _ => trivial, (by first | exact CEC.no (by unfold CED; omega) rfl | exact CEC.no (fun g => absurd (rw54.mpr g.1) (by omega)) rfl)⟩⟩
          ·
            refine GO.iload_n dX11_cell_60 rfl rfl ?_
            refine GO.iconst dX11_cell_61 ?_
            refine GO.bipush dX11_cell_62 rfl ?_
            refine GO.callS (N := mX11_between) dX11_cell_64 gS_RX11_112 (t_X11_between r_p1 (ir_c rfl) (ir_c rfl)) rfl [] rfl rfl (Nat.le_of_ble_eq_true rfl) rfl (k_ip fun X351 r352 h353 => ?_)
            refine GO.if_eq (tgt := 89) dX11_cell_67 (by decide) r352 (fun c354 => ?_) (fun c354 => ?_)
            ·
              have q355 := h353.2.2 (by omega)
              refine GO.iconst dX11_cell_89 ?_
              exact GO.retz rfl rfl dX11_cell_90 (Or.inl rfl) ⟨rfl, _, rfl, (ir_c rfl), ⟨Or.inl rfl, fun _ => trivial, fun _ => trivial, (by first | exact CEC.no (by unfold CED; omega) rfl | exact CEC.no (fun g => absurd (rw54.mpr g.1) (by omega)) rfl)⟩⟩
            ·
              have q356 := h353.2.1 (by omega)
              refine GO.iload_n dX11_cell_70 rfl rfl ?_
              refine GO.iconst dX11_cell_71 ?_
              refine GO.iconst dX11_cell_72 ?_
              refine GO.callS (N := mX11_between) dX11_cell_73 gS_RX11_112 (t_X11_between r_p2 (ir_c rfl) (ir_c rfl)) rfl [] rfl rfl (Nat.le_of_ble_eq_true rfl) rfl (k_ip fun X357 r358 h359 => ?_)
              refine GO.if_eq (tgt := 89) dX11_cell_76 (by decide) r358 (fun c360 => ?_) (fun c360 => ?_)
              ·
                have q361 := h359.2.2 (by omega)
                refine GO.iconst dX11_cell_89 ?_
                exact GO.retz rfl rfl dX11_cell_90 (Or.inl rfl) ⟨rfl, _, rfl, (ir_c rfl), ⟨Or.inl rfl, fun _ => trivial, fun _ => trivial, (by first | exact CEC.no (by unfold CED; omega) rfl | exact CEC.no (fun g => absurd (rw54.mpr g.1) (by omega)) rfl)⟩⟩
              ·
                have q362 := h359.2.1 (by omega)
                refine GO.iload dX11_cell_79 rfl ?_
                refine GO.if_ne (tgt := 91) dX11_cell_81 (by decide) (ir_c rfl) (fun c363 => ?_) (fun c363 => ?_)
                ·
                  refine GO.aload_n dX11_cell_91 rfl rfl ?_
                  refine GO.getRaw h_x fl_RX11_12 hv346 dX11_cell_92 ?_
                  refine GO.getA (n := 144) h345 fl_RX11_123 rfl rfl rfl rfl dX11_cell_95 (fun hv367 h366 => ?_)
                  refine GO.iload_n dX11_cell_98 rfl rfl ?_
                  refine GO.iload_n dX11_cell_99 rfl rfl ?_
                  refine GO.callS (N := mX4_put_t125) dX11_cell_100 gS_RX11_108 (t_X4_put_t125 h366 r_p0 r_p1) rfl [] rfl rfl (Nat.le_of_ble_eq_true rfl) rfl (k_vs fun V370 h369 hF368 => ?_)
                  have raw_put := h369.2
                  have rw100 := h369.2
                  refine GO.aload_n dX11_cell_103 rfl rfl ?_
                  refine GO.getRaw h_x fl_RX11_12 (Eq.trans (hF368 _ _ _ h_x h_x (by decide +kernel)) hv346) dX11_cell_104 ?_
                  refine GO.getA (n := 144) h345 fl_RX11_126 rfl rfl rfl rfl dX11_cell_107 (fun hv374 h373 => ?_)
                  refine GO.iload_n dX11_cell_110 rfl rfl ?_
                  refine GO.iload_n dX11_cell_111 rfl rfl ?_
                  refine GO.callS (N := mX4_put_t126) dX11_cell_112 gS_RX11_108 (t_X4_put_t126 h373 r_p0 r_p2) rfl [] rfl rfl (Nat.le_of_ble_eq_true rfl) rfl (k_vs fun V377 h376 hF375 => ?_)
                  have raw_put := h376.2
                  have rw112 := h376.2
                  refine GO.aload_n dX11_cell_115 rfl rfl ?_
                  refine GO.getRaw h_x fl_RX11_12 (Eq.trans (hF375 _ _ _ h_x h_x (by decide +kernel)) (Eq.trans (hF368 _ _ _ h_x h_x (by decide +kernel)) hv346)) dX11_cell_116 ?_
                  refine GO.getA (n := 144) h345 fl_RX11_129 rfl rfl rfl rfl dX11_cell_119 (fun hv381 h380 => ?_)
                  refine GO.iload_n dX11_cell_122 rfl rfl ?_
                  refine GO.iload dX11_cell_123 rfl ?_
                  refine GO.callS (N := mX4_put_t127) dX11_cell_125 gS_RX11_108 (t_X4_put_t127 h380 r_p0 r_p3) rfl [] rfl rfl (Nat.le_of_ble_eq_true rfl) rfl (k_vs fun V384 h383 hF382 => ?_)
                  have raw_put := h383.2
                  have rw125 := h383.2
                  refine GO.aload_n dX11_cell_128 rfl rfl ?_
                  refine GO.getRaw h_x fl_RX11_12 (Eq.trans (hF382 _ _ _ h_x h_x (by decide +kernel)) (Eq.trans (hF375 _ _ _ h_x h_x (by decide +kernel)) (Eq.trans (hF368 _ _ _ h_x h_x (by decide +kernel)) hv346))) dX11_cell_129 ?_
                  refine GO.getA (n := 144) h345 fl_RX11_132 rfl rfl rfl rfl dX11_cell_132 (fun hv388 h387 => ?_)
                  refine GO.iload_n dX11_cell_135 rfl rfl ?_
                  refine GO.iload dX11_cell_136 rfl ?_
                  refine GO.callS (N := mX4_put_t128) dX11_cell_138 gS_RX11_108 (t_X4_put_t128 h387 r_p0 r_p4) rfl [] rfl rfl (Nat.le_of_ble_eq_true rfl) rfl (k_vs fun V391 h390 hF389 => ?_)
                  have raw_put := h390.2
                  have rw138 := h390.2
                  refine GO.iconst dX11_cell_141 ?_
                  exact GO.retz rfl rfl dX11_cell_142 (Or.inr rfl) ⟨rfl, _, rfl, (ir_c rfl), ⟨Or.inr rfl, fun _ => trivial, fun _ => trivial, (by first | exact CEC.no (by unfold CED; omega) rfl | exact CEC.no (fun g => absurd (rw54.mpr g.1) (by omega)) rfl | exact CEC.ok ⟨rw54.mp (by omega), by omega, by omega, by omega, by omega, by omega⟩ rfl hW_0 h_x r_p1 r_p2 r_p3 r_p4 rw100 rw112 rw125 rw138)⟩⟩
                ·
                  refine GO.iload dX11_cell_84 rfl ?_
                  refine GO.if_ne (tgt := 91) dX11_cell_86 (by decide) (ir_c rfl) (fun c392 => ?_) (fun c392 => ?_)
                  ·
                    refine GO.aload_n dX11_cell_91 rfl rfl ?_
                    refine GO.getRaw h_x fl_RX11_12 hv346 dX11_cell_92 ?_
                    refine GO.getA (n := 144) h345 fl_RX11_123 rfl rfl rfl rfl dX11_cell_95 (fun hv396 h395 => ?_)
                    refine GO.iload_n dX11_cell_98 rfl rfl ?_
                    refine GO.iload_n dX11_cell_99 rfl rfl ?_
                    refine GO.callS (N := mX4_put_t125) dX11_cell_100 gS_RX11_108 (t_X4_put_t125 h395 r_p0 r_p1) rfl [] rfl rfl (Nat.le_of_ble_eq_true rfl) rfl (k_vs fun V399 h398 hF397 => ?_)
                    have raw_put := h398.2
                    have rw100 := h398.2
                    refine GO.aload_n dX11_cell_103 rfl rfl ?_
                    refine GO.getRaw h_x fl_RX11_12 (Eq.trans (hF397 _ _ _ h_x h_x (by decide +kernel)) hv346) dX11_cell_104 ?_
                    refine GO.getA (n := 144) h345 fl_RX11_126 rfl rfl rfl rfl dX11_cell_107 (fun hv403 h402 => ?_)
                    refine GO.iload_n dX11_cell_110 rfl rfl ?_
                    refine GO.iload_n dX11_cell_111 rfl rfl ?_
                    refine GO.callS (N := mX4_put_t126) dX11_cell_112 gS_RX11_108 (t_X4_put_t126 h402 r_p0 r_p2) rfl [] rfl rfl (Nat.le_of_ble_eq_true rfl) rfl (k_vs fun V406 h405 hF404 => ?_)
                    have raw_put := h405.2
                    have rw112 := h405.2
                    refine GO.aload_n dX11_cell_115 rfl rfl ?_
                    refine GO.getRaw h_x fl_RX11_12 (Eq.trans (hF404 _ _ _ h_x h_x (by decide +kernel)) (Eq.trans (hF397 _ _ _ h_x h_x (by decide +kernel)) hv346)) dX11_cell_116 ?_
                    refine GO.getA (n := 144) h345 fl_RX11_129 rfl rfl rfl rfl dX11_cell_119 (fun hv410 h409 => ?_)
                    refine GO.iload_n dX11_cell_122 rfl rfl ?_
                    refine GO.iload dX11_cell_123 rfl ?_
                    refine GO.callS (N := mX4_put_t127) dX11_cell_125 gS_RX11_108 (t_X4_put_t127 h409 r_p0 r_p3) rfl [] rfl rfl (Nat.le_of_ble_eq_true rfl) rfl (k_vs fun V413 h412 hF411 => ?_)
                    have raw_put := h412.2
                    have rw125 := h412.2
                    refine GO.aload_n dX11_cell_128 rfl rfl ?_
                    refine GO.getRaw h_x fl_RX11_12 (Eq.trans (hF411 _ _ _ h_x h_x (by decide +kernel)) (Eq.trans (hF404 _ _ _ h_x h_x (by decide +kernel)) (Eq.trans (hF397 _ _ _ h_x h_x (by decide +kernel)) hv346))) dX11_cell_129 ?_
                    refine GO.getA (n := 144) h345 fl_RX11_132 rfl rfl rfl rfl dX11_cell_132 (fun hv417 h416 => ?_)
                    refine GO.iload_n dX11_cell_135 rfl rfl ?_
                    refine GO.iload dX11_cell_136 rfl ?_
                    refine GO.callS (N := mX4_put_t128) dX11_cell_138 gS_RX11_108 (t_X4_put_t128 h416 r_p0 r_p4) rfl [] rfl rfl (Nat.le_of_ble_eq_true rfl) rfl (k_vs fun V420 h419 hF418 => ?_)
                    have raw_put := h419.2
                    have rw138 := h419.2
                    refine GO.iconst dX11_cell_141 ?_
                    exact GO.retz rfl rfl dX11_cell_142 (Or.inr rfl) ⟨rfl, _, rfl, (ir_c rfl), ⟨Or.inr rfl, fun _ => trivial, fun _ => trivial, (by first | exact CEC.no (by unfold CED; omega) rfl | exact CEC.no (fun g => absurd (rw54.mpr g.1) (by omega)) rfl | exact CEC.ok ⟨rw54.mp (by omega), by omega, by omega, by omega, by omega, by omega⟩ rfl hW_0 h_x r_p1 r_p2 r_p3 r_p4 rw100 rw112 rw125 rw138)⟩⟩
                  ·
                    refine GO.iconst dX11_cell_89 ?_
                    exact GO.retz rfl rfl dX11_cell_90 (Or.inl rfl) ⟨rfl, _, rfl, (ir_c rfl), ⟨Or.inl rfl, fun _ => trivial, fun _ => trivial, (by first | exact CEC.no (by unfold CED; omega) rfl | exact CEC.no (fun g => absurd (rw54.mpr g.1) (by omega)) rfl)⟩⟩
        ·
          have q421 := h342.2.1 (by omega)
          refine GO.iconst dX11_cell_42 ?_
          refine GO.goto (tgt := 47) dX11_cell_43 (by decide) ?_
          refine GO.istore (ls1 := [some (.ref x), some (ti p0), some (ti p1), some (ti p2), some (ti p3), some (ti p4), some (ti 1), some (ti 1)]) dX11_cell_47 rfl rfl ?_
          refine GO.aload_n dX11_cell_49 rfl rfl ?_
          refine GO.getR h_x fl_RX11_12 rfl rfl dX11_cell_50 (fun hv423 h422 => ?_)
          refine GO.iload_n dX11_cell_53 rfl rfl ?_
          refine GO.callV (ci := 0) (N := mX0_isCell) dX11_cell_54 (RX0, TX0, 13) rfl gV_RX11_119 h422 (t_X0_isCell h422 r_p0) rfl [] rfl rfl (Nat.le_of_ble_eq_true rfl) rfl (k_ip fun X424 r425 h426 => ?_)
          have raw_isCell := h426.2.2.2
          have rw54 := h426.2.2.2
          refine GO.if_eq (tgt := 89) dX11_cell_57 (by decide) r425 (fun c427 => ?_) (fun c427 => ?_)
          ·
            refine GO.iconst dX11_cell_89 ?_
            exact GO.retz rfl rfl dX11_cell_90 (Or.inl rfl) ⟨rfl, _, rfl, (ir_c rfl), ⟨Or.inl rfl, fun _ => trivial, fun _ => trivial, (by first | exact CEC.no (by unfold CED; omega) rfl | exact CEC.no (fun g => absurd (rw54.mpr g.1) (by omega)) rfl)⟩⟩
          ·
            refine GO.iload_n dX11_cell_60 rfl rfl ?_
            refine GO.iconst dX11_cell_61 ?_
            refine GO.bipush dX11_cell_62 rfl ?_
            refine GO.callS (N := mX11_between) dX11_cell_64 gS_RX11_112 (t_X11_between r_p1 (ir_c rfl) (ir_c rfl)) rfl [] rfl rfl (Nat.le_of_ble_eq_true rfl) rfl (k_ip fun X428 r429 h430 => ?_)
            refine GO.if_eq (tgt := 89) dX11_cell_67 (by decide) r429 (fun c431 => ?_) (fun c431 => ?_)
            ·
              have q432 := h430.2.2 (by omega)
              refine GO.iconst dX11_cell_89 ?_
              exact GO.retz rfl rfl dX11_cell_90 (Or.inl rfl) ⟨rfl, _, rfl, (ir_c rfl), ⟨Or.inl rfl, fun _ => trivial, fun _ => trivial, (by first | exact CEC.no (by unfold CED; omega) rfl | exact CEC.no (fun g => absurd (rw54.mpr g.1) (by omega)) rfl)⟩⟩
            ·
              have q433 := h430.2.1 (by omega)
              refine GO.iload_n dX11_cell_70 rfl rfl ?_
              refine GO.iconst dX11_cell_71 ?_
              refine GO.iconst dX11_cell_72 ?_
              refine GO.callS (N := mX11_between) dX11_cell_73 gS_RX11_112 (t_X11_between r_p2 (ir_c rfl) (ir_c rfl)) rfl [] rfl rfl (Nat.le_of_ble_eq_true rfl) rfl (k_ip fun X434 r435 h436 => ?_)
              refine GO.if_eq (tgt := 89) dX11_cell_76 (by decide) r435 (fun c437 => ?_) (fun c437 => ?_)
              ·
                have q438 := h436.2.2 (by omega)
                refine GO.iconst dX11_cell_89 ?_
                exact GO.retz rfl rfl dX11_cell_90 (Or.inl rfl) ⟨rfl, _, rfl, (ir_c rfl), ⟨Or.inl rfl, fun _ => trivial, fun _ => trivial, (by first | exact CEC.no (by unfold CED; omega) rfl | exact CEC.no (fun g => absurd (rw54.mpr g.1) (by omega)) rfl)⟩⟩
              ·
                have q439 := h436.2.1 (by omega)
                refine GO.iload dX11_cell_79 rfl ?_
                refine GO.if_ne (tgt := 91) dX11_cell_81 (by decide) (ir_c rfl) (fun c440 => ?_) (fun c440 => ?_)
                ·
                  refine GO.aload_n dX11_cell_91 rfl rfl ?_
                  refine GO.getRaw h_x fl_RX11_12 hv423 dX11_cell_92 ?_
                  refine GO.getA (n := 144) h422 fl_RX11_123 rfl rfl rfl rfl dX11_cell_95 (fun hv444 h443 => ?_)
                  refine GO.iload_n dX11_cell_98 rfl rfl ?_
                  refine GO.iload_n dX11_cell_99 rfl rfl ?_
                  refine GO.callS (N := mX4_put_t125) dX11_cell_100 gS_RX11_108 (t_X4_put_t125 h443 r_p0 r_p1) rfl [] rfl rfl (Nat.le_of_ble_eq_true rfl) rfl (k_vs fun V447 h446 hF445 => ?_)
                  have raw_put := h446.2
                  have rw100 := h446.2
                  refine GO.aload_n dX11_cell_103 rfl rfl ?_
                  refine GO.getRaw h_x fl_RX11_12 (Eq.trans (hF445 _ _ _ h_x h_x (by decide +kernel)) hv423) dX11_cell_104 ?_
                  refine GO.getA (n := 144) h422 fl_RX11_126 rfl rfl rfl rfl dX11_cell_107 (fun hv451 h450 => ?_)
                  refine GO.iload_n dX11_cell_110 rfl rfl ?_
                  refine GO.iload_n dX11_cell_111 rfl rfl ?_
                  refine GO.callS (N := mX4_put_t126) dX11_cell_112 gS_RX11_108 (t_X4_put_t126 h450 r_p0 r_p2) rfl [] rfl rfl (Nat.le_of_ble_eq_true rfl) rfl (k_vs fun V454 h453 hF452 => ?_)
                  have raw_put := h453.2
                  have rw112 := h453.2
                  refine GO.aload_n dX11_cell_115 rfl rfl ?_
                  refine GO.getRaw h_x fl_RX11_12 (Eq.trans (hF452 _ _ _ h_x h_x (by decide +kernel)) (Eq.trans (hF445 _ _ _ h_x h_x (by decide +kernel)) hv423)) dX11_cell_116 ?_
                  refine GO.getA (n := 144) h422 fl_RX11_129 rfl rfl rfl rfl dX11_cell_119 (fun hv458 h457 => ?_)
                  refine GO.iload_n dX11_cell_122 rfl rfl ?_
                  refine GO.iload dX11_cell_123 rfl ?_
                  refine GO.callS (N := mX4_put_t127) dX11_cell_125 gS_RX11_108 (t_X4_put_t127 h457 r_p0 r_p3) rfl [] rfl rfl (Nat.le_of_ble_eq_true rfl) rfl (k_vs fun V461 h460 hF459 => ?_)
                  have raw_put := h460.2
                  have rw125 := h460.2
                  refine GO.aload_n dX11_cell_128 rfl rfl ?_
                  refine GO.getRaw h_x fl_RX11_12 (Eq.trans (hF459 _ _ _ h_x h_x (by decide +kernel)) (Eq.trans (hF452 _ _ _ h_x h_x (by decide +kernel)) (Eq.trans (hF445 _ _ _ h_x h_x (by decide +kernel)) hv423))) dX11_cell_129 ?_
                  refine GO.getA (n := 144) h422 fl_RX11_132 rfl rfl rfl rfl dX11_cell_132 (fun hv465 h464 => ?_)
                  refine GO.iload_n dX11_cell_135 rfl rfl ?_
                  refine GO.iload dX11_cell_136 rfl ?_
                  refine GO.callS (N := mX4_put_t128) dX11_cell_138 gS_RX11_108 (t_X4_put_t128 h464 r_p0 r_p4) rfl [] rfl rfl (Nat.le_of_ble_eq_true rfl) rfl (k_vs fun V468 h467 hF466 => ?_)
                  have raw_put := h467.2
                  have rw138 := h467.2
                  refine GO.iconst dX11_cell_141 ?_
                  exact GO.retz rfl rfl dX11_cell_142 (Or.inr rfl) ⟨rfl, _, rfl, (ir_c rfl), ⟨Or.inr rfl, fun _ => trivial, fun _ => trivial, (by first | exact CEC.no (by unfold CED; omega) rfl | exact CEC.no (fun g => absurd (rw54.mpr g.1) (by omega)) rfl | exact CEC.ok ⟨rw54.mp (by omega), by omega, by omega, by omega, by omega, by omega⟩ rfl hW_0 h_x r_p1 r_p2 r_p3 r_p4 rw100 rw112 rw125 rw138)⟩⟩
                ·
                  refine GO.iload dX11_cell_84 rfl ?_
                  refine GO.if_ne (tgt := 91) dX11_cell_86 (by decide) (ir_c rfl) (fun c469 => ?_) (fun c469 => ?_)
                  ·
                    refine GO.aload_n dX11_cell_91 rfl rfl ?_
                    refine GO.getRaw h_x fl_RX11_12 hv423 dX11_cell_92 ?_
                    refine GO.getA (n := 144) h422 fl_RX11_123 rfl rfl rfl rfl dX11_cell_95 (fun hv473 h472 => ?_)
                    refine GO.iload_n dX11_cell_98 rfl rfl ?_
                    refine GO.iload_n dX11_cell_99 rfl rfl ?_
                    refine GO.callS (N := mX4_put_t125) dX11_cell_100 gS_RX11_108 (t_X4_put_t125 h472 r_p0 r_p1) rfl [] rfl rfl (Nat.le_of_ble_eq_true rfl) rfl (k_vs fun V476 h475 hF474 => ?_)
                    have raw_put := h475.2
                    have rw100 := h475.2
                    refine GO.aload_n dX11_cell_103 rfl rfl ?_
                    refine GO.getRaw h_x fl_RX11_12 (Eq.trans (hF474 _ _ _ h_x h_x (by decide +kernel)) hv423) dX11_cell_104 ?_
                    refine GO.getA (n := 144) h422 fl_RX11_126 rfl rfl rfl rfl dX11_cell_107 (fun hv480 h479 => ?_)
                    refine GO.iload_n dX11_cell_110 rfl rfl ?_
                    refine GO.iload_n dX11_cell_111 rfl rfl ?_
                    refine GO.callS (N := mX4_put_t126) dX11_cell_112 gS_RX11_108 (t_X4_put_t126 h479 r_p0 r_p2) rfl [] rfl rfl (Nat.le_of_ble_eq_true rfl) rfl (k_vs fun V483 h482 hF481 => ?_)
                    have raw_put := h482.2
                    have rw112 := h482.2
                    refine GO.aload_n dX11_cell_115 rfl rfl ?_
                    refine GO.getRaw h_x fl_RX11_12 (Eq.trans (hF481 _ _ _ h_x h_x (by decide +kernel)) (Eq.trans (hF474 _ _ _ h_x h_x (by decide +kernel)) hv423)) dX11_cell_116 ?_
                    refine GO.getA (n := 144) h422 fl_RX11_129 rfl rfl rfl rfl dX11_cell_119 (fun hv487 h486 => ?_)
                    refine GO.iload_n dX11_cell_122 rfl rfl ?_
                    refine GO.iload dX11_cell_123 rfl ?_
                    refine GO.callS (N := mX4_put_t127) dX11_cell_125 gS_RX11_108 (t_X4_put_t127 h486 r_p0 r_p3) rfl [] rfl rfl (Nat.le_of_ble_eq_true rfl) rfl (k_vs fun V490 h489 hF488 => ?_)
                    have raw_put := h489.2
                    have rw125 := h489.2
                    refine GO.aload_n dX11_cell_128 rfl rfl ?_
                    refine GO.getRaw h_x fl_RX11_12 (Eq.trans (hF488 _ _ _ h_x h_x (by decide +kernel)) (Eq.trans (hF481 _ _ _ h_x h_x (by decide +kernel)) (Eq.trans (hF474 _ _ _ h_x h_x (by decide +kernel)) hv423))) dX11_cell_129 ?_
                    refine GO.getA (n := 144) h422 fl_RX11_132 rfl rfl rfl rfl dX11_cell_132 (fun hv494 h493 => ?_)
                    refine GO.iload_n dX11_cell_135 rfl rfl ?_
                    refine GO.iload dX11_cell_136 rfl ?_
                    refine GO.callS (N := mX4_put_t128) dX11_cell_138 gS_RX11_108 (t_X4_put_t128 h493 r_p0 r_p4) rfl [] rfl rfl (Nat.le_of_ble_eq_true rfl) rfl (k_vs fun V497 h496 hF495 => ?_)
                    have raw_put := h496.2
                    have rw138 := h496.2
                    refine GO.iconst dX11_cell_141 ?_
                    exact GO.retz rfl rfl dX11_cell_142 (Or.inr rfl) ⟨rfl, _, rfl, (ir_c rfl), ⟨Or.inr rfl, fun _ => trivial, fun _ => trivial, (by first | exact CEC.no (by unfold CED; omega) rfl | exact CEC.no (fun g => absurd (rw54.mpr g.1) (by omega)) rfl | exact CEC.ok ⟨rw54.mp (by omega), by omega, by omega, by omega, by omega, by omega⟩ rfl hW_0 h_x r_p1 r_p2 r_p3 r_p4 rw100 rw112 rw125 rw138)⟩⟩
                  ·
                    refine GO.iconst dX11_cell_89 ?_
                    exact GO.retz rfl rfl dX11_cell_90 (Or.inl rfl) ⟨rfl, _, rfl, (ir_c rfl), ⟨Or.inl rfl, fun _ => trivial, fun _ => trivial, (by first | exact CEC.no (by unfold CED; omega) rfl | exact CEC.no (fun g => absurd (rw54.mpr g.1) (by omega)) rfl)⟩⟩
