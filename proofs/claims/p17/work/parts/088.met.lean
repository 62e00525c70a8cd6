def mX6_seek : MRec := (RX6, cX6_seek, 2, (none : Option Jvm.ClassFile.FieldType), yX6_seek, 18, 404, 0, 0, 79326716254829831874229836963932524779408561955713746314157855432928694948357361499022705252765834181710959278060858278674432)
def mX7_init : MRec := (RX7, cX7_init, 4, (none : Option Jvm.ClassFile.FieldType), yX7_init, 1, 12, 0, 0, 265568996408383549344794103276234313664796558863515961599722069100201779930426121369581251132614642834444664743123250507673289668826353619704759989383293675971915635417696609515864064)
def mX7_leave : MRec := (RX7, cX7_leave, 6, (none : Option Jvm.ClassFile.FieldType), yX7_leave, 0, 0, 0, 0, 35270174668932662689792)
def mX7_turnBack : MRec := (RX7, cX7_turnBack, 2, (none : Option Jvm.ClassFile.FieldType), yX7_turnBack, 0, 0, 0, 0, 4869940435459321626624)
def mX8_init_k33 : MRec := (RX8, cX8_init, 3, (none : Option Jvm.ClassFile.FieldType), yX8_init, 1, 21, 1, 72, 531137992816767098689588206552468627329593117727031923199444138200403559860852242739162502265229285668889329486246501015346579337652707239409519978766587351943831270835393219031728128)
def mX9_init : MRec := (RX9, cX9_init, 5, (none : Option Jvm.ClassFile.FieldType), yX9_init, 2, 43, 3, 276, 1593413978450301296068764619657405881988779353181095769598332414601210679582556728217487506795687857006667988458739503046039738012958121718228559936299762055831493812506179657095184384)
def mX10_init : MRec := (RX10, cX10_init, 6, (none : Option Jvm.ClassFile.FieldType), yX10_init, 1, 12, 0, 0, 2124551971267068394758352826209874509318372470908127692797776552801614239443408970956650009060917142675557317944986004061386317350610828957638079915066349407775325083341572876126912512)
def mX11_between : MRec := (RX11, cX11_between, 3, (some .boolean), yX11_between, 0, 0, 0, 0, 0)
def mX11_ice : MRec := (RX11, cX11_ice, 3, (some .boolean), yX11_ice, 2, 44, 0, 0, 2420859260706476802802424223752823632184099180777397043278743146756857145640788619965292518700129216971159223724450775064)
def mX4_put_t125 : MRec := (RX4, cX4_put, 3, (none : Option Jvm.ClassFile.FieldType), yX4_put, 0, 0, 0, 0, 161390617380431786853494948250188242145606612051826469551916209783790476376052574664352834580008614464743948248296718336)
def mX4_put_t126 : MRec := (RX4, cX4_put, 3, (none : Option Jvm.ClassFile.FieldType), yX4_put, 0, 0, 0, 0, 322781234760863573706989896500376484291213224103652939103832419567580952752105149328705669160017228929487896496593436672)
def mX4_put_t127 : MRec := (RX4, cX4_put, 3, (none : Option Jvm.ClassFile.FieldType), yX4_put, 0, 0, 0, 0, 645562469521727147413979793000752968582426448207305878207664839135161905504210298657411338320034457858975792993186873344)
def mX4_put_t128 : MRec := (RX4, cX4_put, 3, (none : Option Jvm.ClassFile.FieldType), yX4_put, 0, 0, 0, 0, 1291124939043454294827959586001505937164852896414611756415329678270323811008420597314822676640068915717951585986373746688)
def mX11_cell : MRec := (RX11, cX11_cell, 8, (some .boolean), yX11_cell, 1, 22, 0, 0, 2420859260706476802802424223752823632184099180777397043278743146756857145640788619965292518700129216971159223724450775040)
def mX11_areYearDays : MRec := (RX11, cX11_areYearDays, 2, (some .boolean), yX11_areYearDays, 0, 0, 0, 0, 0)
def mX11_dark : MRec := (RX11, cX11_dark, 3, (some .boolean), yX11_dark, 1, 21, 0, 0, 6)
def mX11_party : MRec := (RX11, cX11_party, 2, (some .int), yX11_party, 2, 43, 3, 32, 16598062275523971834049631454764644604049784928969747599982629359110265590759579298972565258335475774262847441455854010941817638484232027819904885804034680074337973575563986457329664)
def mX11_partyOf : MRec := (RX11, cX11_partyOf, 2, (some (.object "IceTreaty$Party")), yX11_partyOf, 0, 0, 0, 0, 0)
set_option maxHeartbeats 1000000 in
theorem t_X6_seek {K : Kmap} {V : Vmap} {x : Nat} {p0 : Int} (h_x : K x = some (0, 5)) (r_p0 : ir p0) : MC mX6_seek K V [.ref x, ti p0] (VS K (fun V1 => (True))) := by
  refine MC.start 0 (by decide +kernel) rfl rfl rfl (ls0 := [some (.ref x), some (ti p0)]) rfl ?_
  refine GO.aload_n dX6_seek_0 rfl rfl ?_
  refine GO.iload_n dX6_seek_1 rfl rfl ?_
  refine GO.putI h_x fp_RX6_42 rfl (by decide +kernel) r_p0 (r_p0).1 (r_p0).2 dX6_seek_2 (fun V2 e1 => ?_)
  refine GO.aload_n dX6_seek_5 rfl rfl ?_
  refine GO.iconst dX6_seek_6 ?_
  refine GO.putI h_x fp_RX6_46 rfl (by decide +kernel) (ir_c rfl) (by decide) (by decide) dX6_seek_7 (fun V4 e3 => ?_)
  refine GO.aload_n dX6_seek_10 rfl rfl ?_
  refine GO.callV (ci := 5) (N := mX6_lookAhead) dX6_seek_11 (RX6, TX6, 10) rfl gV_RX6_62 h_x (t_X6_lookAhead h_x) rfl [] rfl rfl (Nat.le_of_ble_eq_true rfl) rfl (k_vs fun V7 h6 hF5 => ?_)
  refine GO.aload_n dX6_seek_14 rfl rfl ?_
  refine GO.iconst dX6_seek_15 ?_
  refine GO.iconst dX6_seek_16 ?_
  refine GO.callV (ci := 5) (N := mX6_extend_8) dX6_seek_17 (RX6, TX6, 10) rfl gV_RX6_65 h_x (t_X6_extend_8 h_x (ir_c rfl) (ir_c rfl) (by omega)) rfl [] rfl rfl (Nat.le_of_ble_eq_true rfl) rfl (k_vs fun V10 h9 hF8 => ?_)
  exact GO.retv rfl rfl dX6_seek_20 ⟨rfl, rfl, trivial⟩

set_option maxHeartbeats 1000000 in
theorem t_X7_init {K : Kmap} {V : Vmap} {x : Nat} {p0 : Int} {p1 : Int} {p2 : Int} (h_x : K x = some (0, 18)) (r_p0 : ir p0) (r_p1 : ir p1) (r_p2 : ir p2) : MC mX7_init K V [.ref x, ti p0, ti p1, ti p2] (VX (fun K1 _ => K1 x = some (0, 6) ∧ KE K K1 x)) := by
  refine MC.start 0 (by decide +kernel) rfl rfl rfl (ls0 := [some (.ref x), some (ti p0), some (ti p1), some (ti p2)]) rfl ?_
  refine GO.aload_n dX7_init_0 rfl rfl ?_
  refine GO.objInit dX7_init_1 gw_1049 gw_27 gw_28 rfl rfl ?_
  refine GO.aload_n dX7_init_4 rfl rfl ?_
  refine GO.iconst dX7_init_5 ?_
  refine GO.putRW rfl (by decide +kernel) h_x fp_raw_fp_RX7_9 rfl rfl dX7_init_6 (fun V2 e1 => ?_)
  refine GO.aload_n dX7_init_9 rfl rfl ?_
  refine GO.iconst dX7_init_10 ?_
  refine GO.putRW rfl (by decide +kernel) h_x fp_raw_fp_RX7_15 rfl rfl dX7_init_11 (fun V4 e3 => ?_)
  refine GO.aload_n dX7_init_14 rfl rfl ?_
  refine GO.iconst dX7_init_15 ?_
  refine GO.putRW rfl (by decide +kernel) h_x fp_raw_fp_RX7_18 rfl rfl dX7_init_16 (fun V6 e5 => ?_)
  refine GO.aload_n dX7_init_19 rfl rfl ?_
  refine GO.iconst dX7_init_20 ?_
  refine GO.putRW rfl (by decide +kernel) h_x fp_raw_fp_RX7_21 rfl rfl dX7_init_21 (fun V8 e7 => ?_)
  refine GO.aload_n dX7_init_24 rfl rfl ?_
  refine GO.iconst dX7_init_25 ?_
  refine GO.putRW rfl (by decide +kernel) h_x fp_raw_fp_RX7_24 rfl rfl dX7_init_26 (fun V10 e9 => ?_)
  refine GO.aload_n dX7_init_29 rfl rfl ?_
  refine GO.iconst dX7_init_30 ?_
  refine GO.putRW rfl (by decide +kernel) h_x fp_raw_fp_RX7_27 rfl rfl dX7_init_31 (fun V12 e11 => ?_)
  refine GO.aload_n dX7_init_34 rfl rfl ?_
  refine GO.iconst dX7_init_35 ?_
  refine GO.putRW rfl (by decide +kernel) h_x fp_raw_fp_RX7_30 rfl rfl dX7_init_36 (fun V14 e13 => ?_)
  refine GO.aload_n dX7_init_39 rfl rfl ?_
  refine GO.iconst dX7_init_40 ?_
  refine GO.putRW rfl (by decide +kernel) h_x fp_raw_fp_RX7_33 rfl rfl dX7_init_41 (fun V16 e15 => ?_)
  refine GO.aload_n dX7_init_44 rfl rfl ?_
  refine GO.iload_n dX7_init_45 rfl rfl ?_
  refine GO.putRF rfl rfl (by decide +kernel) h_x fp_raw_fp_RX7_36 rfl rfl dX7_init_46 (fun V18 e17 => ?_)
  refine GO.aload_n dX7_init_49 rfl rfl ?_
  refine GO.iload_n dX7_init_50 rfl rfl ?_
  refine GO.putRF rfl rfl (by decide +kernel) h_x fp_raw_fp_RX7_39 rfl rfl dX7_init_51 (fun V20 e19 => ?_)
  refine GO.aload_n dX7_init_54 rfl rfl ?_
  refine GO.iload_n dX7_init_55 rfl rfl ?_
  refine GO.putRF rfl rfl (by decide +kernel) h_x fp_raw_fp_RX7_42 rfl rfl dX7_init_56 (fun V22 e21 => ?_)
  refine GO.promote (ci := 6) rfl h_x (fun j hj => ?_) (fun K23 e24 hE25 h26 => ?_)
  ·
    have hj : j < 11 := hj
    match j, hj with
    | 0, _ => exact okv_any (Eq.trans (uq_ne e21 (Or.inr (by decide))) (Eq.trans (uq_ne e19 (Or.inr (by decide))) (uq_at e17)))
    | 1, _ => exact okv_any (Eq.trans (uq_ne e21 (Or.inr (by decide))) (uq_at e19))
    | 2, _ => exact okv_any (uq_at e21)
    | 3, _ => exact okv_any (Eq.trans (uq_ne e21 (Or.inr (by decide))) (Eq.trans (uq_ne e19 (Or.inr (by decide))) (Eq.trans (uq_ne e17 (Or.inr (by decide))) (Eq.trans (uq_ne e15 (Or.inr (by decide))) (Eq.trans (uq_ne e13 (Or.inr (by decide))) (Eq.trans (uq_ne e11 (Or.inr (by decide))) (Eq.trans (uq_ne e9 (Or.inr (by decide))) (Eq.trans (uq_ne e7 (Or.inr (by decide))) (Eq.trans (uq_ne e5 (Or.inr (by decide))) (Eq.trans (uq_ne e3 (Or.inr (by decide))) (uq_at e1)))))))))))
    | 4, _ => exact okv_any (Eq.trans (uq_ne e21 (Or.inr (by decide))) (Eq.trans (uq_ne e19 (Or.inr (by decide))) (Eq.trans (uq_ne e17 (Or.inr (by decide))) (Eq.trans (uq_ne e15 (Or.inr (by decide))) (Eq.trans (uq_ne e13 (Or.inr (by decide))) (Eq.trans (uq_ne e11 (Or.inr (by decide))) (Eq.trans (uq_ne e9 (Or.inr (by decide))) (Eq.trans (uq_ne e7 (Or.inr (by decide))) (Eq.trans (uq_ne e5 (Or.inr (by decide))) (uq_at e3))))))))))
    | 5, _ => exact okv_any (Eq.trans (uq_ne e21 (Or.inr (by decide))) (Eq.trans (uq_ne e19 (Or.inr (by decide))) (Eq.trans (uq_ne e17 (Or.inr (by decide))) (Eq.trans (uq_ne e15 (Or.inr (by decide))) (Eq.trans (uq_ne e13 (Or.inr (by decide))) (Eq.trans (uq_ne e11 (Or.inr (by decide))) (Eq.trans (uq_ne e9 (Or.inr (by decide))) (Eq.trans (uq_ne e7 (Or.inr (by decide))) (uq_at e5)))))))))
    | 6, _ => exact okv_any (Eq.trans (uq_ne e21 (Or.inr (by decide))) (Eq.trans (uq_ne e19 (Or.inr (by decide))) (Eq.trans (uq_ne e17 (Or.inr (by decide))) (Eq.trans (uq_ne e15 (Or.inr (by decide))) (Eq.trans (uq_ne e13 (Or.inr (by decide))) (Eq.trans (uq_ne e11 (Or.inr (by decide))) (Eq.trans (uq_ne e9 (Or.inr (by decide))) (uq_at e7))))))))
    | 7, _ => exact okv_any (Eq.trans (uq_ne e21 (Or.inr (by decide))) (Eq.trans (uq_ne e19 (Or.inr (by decide))) (Eq.trans (uq_ne e17 (Or.inr (by decide))) (Eq.trans (uq_ne e15 (Or.inr (by decide))) (Eq.trans (uq_ne e13 (Or.inr (by decide))) (Eq.trans (uq_ne e11 (Or.inr (by decide))) (uq_at e9)))))))
    | 8, _ => exact okv_any (Eq.trans (uq_ne e21 (Or.inr (by decide))) (Eq.trans (uq_ne e19 (Or.inr (by decide))) (Eq.trans (uq_ne e17 (Or.inr (by decide))) (Eq.trans (uq_ne e15 (Or.inr (by decide))) (Eq.trans (uq_ne e13 (Or.inr (by decide))) (uq_at e11))))))
    | 9, _ => exact okv_any (Eq.trans (uq_ne e21 (Or.inr (by decide))) (Eq.trans (uq_ne e19 (Or.inr (by decide))) (Eq.trans (uq_ne e17 (Or.inr (by decide))) (Eq.trans (uq_ne e15 (Or.inr (by decide))) (uq_at e13)))))
    | 10, _ => exact okv_any (Eq.trans (uq_ne e21 (Or.inr (by decide))) (Eq.trans (uq_ne e19 (Or.inr (by decide))) (Eq.trans (uq_ne e17 (Or.inr (by decide))) (uq_at e15))))
    | j + 11, hj => exact absurd hj (by omega)
  exact GO.retv rfl rfl dX7_init_59 ⟨rfl, h26, KE.promote KE.rf e24⟩

set_option maxHeartbeats 1000000 in
theorem t_X7_leave {K : Kmap} {V : Vmap} {x : Nat} {p0 : Int} {p1 : Int} {p2 : Int} {p3 : Int} {p4 : Int} (h_x : K x = some (0, 6)) (r_p0 : ir p0) (r_p1 : ir p1) (r_p2 : ir p2) (r_p3 : ir p3) (r_p4 : ir p4) : MC mX7_leave K V [.ref x, ti p0, ti p1, ti p2, ti p3, ti p4] (VS K (fun V1 => (True))) := by
  refine MC.start 0 (by decide +kernel) rfl rfl rfl (ls0 := [some (.ref x), some (ti p0), some (ti p1), some (ti p2), some (ti p3), some (ti p4)]) rfl ?_
  refine GO.aload_n dX7_leave_0 rfl rfl ?_
  refine GO.iconst dX7_leave_1 ?_
  refine GO.putI h_x fp_RX7_9 rfl (by decide +kernel) (ir_c rfl) (by decide) (by decide) dX7_leave_2 (fun V2 e1 => ?_)
  refine GO.aload_n dX7_leave_5 rfl rfl ?_
  refine GO.iload_n dX7_leave_6 rfl rfl ?_
  refine GO.putI h_x fp_RX7_15 rfl (by decide +kernel) r_p0 (r_p0).1 (r_p0).2 dX7_leave_7 (fun V4 e3 => ?_)
  refine GO.aload_n dX7_leave_10 rfl rfl ?_
  refine GO.iload_n dX7_leave_11 rfl rfl ?_
  refine GO.putI h_x fp_RX7_18 rfl (by decide +kernel) r_p1 (r_p1).1 (r_p1).2 dX7_leave_12 (fun V6 e5 => ?_)
  refine GO.aload_n dX7_leave_15 rfl rfl ?_
  refine GO.iload_n dX7_leave_16 rfl rfl ?_
  refine GO.putI h_x fp_RX7_21 rfl (by decide +kernel) r_p2 (r_p2).1 (r_p2).2 dX7_leave_17 (fun V8 e7 => ?_)
  refine GO.aload_n dX7_leave_20 rfl rfl ?_
  refine GO.iload dX7_leave_21 rfl ?_
  refine GO.putI h_x fp_RX7_33 rfl (by decide +kernel) r_p4 (r_p4).1 (r_p4).2 dX7_leave_23 (fun V10 e9 => ?_)
  refine GO.aload_n dX7_leave_26 rfl rfl ?_
  refine GO.iload dX7_leave_27 rfl ?_
  refine GO.iload dX7_leave_29 rfl ?_
  refine GO.iadd dX7_leave_31 ?_
  refine GO.norm (fun z11 r12 hn13 => ?_)
  refine GO.putI h_x fp_RX7_27 rfl (by decide +kernel) r12 (r12).1 (r12).2 dX7_leave_32 (fun V15 e14 => ?_)
  refine GO.aload_n dX7_leave_35 rfl rfl ?_
  refine GO.iconst dX7_leave_36 ?_
  refine GO.putI h_x fp_RX7_30 rfl (by decide +kernel) (ir_c rfl) (by decide) (by decide) dX7_leave_37 (fun V17 e16 => ?_)
  exact GO.retv rfl rfl dX7_leave_40 ⟨rfl, rfl, trivial⟩

set_option maxHeartbeats 1000000 in
theorem t_X7_turnBack {K : Kmap} {V : Vmap} {x : Nat} {p0 : Int} (h_x : K x = some (0, 6)) (r_p0 : ir p0) : MC mX7_turnBack K V [.ref x, ti p0] (VS K (fun V1 => (True))) := by
  refine MC.start 0 (by decide +kernel) rfl rfl rfl (ls0 := [some (.ref x), some (ti p0)]) rfl ?_
  refine GO.aload_n dX7_turnBack_0 rfl rfl ?_
  refine GO.iconst dX7_turnBack_1 ?_
  refine GO.putI h_x fp_RX7_9 rfl (by decide +kernel) (ir_c rfl) (by decide) (by decide) dX7_turnBack_2 (fun V2 e1 => ?_)
  refine GO.aload_n dX7_turnBack_5 rfl rfl ?_
  refine GO.iload_n dX7_turnBack_6 rfl rfl ?_
  refine GO.aload_n dX7_turnBack_7 rfl rfl ?_
  refine GO.getI h_x fl_RX7_33 rfl rfl dX7_turnBack_8 (fun _ _ => ?_)
  refine GO.iadd dX7_turnBack_11 ?_
  refine GO.norm (fun z4 r5 hn6 => ?_)
  refine GO.putI h_x fp_RX7_27 rfl (by decide +kernel) r5 (r5).1 (r5).2 dX7_turnBack_12 (fun V8 e7 => ?_)
  exact GO.retv rfl rfl dX7_turnBack_15 ⟨rfl, rfl, trivial⟩

set_option maxHeartbeats 1000000 in
theorem t_X8_init_k33 {K : Kmap} {V : Vmap} {x : Nat} {p0 : Int} {p1 : Int} (h_x : K x = some (0, 19)) (r_p0 : ir p0) (r_p1 : ir p1) (q_0 : p0 = 6) (q_1 : p1 ≥ 1) (q_2 : p1 ≤ 12) : MC mX8_init_k33 K V [.ref x, ti p0, ti p1] (VX (fun K1 V1 => (K1 x = some (0, 33) ∧ vi V1 x 3 = 0 ∧ (TBM K1 V1 x p1) ∧ (TBZ K V1 x)) ∧ KE K K1 x)) := by
  refine MC.start 0 (by decide +kernel) rfl rfl rfl (ls0 := [some (.ref x), some (ti p0), some (ti p1)]) rfl ?_
  refine GO.aload_n dX8_init_0 rfl rfl ?_
  refine GO.objInit dX8_init_1 gw_103 gw_27 gw_28 rfl rfl ?_
  refine GO.aload_n dX8_init_4 rfl rfl ?_
  refine GO.iconst dX8_init_5 ?_
  refine GO.putRW rfl (by decide +kernel) h_x fp_raw_fp_RX8_9 rfl rfl dX8_init_6 (fun V2 e1 => ?_)
  refine GO.aload_n dX8_init_9 rfl rfl ?_
  refine GO.iload_n dX8_init_10 rfl rfl ?_
  refine GO.putRF rfl rfl (by decide +kernel) h_x fp_raw_fp_RX8_15 rfl rfl dX8_init_11 (fun V4 e3 => ?_)
  refine GO.aload_n dX8_init_14 rfl rfl ?_
  refine GO.iload_n dX8_init_15 rfl rfl ?_
  refine GO.putRF rfl rfl (by decide +kernel) h_x fp_raw_fp_RX8_18 rfl rfl dX8_init_16 (fun V6 e5 => ?_)
  refine GO.aload_n dX8_init_19 rfl rfl ?_
  refine GO.iconst dX8_init_20 ?_
  refine GO.iload_n dX8_init_21 rfl rfl ?_
  refine GO.iload_n dX8_init_22 rfl rfl ?_
  refine GO.imul dX8_init_23 ?_
  have q7 : -2147483648 ≤ p1 ∧ p1 ≤ 2147483647 := r_p1
  have q8 : -2147483648 ≤ p0 ∧ p0 ≤ 2147483647 := r_p0
  have m9 := mul_rng (a := p0) (b := p1) (A := 6) (B := 12) (by omega) (by omega) (by omega) (by omega)
  have m10 := mul_low (a := p0) (b := p1) (m := 6) (n := 1) (by omega) (by omega) (by omega) (by omega)
  refine GO.callS (N := mJ9_max_7cf53) dX8_init_24 gS_RX8_21 (t_J9_max_7cf53 (ir_c rfl) ⟨by omega, by omega⟩) rfl [.ref x] rfl rfl (Nat.le_of_ble_eq_true rfl) rfl (k_ip fun X11 r12 h13 => ?_)
  have q14 : -2147483648 ≤ X11 ∧ X11 ≤ 2147483647 := r12
  refine GO.newIT 155 72 gw_89 rfl rfl (fun _ _ => okv_df rfl rfl rfl) r12 (by omega) (by omega) rfl (Or.inl rfl) rfl rfl dX8_init_27 (fun o15 K16 V22 hq17 hK18 hE19 h20 hz23 hV21 => ?_)
  have h24 := (by rw [hK18, updK_ne (K_old h_x hq17)]; exact h_x : K16 x = some (0, 19))
  have h25 := KE.nw KE.rf h_x hq17
  refine GO.putRF rfl rfl (by decide +kernel) h24 fp_raw_fp_RX8_27 rfl rfl dX8_init_29 (fun V27 e26 => ?_)
  refine GO.promoteT 33 rfl rfl h24 (fun j hj => ?_) (fun K28 e29 hE30 h31 => ?_)
  ·
    have hj : j < 4 := hj
    match j, hj with
    | 0, _ => exact okv_at (Eq.trans (uq_ne e26 (Or.inr (by decide))) (Eq.trans (congrFun (hV21 _ (K_old h_x hq17)) _) (Eq.trans (uq_ne e5 (Or.inr (by decide))) (uq_at e3)))) r_p0 (by omega) (by omega)
    | 1, _ => exact okv_at (Eq.trans (uq_ne e26 (Or.inr (by decide))) (Eq.trans (congrFun (hV21 _ (K_old h_x hq17)) _) (uq_at e5))) r_p1 (by omega) (by omega)
    | 2, _ => exact ⟨_, (uq_at e26), ⟨_, h20⟩⟩
    | 3, _ => exact okv_at (Eq.trans (uq_ne e26 (Or.inr (by decide))) (Eq.trans (congrFun (hV21 _ (K_old h_x hq17)) _) (Eq.trans (uq_ne e5 (Or.inr (by decide))) (Eq.trans (uq_ne e3 (Or.inr (by decide))) (uq_at e1))))) (ir_c rfl) (by omega) (by omega)
    | j + 4, hj => exact absurd hj (by omega)
  exact GO.retv rfl rfl dX8_init_32 ⟨rfl, ⟨h31, vi_at (Eq.trans (uq_ne e26 (Or.inr (by decide))) (Eq.trans (congrFun (hV21 _ (K_old h_x hq17)) _) (Eq.trans (uq_ne e5 (Or.inr (by decide))) (Eq.trans (uq_ne e3 (Or.inr (by decide))) (uq_at e1))))) (ir_c rfl), (TBM.mk (Eq.trans (uq_ne e26 (Or.inr (by decide))) (Eq.trans (congrFun (hV21 _ (K_old h_x hq17)) _) (uq_at e5))) r_p1 (uq_at e26) (hE30.arr h20) (by have e9 : p0 * p1 = 6 * p1 := (by rw [q_0]); omega)), (TBZ.mk (uq_at e26) h25.1 (by assumption) h25.2 hz23)⟩, KE.promote (KE.new KE.rf hq17 hK18) e29⟩

set_option maxHeartbeats 1000000 in
theorem t_X9_init {K : Kmap} {V : Vmap} {x : Nat} {p0 : Int} {p1 : Int} {p2 : Int} {p3 : Int} (h_x : K x = some (0, 20)) (r_p0 : ir p0) (r_p1 : ir p1) (r_p2 : ir p2) (r_p3 : ir p3) (q_0 : p2 ≥ 0) (q_1 : p2 ≤ 200) (q_2 : p3 ≥ 1) (q_3 : p3 ≤ 12) : MC mX9_init K V [.ref x, ti p0, ti p1, ti p2, ti p3] (VX (fun K1 V1 => (K1 x = some (0, 8) ∧ (NTX K K1 V1 x p0 p1 p2 p3)) ∧ KE K K1 x)) := by
  refine MC.start 0 (by decide +kernel) rfl rfl rfl (ls0 := [some (.ref x), some (ti p0), some (ti p1), some (ti p2), some (ti p3)]) rfl ?_
  refine GO.aload_n dX9_init_0 rfl rfl ?_
  refine GO.objInit dX9_init_1 gw_575 gw_27 gw_28 rfl rfl ?_
  refine GO.aload_n dX9_init_4 rfl rfl ?_
  refine GO.iconst dX9_init_5 ?_
  refine GO.putRW rfl (by decide +kernel) h_x fp_raw_fp_RX9_9 rfl rfl dX9_init_6 (fun V2 e1 => ?_)
  refine GO.aload_n dX9_init_9 rfl rfl ?_
  refine GO.iload_n dX9_init_10 rfl rfl ?_
  refine GO.putRF rfl rfl (by decide +kernel) h_x fp_raw_fp_RX9_15 rfl rfl dX9_init_11 (fun V4 e3 => ?_)
  refine GO.aload_n dX9_init_14 rfl rfl ?_
  refine GO.iload_n dX9_init_15 rfl rfl ?_
  refine GO.putRF rfl rfl (by decide +kernel) h_x fp_raw_fp_RX9_18 rfl rfl dX9_init_16 (fun V6 e5 => ?_)
  refine GO.aload_n dX9_init_19 rfl rfl ?_
  refine GO.new (ci := 19) (RX8, TX8, 4) tyX8 rfl rfl lays_7 tyX8_ok gw_576 gw_99 gw_5 rfl rfl dX9_init_20 (fun o7 K8 V14 hq9 hK10 hE11 h12 _ hV13 => ?_)
  have h15 := (by rw [hK10, updK_ne (K_old h_x hq9)]; exact h_x : K8 x = some (0, 20))
  have h16 := KE.nw KE.rf h_x hq9
  refine GO.dup dX9_init_23 rfl ?_
  refine GO.bipush dX9_init_24 rfl ?_
  refine GO.iload dX9_init_26 rfl ?_
  have q17 : -2147483648 ≤ p3 ∧ p3 ≤ 2147483647 := r_p3
  refine GO.callI (N := mX8_init_k33) dX9_init_28 gI_RX9_23 rfl (t_X8_init_k33 h12 (ir_c rfl) r_p3 (by omega) (by omega) (by omega)) rfl [.ref o7, .ref x] rfl rfl (Nat.le_of_ble_eq_true rfl) rfl (k_vx fun K20 V22 h21 hE19 hF18 => ?_)
  have h23 := h21.2 _ _ (K_ne h15 h12 (by decide)) h15
  have h24 := h21.1.1
  have ir0_28 := h21.1.2.2.1
  have ir1_28 := h21.1.2.2.2
  have q25 : vi V22 o7 3 = 0 := h21.1.2.1
  refine GO.putRF rfl rfl (by decide +kernel) h23 fp_raw_fp_RX9_26 rfl rfl dX9_init_31 (fun V27 e26 => ?_)
  refine GO.aload_n dX9_init_34 rfl rfl ?_
  refine GO.iconst dX9_init_35 ?_
  refine GO.iload_n dX9_init_36 rfl rfl ?_
  refine GO.callS (N := mJ9_max_7cf53) dX9_init_37 gS_RX9_30 (t_J9_max_7cf53 (ir_c rfl) r_p2) rfl [.ref x] rfl rfl (Nat.le_of_ble_eq_true rfl) rfl (k_ip fun X28 r29 h30 => ?_)
  have q31 : -2147483648 ≤ p2 ∧ p2 ≤ 2147483647 := r_p2
  have q32 : -2147483648 ≤ X28 ∧ X28 ≤ 2147483647 := r29
  refine GO.newIT 144 200 gw_89 rfl rfl (fun _ _ => okv_df rfl rfl rfl) r29 (by omega) (by omega) rfl (Or.inl rfl) rfl rfl dX9_init_40 (fun o33 K34 V40 hq35 hK36 hE37 h38 hz41 hV39 => ?_)
  have h42 := (by rw [hK36, updK_ne (K_old h23 hq35)]; exact h23 : K34 x = some (0, 20))
  have h43 := hE37.obj (by decide) h24
  have h44 := KE.nw (KE.call (KE.new KE.rf hq9 hK10) h21.2 h16) h23 hq35
  refine GO.putRF rfl rfl (by decide +kernel) h42 fp_raw_fp_RX9_36 rfl rfl dX9_init_42 (fun V46 e45 => ?_)
  refine GO.promote (ci := 8) rfl h42 (fun j hj => ?_) (fun K47 e48 hE49 h50 => ?_)
  ·
    have hj : j < 5 := hj
    match j, hj with
    | 0, _ => exact okv_any (Eq.trans (uq_ne e45 (Or.inr (by decide))) (Eq.trans (congrFun (hV39 _ (K_old h23 hq35)) _) (Eq.trans (uq_ne e26 (Or.inr (by decide))) (Eq.trans (hF18 _ _ _ h15 h23 (by decide +kernel)) (Eq.trans (congrFun (hV13 _ (K_old h_x hq9)) _) (Eq.trans (uq_ne e5 (Or.inr (by decide))) (uq_at e3)))))))
    | 1, _ => exact okv_any (Eq.trans (uq_ne e45 (Or.inr (by decide))) (Eq.trans (congrFun (hV39 _ (K_old h23 hq35)) _) (Eq.trans (uq_ne e26 (Or.inr (by decide))) (Eq.trans (hF18 _ _ _ h15 h23 (by decide +kernel)) (Eq.trans (congrFun (hV13 _ (K_old h_x hq9)) _) (uq_at e5))))))
    | 2, _ => exact ⟨_, (Eq.trans (uq_ne e45 (Or.inr (by decide))) (Eq.trans (congrFun (hV39 _ (K_old h23 hq35)) _) (uq_at e26))), h43⟩
    | 3, _ => exact ⟨_, (uq_at e45), ⟨_, h38⟩⟩
    | 4, _ => exact okv_any (Eq.trans (uq_ne e45 (Or.inr (by decide))) (Eq.trans (congrFun (hV39 _ (K_old h23 hq35)) _) (Eq.trans (uq_ne e26 (Or.inr (by decide))) (Eq.trans (hF18 _ _ _ h15 h23 (by decide +kernel)) (Eq.trans (congrFun (hV13 _ (K_old h_x hq9)) _) (Eq.trans (uq_ne e5 (Or.inr (by decide))) (Eq.trans (uq_ne e3 (Or.inr (by decide))) (uq_at e1))))))))
    | j + 5, hj => exact absurd hj (by omega)
  exact GO.retv rfl rfl dX9_init_45 ⟨rfl, ⟨h50, (NTX.mk (Eq.trans (uq_ne e45 (Or.inr (by decide))) (Eq.trans (congrFun (hV39 _ (K_old h23 hq35)) _) (Eq.trans (uq_ne e26 (Or.inr (by decide))) (Eq.trans (hF18 _ _ _ h15 h23 (by decide +kernel)) (Eq.trans (congrFun (hV13 _ (K_old h_x hq9)) _) (Eq.trans (uq_ne e5 (Or.inr (by decide))) (uq_at e3))))))) r_p0 (Eq.trans (uq_ne e45 (Or.inr (by decide))) (Eq.trans (congrFun (hV39 _ (K_old h23 hq35)) _) (Eq.trans (uq_ne e26 (Or.inr (by decide))) (Eq.trans (hF18 _ _ _ h15 h23 (by decide +kernel)) (Eq.trans (congrFun (hV13 _ (K_old h_x hq9)) _) (uq_at e5)))))) r_p1 (Eq.trans (uq_ne e45 (Or.inr (by decide))) (Eq.trans (congrFun (hV39 _ (K_old h23 hq35)) _) (Eq.trans (uq_ne e26 (Or.inr (by decide))) (Eq.trans (hF18 _ _ _ h15 h23 (by decide +kernel)) (Eq.trans (congrFun (hV13 _ (K_old h_x hq9)) _) (Eq.trans (uq_ne e5 (Or.inr (by decide))) (Eq.trans (uq_ne e3 (Or.inr (by decide))) (uq_at e1)))))))) (Eq.trans (uq_ne e45 (Or.inr (by decide))) (Eq.trans (congrFun (hV39 _ (K_old h23 hq35)) _) (uq_at e26))) (uq_at e45) (hE49.arr h38) (by omega) h44.1 (hE49.obj (by decide) h43) h16.1 h21.1.1 h21.1.2.1 ir0_28 ir1_28 hE11 (by assumption) hq35 (hE37.tr hE49) (by assumption) hV39 (by assumption))⟩, KE.promote (KE.new (KE.call (KE.new KE.rf hq9 hK10) h21.2 h16) hq35 hK36) e48⟩

set_option maxHeartbeats 1000000 in
theorem t_X10_init {K : Kmap} {V : Vmap} {x : Nat} {p0 : Int} {p1 : Int} {p2 : Int} {p3 : Int} {p4 : Int} (h_x : K x = some (0, 21)) (r_p0 : ir p0) (r_p1 : ir p1) (r_p2 : ir p2) (r_p3 : ir p3) (r_p4 : ir p4) : MC mX10_init K V [.ref x, ti p0, ti p1, ti p2, ti p3, ti p4] (VX (fun K1 _ => K1 x = some (0, 9) ∧ KE K K1 x)) := by
  refine MC.start 0 (by decide +kernel) rfl rfl rfl (ls0 := [some (.ref x), some (ti p0), some (ti p1), some (ti p2), some (ti p3), some (ti p4)]) rfl ?_
  refine GO.aload_n dX10_init_0 rfl rfl ?_
  refine GO.objInit dX10_init_1 gw_879 gw_27 gw_28 rfl rfl ?_
  refine GO.aload_n dX10_init_4 rfl rfl ?_
  refine GO.iconst dX10_init_5 ?_
  refine GO.putRW rfl (by decide +kernel) h_x fp_raw_fp_RX10_9 rfl rfl dX10_init_6 (fun V2 e1 => ?_)
  refine GO.aload_n dX10_init_9 rfl rfl ?_
  refine GO.iconst dX10_init_10 ?_
  refine GO.putRW rfl (by decide +kernel) h_x fp_raw_fp_RX10_15 rfl rfl dX10_init_11 (fun V4 e3 => ?_)
  refine GO.aload_n dX10_init_14 rfl rfl ?_
  refine GO.iconst dX10_init_15 ?_
  refine GO.putRW rfl (by decide +kernel) h_x fp_raw_fp_RX10_18 rfl rfl dX10_init_16 (fun V6 e5 => ?_)
  refine GO.aload_n dX10_init_19 rfl rfl ?_
  refine GO.iconst dX10_init_20 ?_
  refine GO.putRW rfl (by decide +kernel) h_x fp_raw_fp_RX10_21 rfl rfl dX10_init_21 (fun V8 e7 => ?_)
  refine GO.aload_n dX10_init_24 rfl rfl ?_
  refine GO.iconst dX10_init_25 ?_
  refine GO.putRW rfl (by decide +kernel) h_x fp_raw_fp_RX10_24 rfl rfl dX10_init_26 (fun V10 e9 => ?_)
  refine GO.aload_n dX10_init_29 rfl rfl ?_
  refine GO.iconst dX10_init_30 ?_
  refine GO.putRW rfl (by decide +kernel) h_x fp_raw_fp_RX10_27 rfl rfl dX10_init_31 (fun V12 e11 => ?_)
  refine GO.aload_n dX10_init_34 rfl rfl ?_
  refine GO.iconst dX10_init_35 ?_
  refine GO.putRW rfl (by decide +kernel) h_x fp_raw_fp_RX10_30 rfl rfl dX10_init_36 (fun V14 e13 => ?_)
  refine GO.aload_n dX10_init_39 rfl rfl ?_
  refine GO.iconst dX10_init_40 ?_
  refine GO.putRW rfl (by decide +kernel) h_x fp_raw_fp_RX10_33 rfl rfl dX10_init_41 (fun V16 e15 => ?_)
  refine GO.aload_n dX10_init_44 rfl rfl ?_
  refine GO.iconst dX10_init_45 ?_
  refine GO.putRW rfl (by decide +kernel) h_x fp_raw_fp_RX10_36 rfl rfl dX10_init_46 (fun V18 e17 => ?_)
  refine GO.aload_n dX10_init_49 rfl rfl ?_
  refine GO.iconst dX10_init_50 ?_
  refine GO.putRW rfl (by decide +kernel) h_x fp_raw_fp_RX10_39 rfl rfl dX10_init_51 (fun V20 e19 => ?_)
  refine GO.aload_n dX10_init_54 rfl rfl ?_
  refine GO.iload_n dX10_init_55 rfl rfl ?_
  refine GO.putRF rfl rfl (by decide +kernel) h_x fp_raw_fp_RX10_42 rfl rfl dX10_init_56 (fun V22 e21 => ?_)
  refine GO.aload_n dX10_init_59 rfl rfl ?_
  refine GO.iload_n dX10_init_60 rfl rfl ?_
  refine GO.putRF rfl rfl (by decide +kernel) h_x fp_raw_fp_RX10_45 rfl rfl dX10_init_61 (fun V24 e23 => ?_)
  refine GO.aload_n dX10_init_64 rfl rfl ?_
  refine GO.iload_n dX10_init_65 rfl rfl ?_
  refine GO.putRF rfl rfl (by decide +kernel) h_x fp_raw_fp_RX10_48 rfl rfl dX10_init_66 (fun V26 e25 => ?_)
  refine GO.aload_n dX10_init_69 rfl rfl ?_
  refine GO.iload dX10_init_70 rfl ?_
  refine GO.putRF rfl rfl (by decide +kernel) h_x fp_raw_fp_RX10_51 rfl rfl dX10_init_72 (fun V28 e27 => ?_)
  refine GO.aload_n dX10_init_75 rfl rfl ?_
  refine GO.iload dX10_init_76 rfl ?_
  refine GO.putRF rfl rfl (by decide +kernel) h_x fp_raw_fp_RX10_54 rfl rfl dX10_init_78 (fun V30 e29 => ?_)
  refine GO.promote (ci := 9) rfl h_x (fun j hj => ?_) (fun K31 e32 hE33 h34 => ?_)
  ·
    have hj : j < 15 := hj
    match j, hj with
    | 0, _ => exact okv_any (Eq.trans (uq_ne e29 (Or.inr (by decide))) (Eq.trans (uq_ne e27 (Or.inr (by decide))) (Eq.trans (uq_ne e25 (Or.inr (by decide))) (Eq.trans (uq_ne e23 (Or.inr (by decide))) (uq_at e21)))))
    | 1, _ => exact okv_any (Eq.trans (uq_ne e29 (Or.inr (by decide))) (Eq.trans (uq_ne e27 (Or.inr (by decide))) (Eq.trans (uq_ne e25 (Or.inr (by decide))) (uq_at e23))))
    | 2, _ => exact okv_any (Eq.trans (uq_ne e29 (Or.inr (by decide))) (Eq.trans (uq_ne e27 (Or.inr (by decide))) (uq_at e25)))
    | 3, _ => exact okv_any (Eq.trans (uq_ne e29 (Or.inr (by decide))) (uq_at e27))
    | 4, _ => exact okv_any (uq_at e29)
    | 5, _ => exact okv_any (Eq.trans (uq_ne e29 (Or.inr (by decide))) (Eq.trans (uq_ne e27 (Or.inr (by decide))) (Eq.trans (uq_ne e25 (Or.inr (by decide))) (Eq.trans (uq_ne e23 (Or.inr (by decide))) (Eq.trans (uq_ne e21 (Or.inr (by decide))) (Eq.trans (uq_ne e19 (Or.inr (by decide))) (Eq.trans (uq_ne e17 (Or.inr (by decide))) (Eq.trans (uq_ne e15 (Or.inr (by decide))) (Eq.trans (uq_ne e13 (Or.inr (by decide))) (Eq.trans (uq_ne e11 (Or.inr (by decide))) (Eq.trans (uq_ne e9 (Or.inr (by decide))) (Eq.trans (uq_ne e7 (Or.inr (by decide))) (Eq.trans (uq_ne e5 (Or.inr (by decide))) (Eq.trans (uq_ne e3 (Or.inr (by decide))) (uq_at e1)))))))))))))))
    | 6, _ => exact okv_any (Eq.trans (uq_ne e29 (Or.inr (by decide))) (Eq.trans (uq_ne e27 (Or.inr (by decide))) (Eq.trans (uq_ne e25 (Or.inr (by decide))) (Eq.trans (uq_ne e23 (Or.inr (by decide))) (Eq.trans (uq_ne e21 (Or.inr (by decide))) (Eq.trans (uq_ne e19 (Or.inr (by decide))) (Eq.trans (uq_ne e17 (Or.inr (by decide))) (Eq.trans (uq_ne e15 (Or.inr (by decide))) (Eq.trans (uq_ne e13 (Or.inr (by decide))) (Eq.trans (uq_ne e11 (Or.inr (by decide))) (Eq.trans (uq_ne e9 (Or.inr (by decide))) (Eq.trans (uq_ne e7 (Or.inr (by decide))) (Eq.trans (uq_ne e5 (Or.inr (by decide))) (uq_at e3))))))))))))))
    | 7, _ => exact okv_any (Eq.trans (uq_ne e29 (Or.inr (by decide))) (Eq.trans (uq_ne e27 (Or.inr (by decide))) (Eq.trans (uq_ne e25 (Or.inr (by decide))) (Eq.trans (uq_ne e23 (Or.inr (by decide))) (Eq.trans (uq_ne e21 (Or.inr (by decide))) (Eq.trans (uq_ne e19 (Or.inr (by decide))) (Eq.trans (uq_ne e17 (Or.inr (by decide))) (Eq.trans (uq_ne e15 (Or.inr (by decide))) (Eq.trans (uq_ne e13 (Or.inr (by decide))) (Eq.trans (uq_ne e11 (Or.inr (by decide))) (Eq.trans (uq_ne e9 (Or.inr (by decide))) (Eq.trans (uq_ne e7 (Or.inr (by decide))) (uq_at e5)))))))))))))
    | 8, _ => exact okv_any (Eq.trans (uq_ne e29 (Or.inr (by decide))) (Eq.trans (uq_ne e27 (Or.inr (by decide))) (Eq.trans (uq_ne e25 (Or.inr (by decide))) (Eq.trans (uq_ne e23 (Or.inr (by decide))) (Eq.trans (uq_ne e21 (Or.inr (by decide))) (Eq.trans (uq_ne e19 (Or.inr (by decide))) (Eq.trans (uq_ne e17 (Or.inr (by decide))) (Eq.trans (uq_ne e15 (Or.inr (by decide))) (Eq.trans (uq_ne e13 (Or.inr (by decide))) (Eq.trans (uq_ne e11 (Or.inr (by decide))) (Eq.trans (uq_ne e9 (Or.inr (by decide))) (uq_at e7))))))))))))
    | 9, _ => exact okv_any (Eq.trans (uq_ne e29 (Or.inr (by decide))) (Eq.trans (uq_ne e27 (Or.inr (by decide))) (Eq.trans (uq_ne e25 (Or.inr (by decide))) (Eq.trans (uq_ne e23 (Or.inr (by decide))) (Eq.trans (uq_ne e21 (Or.inr (by decide))) (Eq.trans (uq_ne e19 (Or.inr (by decide))) (Eq.trans (uq_ne e17 (Or.inr (by decide))) (Eq.trans (uq_ne e15 (Or.inr (by decide))) (Eq.trans (uq_ne e13 (Or.inr (by decide))) (Eq.trans (uq_ne e11 (Or.inr (by decide))) (uq_at e9)))))))))))
    | 10, _ => exact okv_any (Eq.trans (uq_ne e29 (Or.inr (by decide))) (Eq.trans (uq_ne e27 (Or.inr (by decide))) (Eq.trans (uq_ne e25 (Or.inr (by decide))) (Eq.trans (uq_ne e23 (Or.inr (by decide))) (Eq.trans (uq_ne e21 (Or.inr (by decide))) (Eq.trans (uq_ne e19 (Or.inr (by decide))) (Eq.trans (uq_ne e17 (Or.inr (by decide))) (Eq.trans (uq_ne e15 (Or.inr (by decide))) (Eq.trans (uq_ne e13 (Or.inr (by decide))) (uq_at e11))))))))))
    | 11, _ => exact okv_any (Eq.trans (uq_ne e29 (Or.inr (by decide))) (Eq.trans (uq_ne e27 (Or.inr (by decide))) (Eq.trans (uq_ne e25 (Or.inr (by decide))) (Eq.trans (uq_ne e23 (Or.inr (by decide))) (Eq.trans (uq_ne e21 (Or.inr (by decide))) (Eq.trans (uq_ne e19 (Or.inr (by decide))) (Eq.trans (uq_ne e17 (Or.inr (by decide))) (Eq.trans (uq_ne e15 (Or.inr (by decide))) (uq_at e13)))))))))
    | 12, _ => exact okv_any (Eq.trans (uq_ne e29 (Or.inr (by decide))) (Eq.trans (uq_ne e27 (Or.inr (by decide))) (Eq.trans (uq_ne e25 (Or.inr (by decide))) (Eq.trans (uq_ne e23 (Or.inr (by decide))) (Eq.trans (uq_ne e21 (Or.inr (by decide))) (Eq.trans (uq_ne e19 (Or.inr (by decide))) (Eq.trans (uq_ne e17 (Or.inr (by decide))) (uq_at e15))))))))
    | 13, _ => exact okv_any (Eq.trans (uq_ne e29 (Or.inr (by decide))) (Eq.trans (uq_ne e27 (Or.inr (by decide))) (Eq.trans (uq_ne e25 (Or.inr (by decide))) (Eq.trans (uq_ne e23 (Or.inr (by decide))) (Eq.trans (uq_ne e21 (Or.inr (by decide))) (Eq.trans (uq_ne e19 (Or.inr (by decide))) (uq_at e17)))))))
    | 14, _ => exact okv_any (Eq.trans (uq_ne e29 (Or.inr (by decide))) (Eq.trans (uq_ne e27 (Or.inr (by decide))) (Eq.trans (uq_ne e25 (Or.inr (by decide))) (Eq.trans (uq_ne e23 (Or.inr (by decide))) (Eq.trans (uq_ne e21 (Or.inr (by decide))) (uq_at e19))))))
    | j + 15, hj => exact absurd hj (by omega)
  exact GO.retv rfl rfl dX10_init_81 ⟨rfl, h34, KE.promote KE.rf e32⟩

set_option maxHeartbeats 1000000 in
theorem t_X11_between {K : Kmap} {V : Vmap} {p0 : Int} {p1 : Int} {p2 : Int} (r_p0 : ir p0) (r_p1 : ir p1) (r_p2 : ir p2) : MC mX11_between K V [ti p0, ti p1, ti p2] (IP K V (fun X => (X = 0 ∨ X = 1) ∧ (X ≠ 0 → p0 ≥ p1 ∧ p0 ≤ p2) ∧ (X = 0 → (p0 < p1 ∨ p0 > p2)))) := by
  refine MC.start 0 (by decide +kernel) rfl rfl rfl (ls0 := [some (ti p0), some (ti p1), some (ti p2)]) rfl ?_
  refine GO.iload_n dX11_between_0 rfl rfl ?_
  refine GO.iload_n dX11_between_1 rfl rfl ?_
  refine GO.icmp_lt (tgt := 14) dX11_between_2 (by decide) r_p0 r_p1 (fun c1 => ?_) (fun c1 => ?_)
  ·
    refine GO.iconst dX11_between_14 ?_
    exact GO.retz rfl rfl dX11_between_15 (Or.inl rfl) ⟨rfl, rfl, _, rfl, (ir_c rfl), ⟨Or.inl rfl, fun h => absurd rfl h, fun h => by omega⟩⟩
  ·
    refine GO.iload_n dX11_between_5 rfl rfl ?_
    refine GO.iload_n dX11_between_6 rfl rfl ?_
    refine GO.icmp_gt (tgt := 14) dX11_between_7 (by decide) r_p0 r_p2 (fun c2 => ?_) (fun c2 => ?_)
    ·
      refine GO.iconst dX11_between_14 ?_
      exact GO.retz rfl rfl dX11_between_15 (Or.inl rfl) ⟨rfl, rfl, _, rfl, (ir_c rfl), ⟨Or.inl rfl, fun h => absurd rfl h, fun h => by omega⟩⟩
    ·
      refine GO.iconst dX11_between_10 ?_
      refine GO.goto (tgt := 15) dX11_between_11 (by decide) ?_
      exact GO.retz rfl rfl dX11_between_15 (Or.inr rfl) ⟨rfl, rfl, _, rfl, (ir_c rfl), ⟨Or.inr rfl, fun h => by omega, fun h => absurd h (by decide)⟩⟩

set_option maxHeartbeats 1000000 in
theorem t_X11_ice {K : Kmap} {V : Vmap} {x : Nat} {p0 : Int} {p1 : Int} (h_x : K x = some (0, 10)) (r_p0 : ir p0) (r_p1 : ir p1) : MC mX11_ice K V [.ref x, ti p0, ti p1] (IS K (fun X V1 => (X = 0 ∨ X = 1) ∧ (X ≠ 0 → True) ∧ (X = 0 → True))) := by
  refine MC.start 0 (by decide +kernel) rfl rfl rfl (ls0 := [some (.ref x), some (ti p0), some (ti p1)]) rfl ?_
  refine GO.iload_n dX11_ice_0 rfl rfl ?_
  refine GO.iconst dX11_ice_1 ?_
  refine GO.bipush dX11_ice_2 rfl ?_
  refine GO.callS (N := mX11_between) dX11_ice_4 gS_RX11_112 (t_X11_between r_p0 (ir_c rfl) (ir_c rfl)) rfl [] rfl rfl (Nat.le_of_ble_eq_true rfl) rfl (k_ip fun X1 r2 h3 => ?_)
  refine GO.if_eq (tgt := 34) dX11_ice_7 (by decide) r2 (fun c4 => ?_) (fun c4 => ?_)
  ·
    have q5 := h3.2.2 (by omega)
    refine GO.iconst dX11_ice_34 ?_
    exact GO.retz rfl rfl dX11_ice_35 (Or.inl rfl) ⟨rfl, _, rfl, (ir_c rfl), ⟨Or.inl rfl, fun _ => trivial, fun _ => trivial⟩⟩
  ·
    have q6 := h3.2.1 (by omega)
    refine GO.iload_n dX11_ice_10 rfl rfl ?_
    refine GO.iconst dX11_ice_11 ?_
    refine GO.bipush dX11_ice_12 rfl ?_
    refine GO.callS (N := mX11_between) dX11_ice_14 gS_RX11_112 (t_X11_between r_p1 (ir_c rfl) (ir_c rfl)) rfl [] rfl rfl (Nat.le_of_ble_eq_true rfl) rfl (k_ip fun X7 r8 h9 => ?_)
    refine GO.if_eq (tgt := 34) dX11_ice_17 (by decide) r8 (fun c10 => ?_) (fun c10 => ?_)
    ·
      have q11 := h9.2.2 (by omega)
      refine GO.iconst dX11_ice_34 ?_
      exact GO.retz rfl rfl dX11_ice_35 (Or.inl rfl) ⟨rfl, _, rfl, (ir_c rfl), ⟨Or.inl rfl, fun _ => trivial, fun _ => trivial⟩⟩
    ·
      have q12 := h9.2.1 (by omega)
      refine GO.aload_n dX11_ice_20 rfl rfl ?_
      refine GO.getI h_x fl_RX11_46 rfl rfl dX11_ice_21 (fun l13 u14 => ?_)
      refine GO.if_gt (tgt := 34) dX11_ice_24 (by decide) vi_ir (fun c15 => ?_) (fun c15 => ?_)
      ·
        refine GO.iconst dX11_ice_34 ?_
        exact GO.retz rfl rfl dX11_ice_35 (Or.inl rfl) ⟨rfl, _, rfl, (ir_c rfl), ⟨Or.inl rfl, fun _ => trivial, fun _ => trivial⟩⟩
      ·
        refine GO.aload_n dX11_ice_27 rfl rfl ?_
        refine GO.getI h_x fl_RX11_55 rfl rfl dX11_ice_28 (fun l16 u17 => ?_)
        refine GO.if_le (tgt := 36) dX11_ice_31 (by decide) vi_ir (fun c18 => ?_) (fun c18 => ?_)
        ·
          refine GO.aload_n dX11_ice_36 rfl rfl ?_
          refine GO.getR h_x fl_RX11_12 rfl rfl dX11_ice_37 (fun hv20 h19 => ?_)
          refine GO.iload_n dX11_ice_40 rfl rfl ?_
          refine GO.iload_n dX11_ice_41 rfl rfl ?_
          have q21 : -2147483648 ≤ p0 ∧ p0 ≤ 2147483647 := r_p0
          have q22 : -2147483648 ≤ p1 ∧ p1 ≤ 2147483647 := r_p1
          refine GO.callV (ci := 0) (N := mX0_lay) dX11_ice_42 (RX0, TX0, 13) rfl gV_RX11_116 h19 (t_X0_lay h19 r_p0 r_p1 (by omega) (by omega) (by omega) (by omega)) rfl [] rfl rfl (Nat.le_of_ble_eq_true rfl) rfl (k_vs fun V25 h24 hF23 => ?_)
          refine GO.iconst dX11_ice_45 ?_
          exact GO.retz rfl rfl dX11_ice_46 (Or.inr rfl) ⟨rfl, _, rfl, (ir_c rfl), ⟨Or.inr rfl, fun _ => trivial, fun _ => trivial⟩⟩
        ·
          refine GO.iconst dX11_ice_34 ?_
          exact GO.retz rfl rfl dX11_ice_35 (Or.inl rfl) ⟨rfl, _, rfl, (ir_c rfl), ⟨Or.inl rfl, fun _ => trivial, fun _ => trivial⟩⟩

set_option maxHeartbeats 1000000 in
theorem t_X4_put_t125 {K : Kmap} {V : Vmap} {p0 n_p0 : Nat} {p1 : Int} {p2 : Int} (h_p0 : K p0 = some (126, n_p0)) (r_p1 : ir p1) (r_p2 : ir p2) : MC mX4_put_t125 K V [.ref p0, ti p1, ti p2] (VS K (fun V1 => (True) ∧ (V1 = rpv V p0 n_p0 p1 p2))) := by
  refine MC.start 0 (by decide +kernel) rfl rfl rfl (ls0 := [some (.ref p0), some (ti p1), some (ti p2)]) rfl ?_
  refine GO.aload_n dX4_put_0 rfl rfl ?_
  refine GO.ifnull dX4_put_1 ?_
  refine GO.iload_n dX4_put_4 rfl rfl ?_
  refine GO.if_lt (tgt := 18) dX4_put_5 (by decide) r_p1 (fun c1 => ?_) (fun c1 => ?_)
  ·
    exact GO.retv rfl rfl dX4_put_18 ⟨rfl, rfl, ⟨trivial, (by first | exact rpv_in (by assumption) (by omega) (by omega) | exact rpv_out (by omega))⟩⟩
  ·
    refine GO.iload_n dX4_put_8 rfl rfl ?_
    refine GO.aload_n dX4_put_9 rfl rfl ?_
    refine GO.alen h_p0 dX4_put_10 (fun h2 => ?_)
    refine GO.icmp_ge (tgt := 18) dX4_put_11 (by decide) r_p1 ⟨by omega, by omega⟩ (fun c3 => ?_) (fun c3 => ?_)
    ·
      exact GO.retv rfl rfl dX4_put_18 ⟨rfl, rfl, ⟨trivial, (by first | exact rpv_in (by assumption) (by omega) (by omega) | exact rpv_out (by omega))⟩⟩
    ·
      refine GO.aload_n dX4_put_14 rfl rfl ?_
      refine GO.iload_n dX4_put_15 rfl rfl ?_
      refine GO.iload_n dX4_put_16 rfl rfl ?_
      have q4 : -2147483648 ≤ p1 ∧ p1 ≤ 2147483647 := r_p1
      refine GO.iast (t := 125) rfl rfl (by decide +kernel) h_p0 r_p1 (by omega) (by omega) r_p2 (r_p2).1 (r_p2).2 dX4_put_17 (fun V6 e5 => ?_)
      exact GO.retv rfl rfl dX4_put_18 ⟨rfl, rfl, ⟨trivial, (by first | exact rpv_in (by assumption) (by omega) (by omega) | exact rpv_out (by omega))⟩⟩

set_option maxHeartbeats 1000000 in
theorem t_X4_put_t126 {K : Kmap} {V : Vmap} {p0 n_p0 : Nat} {p1 : Int} {p2 : Int} (h_p0 : K p0 = some (127, n_p0)) (r_p1 : ir p1) (r_p2 : ir p2) : MC mX4_put_t126 K V [.ref p0, ti p1, ti p2] (VS K (fun V1 => (True) ∧ (V1 = rpv V p0 n_p0 p1 p2))) := by
  refine MC.start 0 (by decide +kernel) rfl rfl rfl (ls0 := [some (.ref p0), some (ti p1), some (ti p2)]) rfl ?_
  refine GO.aload_n dX4_put_0 rfl rfl ?_
  refine GO.ifnull dX4_put_1 ?_
  refine GO.iload_n dX4_put_4 rfl rfl ?_
  refine GO.if_lt (tgt := 18) dX4_put_5 (by decide) r_p1 (fun c1 => ?_) (fun c1 => ?_)
  ·
    exact GO.retv rfl rfl dX4_put_18 ⟨rfl, rfl, ⟨trivial, (by first | exact rpv_in (by assumption) (by omega) (by omega) | exact rpv_out (by omega))⟩⟩
  ·
    refine GO.iload_n dX4_put_8 rfl rfl ?_
    refine GO.aload_n dX4_put_9 rfl rfl ?_
    refine GO.alen h_p0 dX4_put_10 (fun h2 => ?_)
    refine GO.icmp_ge (tgt := 18) dX4_put_11 (by decide) r_p1 ⟨by omega, by omega⟩ (fun c3 => ?_) (fun c3 => ?_)
    ·
      exact GO.retv rfl rfl dX4_put_18 ⟨rfl, rfl, ⟨trivial, (by first | exact rpv_in (by assumption) (by omega) (by omega) | exact rpv_out (by omega))⟩⟩
    ·
      refine GO.aload_n dX4_put_14 rfl rfl ?_
      refine GO.iload_n dX4_put_15 rfl rfl ?_
      refine GO.iload_n dX4_put_16 rfl rfl ?_
      have q4 : -2147483648 ≤ p1 ∧ p1 ≤ 2147483647 := r_p1
      refine GO.iast (t := 126) rfl rfl (by decide +kernel) h_p0 r_p1 (by omega) (by omega) r_p2 (r_p2).1 (r_p2).2 dX4_put_17 (fun V6 e5 => ?_)
      exact GO.retv rfl rfl dX4_put_18 ⟨rfl, rfl, ⟨trivial, (by first | exact rpv_in (by assumption) (by omega) (by omega) | exact rpv_out (by omega))⟩⟩

set_option maxHeartbeats 1000000 in
theorem t_X4_put_t127 {K : Kmap} {V : Vmap} {p0 n_p0 : Nat} {p1 : Int} {p2 : Int} (h_p0 : K p0 = some (128, n_p0)) (r_p1 : ir p1) (r_p2 : ir p2) : MC mX4_put_t127 K V [.ref p0, ti p1, ti p2] (VS K (fun V1 => (True) ∧ (V1 = rpv V p0 n_p0 p1 p2))) := by
  refine MC.start 0 (by decide +kernel) rfl rfl rfl (ls0 := [some (.ref p0), some (ti p1), some (ti p2)]) rfl ?_
  refine GO.aload_n dX4_put_0 rfl rfl ?_
  refine GO.ifnull dX4_put_1 ?_
  refine GO.iload_n dX4_put_4 rfl rfl ?_
  refine GO.if_lt (tgt := 18) dX4_put_5 (by decide) r_p1 (fun c1 => ?_) (fun c1 => ?_)
  ·
    exact GO.retv rfl rfl dX4_put_18 ⟨rfl, rfl, ⟨trivial, (by first | exact rpv_in (by assumption) (by omega) (by omega) | exact rpv_out (by omega))⟩⟩
  ·
    refine GO.iload_n dX4_put_8 rfl rfl ?_
    refine GO.aload_n dX4_put_9 rfl rfl ?_
    refine GO.alen h_p0 dX4_put_10 (fun h2 => ?_)
    refine GO.icmp_ge (tgt := 18) dX4_put_11 (by decide) r_p1 ⟨by omega, by omega⟩ (fun c3 => ?_) (fun c3 => ?_)
    ·
      exact GO.retv rfl rfl dX4_put_18 ⟨rfl, rfl, ⟨trivial, (by first | exact rpv_in (by assumption) (by omega) (by omega) | exact rpv_out (by omega))⟩⟩
    ·
      refine GO.aload_n dX4_put_14 rfl rfl ?_
      refine GO.iload_n dX4_put_15 rfl rfl ?_
      refine GO.iload_n dX4_put_16 rfl rfl ?_
      have q4 : -2147483648 ≤ p1 ∧ p1 ≤ 2147483647 := r_p1
      refine GO.iast (t := 127) rfl rfl (by decide +kernel) h_p0 r_p1 (by omega) (by omega) r_p2 (r_p2).1 (r_p2).2 dX4_put_17 (fun V6 e5 => ?_)
      exact GO.retv rfl rfl dX4_put_18 ⟨rfl, rfl, ⟨trivial, (by first | exact rpv_in (by assumption) (by omega) (by omega) | exact rpv_out (by omega))⟩⟩

set_option maxHeartbeats 1000000 in
theorem t_X4_put_t128 {K : Kmap} {V : Vmap} {p0 n_p0 : Nat} {p1 : Int} {p2 : Int} (h_p0 : K p0 = some (129, n_p0)) (r_p1 : ir p1) (r_p2 : ir p2) : MC mX4_put_t128 K V [.ref p0, ti p1, ti p2] (VS K (fun V1 => (True) ∧ (V1 = rpv V p0 n_p0 p1 p2))) := by
  refine MC.start 0 (by decide +kernel) rfl rfl rfl (ls0 := [some (.ref p0), some (ti p1), some (ti p2)]) rfl ?_
  refine GO.aload_n dX4_put_0 rfl rfl ?_
  refine GO.ifnull dX4_put_1 ?_
  refine GO.iload_n dX4_put_4 rfl rfl ?_
  refine GO.if_lt (tgt := 18) dX4_put_5 (by decide) r_p1 (fun c1 => ?_) (fun c1 => ?_)
  ·
    exact GO.retv rfl rfl dX4_put_18 ⟨rfl, rfl, ⟨trivial, (by first | exact rpv_in (by assumption) (by omega) (by omega) | exact rpv_out (by omega))⟩⟩
  ·
    refine GO.iload_n dX4_put_8 rfl rfl ?_
    refine GO.aload_n dX4_put_9 rfl rfl ?_
    refine GO.alen h_p0 dX4_put_10 (fun h2 => ?_)
    refine GO.icmp_ge (tgt := 18) dX4_put_11 (by decide) r_p1 ⟨by omega, by omega⟩ (fun c3 => ?_) (fun c3 => ?_)
    ·
      exact GO.retv rfl rfl dX4_put_18 ⟨rfl, rfl, ⟨trivial, (by first | exact rpv_in (by assumption) (by omega) (by omega) | exact rpv_out (by omega))⟩⟩
    ·
      refine GO.aload_n dX4_put_14 rfl rfl ?_
      refine GO.iload_n dX4_put_15 rfl rfl ?_
      refine GO.iload_n dX4_put_16 rfl rfl ?_
      have q4 : -2147483648 ≤ p1 ∧ p1 ≤ 2147483647 := r_p1
      refine GO.iast (t := 128) rfl rfl (by decide +kernel) h_p0 r_p1 (by omega) (by omega) r_p2 (r_p2).1 (r_p2).2 dX4_put_17 (fun V6 e5 => ?_)
      exact GO.retv rfl rfl dX4_put_18 ⟨rfl, rfl, ⟨trivial, (by first | exact rpv_in (by assumption) (by omega) (by omega) | exact rpv_out (by omega))⟩⟩

set_option maxHeartbeats 1000000 in
theorem t_X11_cell {K : Kmap} {V : Vmap} {x : Nat} {p0 : Int} {p1 : Int} {p2 : Int} {p3 : Int} {p4 : Int} (h_x : K x = some (0, 10)) (r_p0 : ir p0) (r_p1 : ir p1) (r_p2 : ir p2) (r_p3 : ir p3) (r_p4 : ir p4) : MC mX11_cell K V [.ref x, ti p0, ti p1, ti p2, ti p3, ti p4] (IS K (fun X V1 => (X = 0 ∨ X = 1) ∧ (X ≠ 0 → True) ∧ (X = 0 → True))) := by
  refine MC.start 2 (by decide +kernel) rfl rfl rfl (ls0 := [some (.ref x), some (ti p0), some (ti p1), some (ti p2), some (ti p3), some (ti p4), none, none]) rfl ?_
  refine GO.iload dX11_cell_0 rfl ?_
  refine GO.iconst dX11_cell_2 ?_
  have hj4 : ∀ (z3 : Int), ∀ (l5 : 0 ≤ z3), ∀ (u6 : z3 ≤ 1), GO mX11_cell K V (IS K (fun X V1 => (X = 0 ∨ X = 1) ∧ (X ≠ 0 → True) ∧ (X = 0 → True))) K V 0 0 16 [some (.ref x), some (ti p0), some (ti p1), some (ti p2), some (ti p3), some (ti p4), none, none] [ti z3] := by
    intro z3 l5 u6
    have r7 : ir z3 := ⟨by omega, by omega⟩
    refine GO.istore (ls1 := [some (.ref x), some (ti p0), some (ti p1), some (ti p2), some (ti p3), some (ti p4), some (ti z3), none]) dX11_cell_16 rfl rfl ?_
    refine GO.iload dX11_cell_18 rfl ?_
    refine GO.iconst dX11_cell_20 ?_
    refine GO.bipush dX11_cell_21 rfl ?_
    refine GO.callS (N := mX11_between) dX11_cell_23 gS_RX11_112 (t_X11_between r_p3 (ir_c rfl) (ir_c rfl)) rfl [] rfl rfl (Nat.le_of_ble_eq_true rfl) rfl (k_ip fun X8 r9 h10 => ?_)
    have hj21 : ∀ (z20 : Int), ∀ (l22 : 0 ≤ z20), ∀ (u23 : z20 ≤ 1), GO mX11_cell K V (IS K (fun X V1 => (X = 0 ∨ X = 1) ∧ (X ≠ 0 → True) ∧ (X = 0 → True))) K V 0 0 47 [some (.ref x), some (ti p0), some (ti p1), some (ti p2), some (ti p3), some (ti p4), some (ti z3), none] [ti z20] := by
      intro z20 l22 u23
      have r24 : ir z20 := ⟨by omega, by omega⟩
      refine GO.istore (ls1 := [some (.ref x), some (ti p0), some (ti p1), some (ti p2), some (ti p3), some (ti p4), some (ti z3), some (ti z20)]) dX11_cell_47 rfl rfl ?_
      refine GO.aload_n dX11_cell_49 rfl rfl ?_
      refine GO.getR h_x fl_RX11_12 rfl rfl dX11_cell_50 (fun hv26 h25 => ?_)
      refine GO.iload_n dX11_cell_53 rfl rfl ?_
      refine GO.callV (ci := 0) (N := mX0_isCell) dX11_cell_54 (RX0, TX0, 13) rfl gV_RX11_119 h25 (t_X0_isCell h25 r_p0) rfl [] rfl rfl (Nat.le_of_ble_eq_true rfl) rfl (k_ip fun X27 r28 h29 => ?_)
      refine GO.if_eq (tgt := 89) dX11_cell_57 (by decide) r28 (fun c30 => ?_) (fun c30 => ?_)
      ·
        refine GO.iconst dX11_cell_89 ?_
        exact GO.retz rfl rfl dX11_cell_90 (Or.inl rfl) ⟨rfl, _, rfl, (ir_c rfl), ⟨Or.inl rfl, fun _ => trivial, fun _ => trivial⟩⟩
      ·
        refine GO.iload_n dX11_cell_60 rfl rfl ?_
        refine GO.iconst dX11_cell_61 ?_
        refine GO.bipush dX11_cell_62 rfl ?_
        refine GO.callS (N := mX11_between) dX11_cell_64 gS_RX11_112 (t_X11_between r_p1 (ir_c rfl) (ir_c rfl)) rfl [] rfl rfl (Nat.le_of_ble_eq_true rfl) rfl (k_ip fun X31 r32 h33 => ?_)
        refine GO.if_eq (tgt := 89) dX11_cell_67 (by decide) r32 (fun c34 => ?_) (fun c34 => ?_)
        ·
          have q35 := h33.2.2 (by omega)
          refine GO.iconst dX11_cell_89 ?_
          exact GO.retz rfl rfl dX11_cell_90 (Or.inl rfl) ⟨rfl, _, rfl, (ir_c rfl), ⟨Or.inl rfl, fun _ => trivial, fun _ => trivial⟩⟩
        ·
          have q36 := h33.2.1 (by omega)
          refine GO.iload_n dX11_cell_70 rfl rfl ?_
          refine GO.iconst dX11_cell_71 ?_
          refine GO.iconst dX11_cell_72 ?_
          refine GO.callS (N := mX11_between) dX11_cell_73 gS_RX11_112 (t_X11_between r_p2 (ir_c rfl) (ir_c rfl)) rfl [] rfl rfl (Nat.le_of_ble_eq_true rfl) rfl (k_ip fun X37 r38 h39 => ?_)
          refine GO.if_eq (tgt := 89) dX11_cell_76 (by decide) r38 (fun c40 => ?_) (fun c40 => ?_)
          ·
            have q41 := h39.2.2 (by omega)
            refine GO.iconst dX11_cell_89 ?_
            exact GO.retz rfl rfl dX11_cell_90 (Or.inl rfl) ⟨rfl, _, rfl, (ir_c rfl), ⟨Or.inl rfl, fun _ => trivial, fun _ => trivial⟩⟩
          ·
            have q42 := h39.2.1 (by omega)
            refine GO.iload dX11_cell_79 rfl ?_
            have hj45 : GO mX11_cell K V (IS K (fun X V1 => (X = 0 ∨ X = 1) ∧ (X ≠ 0 → True) ∧ (X = 0 → True))) K V 0 0 91 [some (.ref x), some (ti p0), some (ti p1), some (ti p2), some (ti p3), some (ti p4), some (ti z3), some (ti z20)] [] := by
              skip
              refine GO.aload_n dX11_cell_91 rfl rfl ?_
              refine GO.getRaw h_x fl_RX11_12 hv26 dX11_cell_92 ?_
              refine GO.getA (n := 144) h25 fl_RX11_123 rfl rfl rfl rfl dX11_cell_95 (fun hv49 h48 => ?_)
              refine GO.iload_n dX11_cell_98 rfl rfl ?_
              refine GO.iload_n dX11_cell_99 rfl rfl ?_
              refine GO.callS (N := mX4_put_t125) dX11_cell_100 gS_RX11_108 (t_X4_put_t125 h48 r_p0 r_p1) rfl [] rfl rfl (Nat.le_of_ble_eq_true rfl) rfl (k_vs fun V52 h51 hF50 => ?_)
              have raw_put := h51.2
              have rw100 := h51.2
              refine GO.aload_n dX11_cell_103 rfl rfl ?_
              refine GO.getRaw h_x fl_RX11_12 (Eq.trans (hF50 _ _ _ h_x h_x (by decide +kernel)) hv26) dX11_cell_104 ?_
              refine GO.getA (n := 144) h25 fl_RX11_126 rfl rfl rfl rfl dX11_cell_107 (fun hv56 h55 => ?_)
              refine GO.iload_n dX11_cell_110 rfl rfl ?_
              refine GO.iload_n dX11_cell_111 rfl rfl ?_
              refine GO.callS (N := mX4_put_t126) dX11_cell_112 gS_RX11_108 (t_X4_put_t126 h55 r_p0 r_p2) rfl [] rfl rfl (Nat.le_of_ble_eq_true rfl) rfl (k_vs fun V59 h58 hF57 => ?_)
              have raw_put := h58.2
              have rw112 := h58.2
              refine GO.aload_n dX11_cell_115 rfl rfl ?_
              refine GO.getRaw h_x fl_RX11_12 (Eq.trans (hF57 _ _ _ h_x h_x (by decide +kernel)) (Eq.trans (hF50 _ _ _ h_x h_x (by decide +kernel)) hv26)) dX11_cell_116 ?_
              refine GO.getA (n := 144) h25 fl_RX11_129 rfl rfl rfl rfl dX11_cell_119 (fun hv63 h62 => ?_)
              refine GO.iload_n dX11_cell_122 rfl rfl ?_
              refine GO.iload dX11_cell_123 rfl ?_
              refine GO.callS (N := mX4_put_t127) dX11_cell_125 gS_RX11_108 (t_X4_put_t127 h62 r_p0 r_p3) rfl [] rfl rfl (Nat.le_of_ble_eq_true rfl) rfl (k_vs fun V66 h65 hF64 => ?_)
              have raw_put := h65.2
              have rw125 := h65.2
              refine GO.aload_n dX11_cell_128 rfl rfl ?_
              refine GO.getRaw h_x fl_RX11_12 (Eq.trans (hF64 _ _ _ h_x h_x (by decide +kernel)) (Eq.trans (hF57 _ _ _ h_x h_x (by decide +kernel)) (Eq.trans (hF50 _ _ _ h_x h_x (by decide +kernel)) hv26))) dX11_cell_129 ?_
              refine GO.getA (n := 144) h25 fl_RX11_132 rfl rfl rfl rfl dX11_cell_132 (fun hv70 h69 => ?_)
              refine GO.iload_n dX11_cell_135 rfl rfl ?_
              refine GO.iload dX11_cell_136 rfl ?_
              refine GO.callS (N := mX4_put_t128) dX11_cell_138 gS_RX11_108 (t_X4_put_t128 h69 r_p0 r_p4) rfl [] rfl rfl (Nat.le_of_ble_eq_true rfl) rfl (k_vs fun V73 h72 hF71 => ?_)
              have raw_put := h72.2
              have rw138 := h72.2
              refine GO.iconst dX11_cell_141 ?_
              exact GO.retz rfl rfl dX11_cell_142 (Or.inr rfl) ⟨rfl, _, rfl, (ir_c rfl), ⟨Or.inr rfl, fun _ => trivial, fun _ => trivial⟩⟩
            refine GO.if_ne (tgt := 91) dX11_cell_81 (by decide) r7 (fun c74 => ?_) (fun c74 => ?_)
            ·
              exact hj45 
            ·
              refine GO.iload dX11_cell_84 rfl ?_
              refine GO.if_ne (tgt := 91) dX11_cell_86 (by decide) r24 (fun c75 => ?_) (fun c75 => ?_)
              ·
                exact hj45 
              ·
                refine GO.iconst dX11_cell_89 ?_
                exact GO.retz rfl rfl dX11_cell_90 (Or.inl rfl) ⟨rfl, _, rfl, (ir_c rfl), ⟨Or.inl rfl, fun _ => trivial, fun _ => trivial⟩⟩
    have hj85 : GO mX11_cell K V (IS K (fun X V1 => (X = 0 ∨ X = 1) ∧ (X ≠ 0 → True) ∧ (X = 0 → True))) K V 0 0 46 [some (.ref x), some (ti p0), some (ti p1), some (ti p2), some (ti p3), some (ti p4), some (ti z3), none] [] := by
      skip
      refine GO.iconst dX11_cell_46 ?_
      exact hj21 0 (by omega) (by omega)
    refine GO.if_eq (tgt := 46) dX11_cell_26 (by decide) r9 (fun c86 => ?_) (fun c86 => ?_)
    ·
      have q87 := h10.2.2 (by omega)
      exact hj85 
    ·
      have q88 := h10.2.1 (by omega)
      refine GO.iload dX11_cell_29 rfl ?_
      refine GO.bipush dX11_cell_31 rfl ?_
      refine GO.sipush dX11_cell_33 rfl ?_
      refine GO.callS (N := mX11_between) dX11_cell_36 gS_RX11_112 (t_X11_between r_p4 (ir_c rfl) (ir_c rfl)) rfl [] rfl rfl (Nat.le_of_ble_eq_true rfl) rfl (k_ip fun X89 r90 h91 => ?_)
      refine GO.if_eq (tgt := 46) dX11_cell_39 (by decide) r90 (fun c92 => ?_) (fun c92 => ?_)
      ·
        have q93 := h91.2.2 (by omega)
        exact hj85 
      ·
        have q94 := h91.2.1 (by omega)
        refine GO.iconst dX11_cell_42 ?_
        refine GO.goto (tgt := 47) dX11_cell_43 (by decide) ?_
        exact hj21 1 (by omega) (by omega)
  have hj97 : GO mX11_cell K V (IS K (fun X V1 => (X = 0 ∨ X = 1) ∧ (X ≠ 0 → True) ∧ (X = 0 → True))) K V 0 0 15 [some (.ref x), some (ti p0), some (ti p1), some (ti p2), some (ti p3), some (ti p4), none, none] [] := by
    skip
    refine GO.iconst dX11_cell_15 ?_
    exact hj4 0 (by omega) (by omega)
  refine GO.icmp_ne (tgt := 15) dX11_cell_3 (by decide) r_p3 (ir_c rfl) (fun c98 => ?_) (fun c98 => ?_)
  ·
    exact hj97 
  ·
    refine GO.iload dX11_cell_6 rfl ?_
    refine GO.if_ne (tgt := 15) dX11_cell_8 (by decide) r_p4 (fun c99 => ?_) (fun c99 => ?_)
    ·
      exact hj97 
    ·
      refine GO.iconst dX11_cell_11 ?_
      refine GO.goto (tgt := 16) dX11_cell_12 (by decide) ?_
      exact hj4 1 (by omega) (by omega)

set_option maxHeartbeats 1000000 in
theorem t_X11_areYearDays {K : Kmap} {V : Vmap} {p0 : Int} {p1 : Int} (r_p0 : ir p0) (r_p1 : ir p1) : MC mX11_areYearDays K V [ti p0, ti p1] (IP K V (fun X => (X = 0 ∨ X = 1) ∧ (X ≠ 0 → p0 ≥ 0 ∧ p0 ≤ 359 ∧ p1 ≥ p0 ∧ p1 ≤ 359) ∧ (X = 0 → (p0 < 0 ∨ p0 > 359 ∨ p1 < p0 ∨ p1 > 359)))) := by
  refine MC.start 0 (by decide +kernel) rfl rfl rfl (ls0 := [some (ti p0), some (ti p1)]) rfl ?_
  refine GO.iload_n dX11_areYearDays_0 rfl rfl ?_
  refine GO.if_lt (tgt := 20) dX11_areYearDays_1 (by decide) r_p0 (fun c1 => ?_) (fun c1 => ?_)
  ·
    refine GO.iconst dX11_areYearDays_20 ?_
    exact GO.retz rfl rfl dX11_areYearDays_21 (Or.inl rfl) ⟨rfl, rfl, _, rfl, (ir_c rfl), ⟨Or.inl rfl, fun h => absurd rfl h, fun h => by omega⟩⟩
  ·
    refine GO.iload_n dX11_areYearDays_4 rfl rfl ?_
    refine GO.iload_n dX11_areYearDays_5 rfl rfl ?_
    refine GO.icmp_gt (tgt := 20) dX11_areYearDays_6 (by decide) r_p0 r_p1 (fun c2 => ?_) (fun c2 => ?_)
    ·
      refine GO.iconst dX11_areYearDays_20 ?_
      exact GO.retz rfl rfl dX11_areYearDays_21 (Or.inl rfl) ⟨rfl, rfl, _, rfl, (ir_c rfl), ⟨Or.inl rfl, fun h => absurd rfl h, fun h => by omega⟩⟩
    ·
      refine GO.iload_n dX11_areYearDays_9 rfl rfl ?_
      refine GO.sipush dX11_areYearDays_10 rfl ?_
      refine GO.icmp_ge (tgt := 20) dX11_areYearDays_13 (by decide) r_p1 (ir_c rfl) (fun c3 => ?_) (fun c3 => ?_)
      ·
        refine GO.iconst dX11_areYearDays_20 ?_
        exact GO.retz rfl rfl dX11_areYearDays_21 (Or.inl rfl) ⟨rfl, rfl, _, rfl, (ir_c rfl), ⟨Or.inl rfl, fun h => absurd rfl h, fun h => by omega⟩⟩
      ·
        refine GO.iconst dX11_areYearDays_16 ?_
        refine GO.goto (tgt := 21) dX11_areYearDays_17 (by decide) ?_
        exact GO.retz rfl rfl dX11_areYearDays_21 (Or.inr rfl) ⟨rfl, rfl, _, rfl, (ir_c rfl), ⟨Or.inr rfl, fun h => by omega, fun h => absurd h (by decide)⟩⟩

set_option maxHeartbeats 1000000 in
theorem t_X11_dark {K : Kmap} {V : Vmap} {x : Nat} {p0 : Int} {p1 : Int} (h_x : K x = some (0, 10)) (r_p0 : ir p0) (r_p1 : ir p1) : MC mX11_dark K V [.ref x, ti p0, ti p1] (IS K (fun X V1 => (X = 0 ∨ X = 1) ∧ (X ≠ 0 → p0 ≥ 0 ∧ p0 ≤ 359 ∧ p1 ≥ p0 ∧ p1 ≤ 359) ∧ (X = 0 → (p0 < 0 ∨ p0 > 359 ∨ p1 < p0 ∨ p1 > 359)))) := by
  refine MC.start 0 (by decide +kernel) rfl rfl rfl (ls0 := [some (.ref x), some (ti p0), some (ti p1)]) rfl ?_
  refine GO.iload_n dX11_dark_0 rfl rfl ?_
  refine GO.iload_n dX11_dark_1 rfl rfl ?_
  refine GO.callS (N := mX11_areYearDays) dX11_dark_2 gS_RX11_135 (t_X11_areYearDays r_p0 r_p1) rfl [] rfl rfl (Nat.le_of_ble_eq_true rfl) rfl (k_ip fun X1 r2 h3 => ?_)
  refine GO.if_ne (tgt := 10) dX11_dark_5 (by decide) r2 (fun c4 => ?_) (fun c4 => ?_)
  ·
    have q5 := h3.2.1 (by omega)
    refine GO.aload_n dX11_dark_10 rfl rfl ?_
    refine GO.getR h_x fl_RX11_12 rfl rfl dX11_dark_11 (fun hv7 h6 => ?_)
    refine GO.iload_n dX11_dark_14 rfl rfl ?_
    refine GO.putI h6 fp_RX11_139 rfl (by decide +kernel) r_p0 (r_p0).1 (r_p0).2 dX11_dark_15 (fun V9 e8 => ?_)
    refine GO.aload_n dX11_dark_18 rfl rfl ?_
    refine GO.getRaw h_x fl_RX11_12 (Eq.trans (uq_ne e8 (Or.inl (K_ne h_x h6 (by decide)))) hv7) dX11_dark_19 ?_
    refine GO.iload_n dX11_dark_22 rfl rfl ?_
    refine GO.putI h6 fp_RX11_142 rfl (by decide +kernel) r_p1 (r_p1).1 (r_p1).2 dX11_dark_23 (fun V13 e12 => ?_)
    refine GO.iconst dX11_dark_26 ?_
    exact GO.retz rfl rfl dX11_dark_27 (Or.inr rfl) ⟨rfl, _, rfl, (ir_c rfl), ⟨Or.inr rfl, fun h => by omega, fun h => absurd h (by decide)⟩⟩
  ·
    have q14 := h3.2.2 (by omega)
    refine GO.iconst dX11_dark_8 ?_
    exact GO.retz rfl rfl dX11_dark_9 (Or.inl rfl) ⟨rfl, _, rfl, (ir_c rfl), ⟨Or.inl rfl, fun h => absurd rfl h, fun h => by omega⟩⟩

set_option maxHeartbeats 1000000 in
theorem t_X11_party {K : Kmap} {V : Vmap} {x : Nat} {p0 : Int} (h_x : K x = some (0, 10)) (r_p0 : ir p0) (z_p0 : p0 = 0 ∨ p0 = 1) (w_0 : PN V x) : MC mX11_party K V [.ref x, ti p0] (IX (fun X _ V1 => (((X = (-1) ∧ vi V1 x 4 = vi V x 4 ∧ vi V x 4 ≥ 9) ∨ (X = vi V x 4 ∧ vi V1 x 4 = (vi V x 4 + 1) ∧ vi V x 4 < 9))) ∧ (PN V1 x) ∧ (NEWP V V1 x X) ∧ (NEWY K V V1 x X))) := by
  refine MC.start 0 (by decide +kernel) rfl rfl rfl (ls0 := [some (.ref x), some (ti p0)]) rfl ?_
  refine GO.useWT (fun hW_0 => ?_)
  refine GO.aload_n dX11_party_0 rfl rfl ?_
  refine GO.getI h_x fl_RX11_36 rfl rfl dX11_party_1 (fun l1 u2 => ?_)
  refine GO.aload_n dX11_party_4 rfl rfl ?_
  refine GO.getA (n := 9) h_x fl_RX11_32 rfl rfl rfl rfl dX11_party_5 (fun hv4 h3 => ?_)
  refine GO.alen h3 dX11_party_8 (fun h5 => ?_)
  refine GO.icmp_lt (tgt := 14) dX11_party_9 (by decide) vi_ir ⟨by omega, by omega⟩ (fun c6 => ?_) (fun c6 => ?_)
  ·
    refine GO.aload_n dX11_party_14 rfl rfl ?_
    refine GO.getRaw h_x fl_RX11_32 hv4 dX11_party_15 ?_
    refine GO.aload_n dX11_party_18 rfl rfl ?_
    refine GO.getI h_x fl_RX11_36 rfl rfl dX11_party_19 (fun l9 u10 => ?_)
    refine GO.new (ci := 14) (RX2, TX2, 5) tyX2 rfl rfl lays_2 tyX2_ok gw_219 gw_325 gw_9 rfl rfl dX11_party_22 (fun o11 K12 V18 hq13 hK14 hE15 h16 _ hV17 => ?_)
    have h19 := hE15.obj (by decide) h_x
    have h20 := hE15.arr h3
    refine GO.dup dX11_party_25 rfl ?_
    refine GO.iload_n dX11_party_26 rfl rfl ?_
    refine GO.if_eq (tgt := 40) dX11_party_27 (by decide) r_p0 (fun c21 => ?_) (fun c21 => ?_)
    ·
      refine GO.iconst dX11_party_40 ?_
      refine GO.callI (N := mX2_init) dX11_party_41 gI_RX11_148 rfl (t_X2_init h16 (ir_c rfl)) rfl [.ref o11, ti (vi V x 4), .ref (vq V x 3)] rfl rfl (Nat.le_of_ble_eq_true rfl) rfl (k_vx fun K24 V26 h25 hE23 hF22 => ?_)
      have h27 := hE23.obj (by decide) h19
      have h28 := hE23.arr h20
      have h29 := h25.1.1
      have ir0_41 := h25.1.2.2.2.1
      have ir1_41 := h25.1.2.2.2.2
      have q30 : vi V26 o11 2 = 0 := h25.1.2.1
      have hzr31 : ZR K12 V26 o11 4 7 0 := h25.1.2.2.1
      refine GO.aast (t := 4) (by decide) (RX2, TX2, 5) rfl rfl rfl (by decide +kernel) h28 h29 vi_ir (by omega) (by omega) dX11_party_44 (fun V33 e32 => ?_)
      refine GO.aload_n dX11_party_45 rfl rfl ?_
      refine GO.dup dX11_party_46 rfl ?_
      refine GO.getI h27 fl_RX11_36 rfl rfl dX11_party_47 (fun l34 u35 => ?_)
      have e38 : vi V18 x 4 = vi V x 4 := vi_nw hV17 (K_old h_x hq13)
      have e37 : vi V26 x 4 = vi V18 x 4 := vi_fr hF22 h19 h27 (by decide +kernel)
      have e36 : vi V33 x 4 = vi V26 x 4 := vi_up e32 (Or.inl (K_ne h27 h28 (by decide)))
      refine GO.dup_x1 dX11_party_50 rfl rfl ?_
      refine GO.iconst dX11_party_51 ?_
      refine GO.iadd dX11_party_52 ?_
      refine GO.putI h27 fp_RX11_36 rfl (by decide +kernel) ⟨by omega, by omega⟩ (by omega) (by omega) dX11_party_53 (fun V40 e39 => ?_)
      have e41 : vi V40 x 4 = (vi V33 x 4) + 1 := upd2_int e39 ⟨by omega, by omega⟩
      exact GO.reti rfl rfl dX11_party_56 ⟨_, rfl, vi_ir, ⟨(by first | exact trivial | omega), (by first | exact w_0 | exact NN.push (t := 4) (by decide) w_0 h_x (by assumption) (by assumption) (by assumption) (by assumption) (by assumption) (by assumption) (by assumption) (by assumption) (by decide +kernel) (by assumption) (by assumption) (by omega) (by omega) ⟨by omega, by omega⟩), (by first | exact NEWP.no | exact NEWP.mk w_0 hW_0 h_x (by assumption) (by assumption) (by assumption) (by assumption) (by assumption) (by assumption) (by assumption) (by assumption) (by decide +kernel) (by assumption) (by assumption) (by omega) (by omega) ⟨by omega, by omega⟩ (by omega)), (by first | exact NEWY.no | exact NEWY.mk h_x hW_0 hq13 hK14 hV17 ir0_41 ir1_41 (by assumption) (by assumption) (by omega) (by omega) ⟨by omega, by omega⟩ (by omega))⟩⟩
    ·
      refine GO.aload_n dX11_party_30 rfl rfl ?_
      refine GO.getR h19 fl_RX11_12 rfl rfl dX11_party_31 (fun hv43 h42 => ?_)
      refine GO.getI h42 fl_RX11_145 rfl rfl dX11_party_34 (fun l44 u45 => ?_)
      refine GO.goto (tgt := 41) dX11_party_37 (by decide) ?_
      refine GO.callI (N := mX2_init) dX11_party_41 gI_RX11_148 rfl (t_X2_init h16 vi_ir) rfl [.ref o11, ti (vi V x 4), .ref (vq V x 3)] rfl rfl (Nat.le_of_ble_eq_true rfl) rfl (k_vx fun K48 V50 h49 hE47 hF46 => ?_)
      have h51 := hE47.obj (by decide) h19
      have h52 := hE47.arr h20
      have h53 := h49.1.1
      have ir0_41 := h49.1.2.2.2.1
      have ir1_41 := h49.1.2.2.2.2
      have q54 : vi V50 o11 2 = 0 := h49.1.2.1
      have hzr55 : ZR K12 V50 o11 4 7 0 := h49.1.2.2.1
      refine GO.aast (t := 4) (by decide) (RX2, TX2, 5) rfl rfl rfl (by decide +kernel) h52 h53 vi_ir (by omega) (by omega) dX11_party_44 (fun V57 e56 => ?_)
      refine GO.aload_n dX11_party_45 rfl rfl ?_
      refine GO.dup dX11_party_46 rfl ?_
      refine GO.getI h51 fl_RX11_36 rfl rfl dX11_party_47 (fun l58 u59 => ?_)
      have e62 : vi V18 x 4 = vi V x 4 := vi_nw hV17 (K_old h_x hq13)
      have e61 : vi V50 x 4 = vi V18 x 4 := vi_fr hF46 h19 h51 (by decide +kernel)
      have e60 : vi V57 x 4 = vi V50 x 4 := vi_up e56 (Or.inl (K_ne h51 h52 (by decide)))
      refine GO.dup_x1 dX11_party_50 rfl rfl ?_
      refine GO.iconst dX11_party_51 ?_
      refine GO.iadd dX11_party_52 ?_
      refine GO.putI h51 fp_RX11_36 rfl (by decide +kernel) ⟨by omega, by omega⟩ (by omega) (by omega) dX11_party_53 (fun V64 e63 => ?_)
      have e65 : vi V64 x 4 = (vi V57 x 4) + 1 := upd2_int e63 ⟨by omega, by omega⟩
      exact GO.reti rfl rfl dX11_party_56 ⟨_, rfl, vi_ir, ⟨(by first | exact trivial | omega), (by first | exact w_0 | exact NN.push (t := 4) (by decide) w_0 h_x (by assumption) (by assumption) (by assumption) (by assumption) (by assumption) (by assumption) (by assumption) (by assumption) (by decide +kernel) (by assumption) (by assumption) (by omega) (by omega) ⟨by omega, by omega⟩), (by first | exact NEWP.no | exact NEWP.mk w_0 hW_0 h_x (by assumption) (by assumption) (by assumption) (by assumption) (by assumption) (by assumption) (by assumption) (by assumption) (by decide +kernel) (by assumption) (by assumption) (by omega) (by omega) ⟨by omega, by omega⟩ (by omega)), (by first | exact NEWY.no | exact NEWY.mk h_x hW_0 hq13 hK14 hV17 ir0_41 ir1_41 (by assumption) (by assumption) (by omega) (by omega) ⟨by omega, by omega⟩ (by omega))⟩⟩
  ·
    refine GO.iconst dX11_party_12 ?_
    exact GO.reti rfl rfl dX11_party_13 ⟨_, rfl, (ir_c rfl), ⟨(by first | exact trivial | omega), (by first | exact w_0 | exact NN.push (t := 4) (by decide) w_0 h_x (by assumption) (by assumption) (by assumption) (by assumption) (by assumption) (by assumption) (by assumption) (by assumption) (by decide +kernel) (by assumption) (by assumption) (by omega) (by omega) ⟨by omega, by omega⟩), (by first | exact NEWP.no | exact NEWP.mk w_0 hW_0 h_x (by assumption) (by assumption) (by assumption) (by assumption) (by assumption) (by assumption) (by assumption) (by assumption) (by decide +kernel) (by assumption) (by assumption) (by omega) (by omega) ⟨by omega, by omega⟩ (by omega)), (by first | exact NEWY.no)⟩⟩

set_option maxHeartbeats 1000000 in
theorem t_X11_partyOf {K : Kmap} {V : Vmap} {x : Nat} {p0 : Int} (h_x : K x = some (0, 10)) (r_p0 : ir p0) : MC mX11_partyOf K V [.ref x, ti p0] (RP K V 2 ((True) ∧ (PN V x → p0 < 0 ∨ vi V x 4 ≤ p0)) (fun q => (p0 ≥ 0 ∧ p0 < vi V x 4) ∧ (q = vq V (vq V x 3) (p0).toNat))) := by
  refine MC.start 0 (by decide +kernel) rfl rfl rfl (ls0 := [some (.ref x), some (ti p0)]) rfl ?_
  refine GO.iload_n dX11_partyOf_0 rfl rfl ?_
  refine GO.if_lt (tgt := 30) dX11_partyOf_1 (by decide) r_p0 (fun c1 => ?_) (fun c1 => ?_)
  ·
    refine GO.null dX11_partyOf_30 ?_
    exact GO.reta rfl rfl (Or.inl ⟨_, rfl⟩) dX11_partyOf_31 (Or.inl rfl) ⟨rfl, rfl, Or.inl ⟨rfl, ⟨trivial, (by first | exact fun _ => (by omega))⟩⟩⟩
  ·
    refine GO.iload_n dX11_partyOf_4 rfl rfl ?_
    refine GO.aload_n dX11_partyOf_5 rfl rfl ?_
    refine GO.getI h_x fl_RX11_36 rfl rfl dX11_partyOf_6 (fun l2 u3 => ?_)
    refine GO.icmp_ge (tgt := 30) dX11_partyOf_9 (by decide) r_p0 vi_ir (fun c4 => ?_) (fun c4 => ?_)
    ·
      refine GO.null dX11_partyOf_30 ?_
      exact GO.reta rfl rfl (Or.inl ⟨_, rfl⟩) dX11_partyOf_31 (Or.inl rfl) ⟨rfl, rfl, Or.inl ⟨rfl, ⟨trivial, (by first | exact fun _ => (by omega))⟩⟩⟩
    ·
      refine GO.iload_n dX11_partyOf_12 rfl rfl ?_
      refine GO.aload_n dX11_partyOf_13 rfl rfl ?_
      refine GO.getA (n := 9) h_x fl_RX11_32 rfl rfl rfl rfl dX11_partyOf_14 (fun hv6 h5 => ?_)
      refine GO.alen h5 dX11_partyOf_17 (fun h7 => ?_)
      have q9 : -2147483648 ≤ p0 ∧ p0 ≤ 2147483647 := r_p0
      refine GO.icmp_ge (tgt := 30) dX11_partyOf_18 (by decide) r_p0 ⟨by omega, by omega⟩ (fun h => by exfalso; omega) (fun c8 => ?_)
      refine GO.aload_n dX11_partyOf_21 rfl rfl ?_
      refine GO.getRaw h_x fl_RX11_32 hv6 dX11_partyOf_22 ?_
      refine GO.iload_n dX11_partyOf_25 rfl rfl ?_
      refine GO.aald (t := 4) rfl rfl h5 r_p0 (by omega) (by omega) dX11_partyOf_26 (fun hnul => ?_) (fun _ h12 => ?_)
      ·
        refine GO.goto (tgt := 31) dX11_partyOf_27 (by decide) ?_
        exact GO.reta rfl rfl (Or.inl ⟨_, rfl⟩) dX11_partyOf_31 (Or.inl rfl) ⟨rfl, rfl, Or.inl ⟨rfl, ⟨trivial, (by first | exact fun _ => (by omega) | exact fun hpn => absurd hnul (hpn p0.toNat (by omega)))⟩⟩⟩
      ·
        refine GO.goto (tgt := 31) dX11_partyOf_27 (by decide) ?_
        exact GO.reta rfl rfl (Or.inl ⟨_, rfl⟩) dX11_partyOf_31 (Or.inr ⟨_, rfl⟩) ⟨rfl, rfl, Or.inr ⟨_, rfl, h12, ⟨by omega, rfl⟩⟩⟩
