set_option maxHeartbeats 400000 in
set_option maxRecDepth 100000 in
theorem t_X11_plan {l : Launch} {D : va_G} {dA : Nat → ClassId} {K : Kmap} {V : Vmap} {sz : Nat} {x : Nat} {sh1 se1 fr : Int32} {sh1_i se1_i fr_i : Int} (iz_sh1 : sh1.toInt = sh1_i) (iz_se1 : se1.toInt = se1_i) (iz_fr : fr.toInt = fr_i) (F : FX K V x) : Met l yX11_plan (wsOf yX11_plan cX11_plan 6 (some .int)) { frames := 1, cells := 0, slots := 0, locals := 21 } (PC D dA K V sz [.ref x, .int sh1, .int se1, .int fr]) (PQi (fun r => (r.toInt = (-1)))) 0 0 noFree := by
  refine th_body (by decide +kernel) (Nat.le_of_ble_eq_true rfl) (fun pZ eZ sZ mZ belowZ methZ cZ C hR hsz hnm ls hl => ?_)
  have C : CX pZ sZ mZ [.ref x, .int sh1, .int se1, .int fr].toArray methZ cZ cX11_plan 6 (some .int) RX11 D dA := C
  have hx := C.1; have hb := C.2.1
  have hl : lv_has ls 6 [(0, .ref x), (1, .int sh1), (2, .int se1), (3, .int fr)] := hl
  subst hsz
  have hS : ST D dA K sZ.heap K V sZ.heap [] := ST.rf hR
  have r_sh1 := th_rng sh1; rw [iz_sh1] at r_sh1
  have r_se1 := th_rng se1; rw [iz_se1] at r_se1
  have r_fr := th_rng fr; rw [iz_fr] at r_fr
  have F0 := F
  obtain ⟨ad, hF⟩ := F
  refine lv_aload_n hx hb dX11_plan_0 rfl (lv_at hl 0 rfl) ?_
  refine lv_iload_n hx hb dX11_plan_1 rfl (lv_at hl 1 rfl) ?_
  refine th_gor (th_runV (As := [.int sh1]) (rest := []) C hS.1 (RX11, TX11, 20) rfl gV_RX11_403 (FX.f0 hF) (t_X11_shipOf iz_sh1 (FX.f0 hF) (FX.f36 hF)) hl rfl rfl rfl rfl ⟨Nat.le_of_ble_eq_true rfl, Nat.le_of_ble_eq_true rfl⟩ (Nat.le_of_ble_eq_true rfl) ⟨Nat.le_of_ble_eq_true rfl, Nat.le_of_ble_eq_true rfl⟩ dX11_plan_2) ?_
  refine lv_astoreN (lv' := [(4, .null), (0, .ref x), (1, .int sh1), (2, .int se1), (3, .int fr)]) hx hb dX11_plan_5 hl (by decide) rfl (fun ls hl => ?_)
  refine lv_aloadN hx hb dX11_plan_7 (lv_at hl 0 rfl) ?_
  refine lv_ifnullN hx hb (tgt := 30) dX11_plan_9 (by decide) ?_
  refine lv_iconst (v := (-1)) hx hb dX11_plan_30 (by decide) ?_
  exact th_reti C (by have hfin := li_n1; omega) dX11_plan_31

set_option maxHeartbeats 400000 in
set_option maxRecDepth 100000 in
theorem t_X11_planned {l : Launch} {D : va_G} {dA : Nat → ClassId} {K : Kmap} {V : Vmap} {sz : Nat} {x : Nat} {sh1 se1 fr i : Int32} {sh1_i se1_i fr_i i_i : Int} (iz_sh1 : sh1.toInt = sh1_i) (iz_se1 : se1.toInt = se1_i) (iz_fr : fr.toInt = fr_i) (iz_i : i.toInt = i_i) (F : FX K V x) : Met l yX11_planned (wsOf yX11_planned cX11_planned 5 (some .int)) { frames := 2, cells := 0, slots := 0, locals := 46 } (PC D dA K V sz [.ref x, .int sh1, .int se1, .int fr, .int i]) (PQi (fun r => (r.toInt = (-1)))) 0 0 noFree := by
  refine th_body (by decide +kernel) (Nat.le_of_ble_eq_true rfl) (fun pZ eZ sZ mZ belowZ methZ cZ C hR hsz hnm ls hl => ?_)
  have C : CX pZ sZ mZ [.ref x, .int sh1, .int se1, .int fr, .int i].toArray methZ cZ cX11_planned 5 (some .int) RX11 D dA := C
  have hx := C.1; have hb := C.2.1
  have hl : lv_has ls 5 [(0, .ref x), (1, .int sh1), (2, .int se1), (3, .int fr), (4, .int i)] := hl
  subst hsz
  have hS : ST D dA K sZ.heap K V sZ.heap [] := ST.rf hR
  have r_sh1 := th_rng sh1; rw [iz_sh1] at r_sh1
  have r_se1 := th_rng se1; rw [iz_se1] at r_se1
  have r_fr := th_rng fr; rw [iz_fr] at r_fr
  have r_i := th_rng i; rw [iz_i] at r_i
  have F0 := F
  obtain ⟨ad, hF⟩ := F
  refine lv_aload_n hx hb dX11_planned_0 rfl (lv_at hl 0 rfl) ?_
  refine lv_iload_n hx hb dX11_planned_1 rfl (lv_at hl 1 rfl) ?_
  refine lv_iload_n hx hb dX11_planned_2 rfl (lv_at hl 2 rfl) ?_
  refine lv_iload_n hx hb dX11_planned_3 rfl (lv_at hl 3 rfl) ?_
  refine th_goi (th_runV (As := [.int sh1, .int se1, .int fr]) (rest := []) C hS.1 (RX11, TX11, 20) rfl gV_RX11_617 (FX.f0 hF) (t_X11_plan iz_sh1 iz_se1 iz_fr F0) hl rfl rfl rfl rfl ⟨Nat.le_of_ble_eq_true rfl, Nat.le_of_ble_eq_true rfl⟩ (Nat.le_of_ble_eq_true rfl) ⟨Nat.le_of_ble_eq_true rfl, Nat.le_of_ble_eq_true rfl⟩ dX11_planned_4) (fun r3827 hq3828 => ?_)
  refine lv_iconst (v := (-1)) hx hb dX11_planned_7 (by decide) ?_
  refine th_icmp_eq (X := r3827.toInt) (Y := (-1)) (tgt := 26) hx hb dX11_planned_8 (by decide) rfl li_n1 (fun c3829 => ?_) (fun c3829 => absurd c3829 (by omega))
  refine lv_iconst (v := (-1)) hx hb dX11_planned_26 (by decide) ?_
  exact th_reti C (by have hfin := li_n1; omega) dX11_planned_27

set_option maxHeartbeats 400000 in
set_option maxRecDepth 100000 in
theorem t_X11_report {l : Launch} {D : va_G} {dA : Nat → ClassId} {K : Kmap} {V : Vmap} {sz : Nat} {x : Nat} {k dy n is1 : Int32} {k_i dy_i n_i is1_i : Int} (iz_k : k.toInt = k_i) (iz_dy : dy.toInt = dy_i) (iz_n : n.toInt = n_i) (iz_is1 : is1.toInt = is1_i) (F : FX K V x) : Met l yX11_report (wsOf yX11_report cX11_report 5 (some .boolean)) { frames := 2, cells := 0, slots := 0, locals := 44 } (PC D dA K V sz [.ref x, .int k, .int dy, .int n, .int is1]) (PQi (fun r => (r.toInt = 0))) 0 0 noFree := by
  refine th_body (by decide +kernel) (Nat.le_of_ble_eq_true rfl) (fun pZ eZ sZ mZ belowZ methZ cZ C hR hsz hnm ls hl => ?_)
  have C : CX pZ sZ mZ [.ref x, .int k, .int dy, .int n, .int is1].toArray methZ cZ cX11_report 5 (some .boolean) RX11 D dA := C
  have hx := C.1; have hb := C.2.1
  have hl : lv_has ls 5 [(0, .ref x), (1, .int k), (2, .int dy), (3, .int n), (4, .int is1)] := hl
  subst hsz
  have hS : ST D dA K sZ.heap K V sZ.heap [] := ST.rf hR
  have r_k := th_rng k; rw [iz_k] at r_k
  have r_dy := th_rng dy; rw [iz_dy] at r_dy
  have r_n := th_rng n; rw [iz_n] at r_n
  have r_is1 := th_rng is1; rw [iz_is1] at r_is1
  have F0 := F
  obtain ⟨ad, hF⟩ := F
  refine lv_aload_n hx hb dX11_report_0 rfl (lv_at hl 0 rfl) ?_
  refine lv_iload_n hx hb dX11_report_1 rfl (lv_at hl 1 rfl) ?_
  refine lv_iconst (v := 1) hx hb dX11_report_2 (by decide) ?_
  refine th_gor (th_runV (As := [.int k, .int 1]) (rest := []) C hS.1 (RX11, TX11, 20) rfl gV_RX11_169 (FX.f0 hF) (t_X11_placeOf iz_k li_1 (FX.f0 hF) (FX.f34 hF)) hl rfl rfl rfl rfl ⟨Nat.le_of_ble_eq_true rfl, Nat.le_of_ble_eq_true rfl⟩ (Nat.le_of_ble_eq_true rfl) ⟨Nat.le_of_ble_eq_true rfl, Nat.le_of_ble_eq_true rfl⟩ dX11_report_3) ?_
  refine lv_ifnullN hx hb (tgt := 24) dX11_report_6 (by decide) ?_
  refine lv_iconst (v := 0) hx hb dX11_report_24 (by decide) ?_
  exact th_retz C (by have hfin := li_0; omega) (by have hfin := li_0; omega) dX11_report_25

set_option maxHeartbeats 400000 in
set_option maxRecDepth 100000 in
theorem t_X11_known {l : Launch} {D : va_G} {dA : Nat → ClassId} {K : Kmap} {V : Vmap} {sz : Nat} {x : Nat} {k d tt : Int32} {k_i d_i tt_i : Int} (iz_k : k.toInt = k_i) (iz_d : d.toInt = d_i) (iz_tt : tt.toInt = tt_i) (F : FX K V x) : Met l yX11_known (wsOf yX11_known cX11_known 9 (some .int)) { frames := 2, cells := 0, slots := 0, locals := 44 } (PC D dA K V sz [.ref x, .int k, .int d, .int tt]) (PQi (fun r => (r.toInt = (-1000001)))) 0 0 noFree := by
  refine th_body (by decide +kernel) (Nat.le_of_ble_eq_true rfl) (fun pZ eZ sZ mZ belowZ methZ cZ C hR hsz hnm ls hl => ?_)
  have C : CX pZ sZ mZ [.ref x, .int k, .int d, .int tt].toArray methZ cZ cX11_known 9 (some .int) RX11 D dA := C
  have hx := C.1; have hb := C.2.1
  have hl : lv_has ls 9 [(0, .ref x), (1, .int k), (2, .int d), (3, .int tt)] := hl
  subst hsz
  have hS : ST D dA K sZ.heap K V sZ.heap [] := ST.rf hR
  have r_k := th_rng k; rw [iz_k] at r_k
  have r_d := th_rng d; rw [iz_d] at r_d
  have r_tt := th_rng tt; rw [iz_tt] at r_tt
  have F0 := F
  obtain ⟨ad, hF⟩ := F
  refine lv_aload_n hx hb dX11_known_0 rfl (lv_at hl 0 rfl) ?_
  refine lv_iload_n hx hb dX11_known_1 rfl (lv_at hl 1 rfl) ?_
  refine lv_iconst (v := 1) hx hb dX11_known_2 (by decide) ?_
  refine th_gor (th_runV (As := [.int k, .int 1]) (rest := []) C hS.1 (RX11, TX11, 20) rfl gV_RX11_169 (FX.f0 hF) (t_X11_placeOf iz_k li_1 (FX.f0 hF) (FX.f34 hF)) hl rfl rfl rfl rfl ⟨Nat.le_of_ble_eq_true rfl, Nat.le_of_ble_eq_true rfl⟩ (Nat.le_of_ble_eq_true rfl) ⟨Nat.le_of_ble_eq_true rfl, Nat.le_of_ble_eq_true rfl⟩ dX11_known_3) ?_
  refine lv_ifnullN hx hb (tgt := 23) dX11_known_6 (by decide) ?_
  refine lv_ldcw (v := (-1000001)) hx hb C.2.2.2.2.2.1 (C.2.2.2.2.2.2.1 _ gw_1426) dX11_known_23 ?_
  exact th_reti C (by have hfin := li_n1000001; omega) dX11_known_26

set_option maxHeartbeats 400000 in
set_option maxRecDepth 100000 in
theorem t_X11_check {l : Launch} {D : va_G} {dA : Nat → ClassId} {K : Kmap} {V : Vmap} {sz : Nat} {x : Nat} {n : Int32} {n_i : Int} (iz_n : n.toInt = n_i) (F : FX K V x) : Met l yX11_check (wsOf yX11_check cX11_check 3 (some .int)) { frames := 1, cells := 0, slots := 0, locals := 24 } (PC D dA K V sz [.ref x, .int n]) (HQi D dA K (fun r K1 V1 => (∀ b, K b = some (0, 11) → V1 b = V b) ∧ ((n_i = 0 ∧ r.toInt = (-1)) ∨ (n_i ≠ 0 ∧ r.toInt = (-2))))) 0 0 (AK K sz) := by
  refine th_body (by decide +kernel) (Nat.le_of_ble_eq_true rfl) (fun pZ eZ sZ mZ belowZ methZ cZ C hR hsz hnm ls hl => ?_)
  have C : CX pZ sZ mZ [.ref x, .int n].toArray methZ cZ cX11_check 3 (some .int) RX11 D dA := C
  have hx := C.1; have hb := C.2.1
  have hl : lv_has ls 3 [(0, .ref x), (1, .int n)] := hl
  subst hsz
  have hS : ST D dA K sZ.heap K V sZ.heap [] := ST.rf hR
  have r_n := th_rng n; rw [iz_n] at r_n
  have F0 := F
  obtain ⟨ad, hF⟩ := F
  refine lv_iload_n hx hb dX11_check_0 rfl (lv_at hl 1 rfl) ?_
  refine th_if_lt (X := n_i) (tgt := 18) hx hb dX11_check_1 (by decide) iz_n (fun c3834 => ?_) (fun c3834 => ?_)
  · refine lv_bipush (v := (-2)) hx hb dX11_check_18 (by decide) ?_
    exact th_retiH (post := fun r K1 V1 => (∀ b, K b = some (0, 11) → V1 b = V b) ∧ ((n_i = 0 ∧ r.toInt = (-1)) ∨ (n_i ≠ 0 ∧ r.toInt = (-2)))) (cells := 0) (slots := 0) (mc := 0) (ms := 0) C hS ⟨(fun b hb => rfl), (Or.inr (⟨by omega, li_n2⟩))⟩ (Nat.le_of_ble_eq_true rfl) (Nat.le_of_ble_eq_true rfl) dX11_check_20
  · refine lv_iload_n hx hb dX11_check_4 rfl (lv_at hl 1 rfl) ?_
    refine lv_aload_n hx hb dX11_check_5 rfl (lv_at hl 0 rfl) ?_
    refine th_get C hS.1 (FX.f0 hF) fl_RX11_91 (FX.f59 hF) dX11_check_6 ?_
    refine th_get C hS.1 (FX.f60 hF) fl_RX11_199 (FX.f65 hF) dX11_check_9 ?_
    refine lv_bipush (v := 8) hx hb dX11_check_12 (by decide) ?_
    refine lv_idiv hx hb dX11_check_14 (by decide) ?_
    refine th_is (w := .int 0) (by decide) ?_
    refine th_icmp_le (X := n_i) (Y := 0) (tgt := 21) hx hb dX11_check_15 (by decide) iz_n li_0 (fun c3835 => ?_) (fun c3835 => ?_)
    · refine lv_aload_n hx hb dX11_check_21 rfl (lv_at hl 0 rfl) ?_
      refine lv_iconst (v := 2) hx hb dX11_check_22 (by decide) ?_
      refine lv_iload_n hx hb dX11_check_23 rfl (lv_at hl 1 rfl) ?_
      refine lv_imul hx hb dX11_check_24 ?_
      refine th_top (X := (2 * n_i)) (th_mul li_2 iz_n (by omega) (by omega)) (fun z3836 hz3836 => ?_)
      refine th_goi (th_runV (As := [.int z3836]) (rest := []) C hS.1 (RX11, TX11, 20) rfl gV_RX11_627 (FX.f0 hF) (t_X11_firstWrong hz3836 (FX.f0 hF) (FX.f34 hF)) hl rfl rfl rfl rfl ⟨Nat.le_of_ble_eq_true rfl, Nat.le_of_ble_eq_true rfl⟩ (Nat.le_of_ble_eq_true rfl) ⟨Nat.le_of_ble_eq_true rfl, Nat.le_of_ble_eq_true rfl⟩ dX11_check_25) (fun r3837 hq3838 => ?_)
      refine lv_istore_n (lv' := [(2, .int r3837), (0, .ref x), (1, .int n)]) hx hb dX11_check_28 rfl hl (by decide) rfl (fun ls hl => ?_)
      refine lv_aload_n hx hb dX11_check_29 rfl (lv_at hl 1 rfl) ?_
      refine th_get C hS.1 (FX.f0 hF) fl_RX11_91 (FX.f59 hF) dX11_check_30 ?_
      refine lv_iconst (v := 0) hx hb dX11_check_33 (by decide) ?_
      refine th_put C hS (FX.f60 hF) fp_RX11_199 rfl rfl dX11_check_34 (fun V3839 H locs1 hV3840 hS => ?_)
      refine lv_iload_n hx hb dX11_check_37 rfl (lv_at hl 0 rfl) ?_
      exact th_retiH (post := fun r K1 V1 => (∀ b, K b = some (0, 11) → V1 b = V b) ∧ ((n_i = 0 ∧ r.toInt = (-1)) ∨ (n_i ≠ 0 ∧ r.toInt = (-2)))) (cells := 0) (slots := 0) (mc := 0) (ms := 0) C hS ⟨(fun b hb  => (uq_other hV3840 (K_ne hb (FX.f60 hF) (by decide)))), (Or.inl ⟨by omega, by omega⟩)⟩ (Nat.le_of_ble_eq_true rfl) (Nat.le_of_ble_eq_true rfl) dX11_check_38
    · refine lv_bipush (v := (-2)) hx hb dX11_check_18 (by decide) ?_
      exact th_retiH (post := fun r K1 V1 => (∀ b, K b = some (0, 11) → V1 b = V b) ∧ ((n_i = 0 ∧ r.toInt = (-1)) ∨ (n_i ≠ 0 ∧ r.toInt = (-2)))) (cells := 0) (slots := 0) (mc := 0) (ms := 0) C hS ⟨(fun b hb => rfl), (Or.inr (⟨by omega, li_n2⟩))⟩ (Nat.le_of_ble_eq_true rfl) (Nat.le_of_ble_eq_true rfl) dX11_check_20

set_option maxHeartbeats 400000 in
set_option maxRecDepth 100000 in
theorem t_X11_look {l : Launch} {D : va_G} {dA : Nat → ClassId} {K : Kmap} {V : Vmap} {sz : Nat} {x : Nat} {k wh : Int32} {k_i wh_i : Int} (iz_k : k.toInt = k_i) (iz_wh : wh.toInt = wh_i) (F : FX K V x) : Met l yX11_look (wsOf yX11_look cX11_look 4 (some .int)) { frames := 1, cells := 0, slots := 0, locals := 21 } (PC D dA K V sz [.ref x, .int k, .int wh]) (PQi (fun r => (r.toInt = (-1)))) 0 0 noFree := by
  refine th_body (by decide +kernel) (Nat.le_of_ble_eq_true rfl) (fun pZ eZ sZ mZ belowZ methZ cZ C hR hsz hnm ls hl => ?_)
  have C : CX pZ sZ mZ [.ref x, .int k, .int wh].toArray methZ cZ cX11_look 4 (some .int) RX11 D dA := C
  have hx := C.1; have hb := C.2.1
  have hl : lv_has ls 4 [(0, .ref x), (1, .int k), (2, .int wh)] := hl
  subst hsz
  have hS : ST D dA K sZ.heap K V sZ.heap [] := ST.rf hR
  have r_k := th_rng k; rw [iz_k] at r_k
  have r_wh := th_rng wh; rw [iz_wh] at r_wh
  have F0 := F
  obtain ⟨ad, hF⟩ := F
  refine lv_aload_n hx hb dX11_look_0 rfl (lv_at hl 0 rfl) ?_
  refine lv_iload_n hx hb dX11_look_1 rfl (lv_at hl 1 rfl) ?_
  refine th_gor (th_runV (As := [.int k]) (rest := []) C hS.1 (RX11, TX11, 20) rfl gV_RX11_384 (FX.f0 hF) (t_X11_anyPlace iz_k (FX.f0 hF) (FX.f34 hF)) hl rfl rfl rfl rfl ⟨Nat.le_of_ble_eq_true rfl, Nat.le_of_ble_eq_true rfl⟩ (Nat.le_of_ble_eq_true rfl) ⟨Nat.le_of_ble_eq_true rfl, Nat.le_of_ble_eq_true rfl⟩ dX11_look_2) ?_
  refine lv_astore_nN (lv' := [(3, .null), (0, .ref x), (1, .int k), (2, .int wh)]) hx hb dX11_look_5 rfl hl (by decide) rfl (fun ls hl => ?_)
  refine lv_aload_nN hx hb dX11_look_6 rfl (lv_at hl 0 rfl) ?_
  refine lv_ifnonnullN hx hb dX11_look_7 ?_
  refine lv_iconst (v := (-1)) hx hb dX11_look_10 (by decide) ?_
  exact th_reti C (by have hfin := li_n1; omega) dX11_look_11

set_option maxHeartbeats 400000 in
set_option maxRecDepth 100000 in
theorem t_X11_at {l : Launch} {D : va_G} {dA : Nat → ClassId} {K : Kmap} {V : Vmap} {sz : Nat} {x : Nat} {sh1 wh : Int32} {sh1_i wh_i : Int} (iz_sh1 : sh1.toInt = sh1_i) (iz_wh : wh.toInt = wh_i) (F : FX K V x) : Met l yX11_at (wsOf yX11_at cX11_at 4 (some .int)) { frames := 1, cells := 0, slots := 0, locals := 21 } (PC D dA K V sz [.ref x, .int sh1, .int wh]) (PQi (fun r => (r.toInt = (-1)))) 0 0 noFree := by
  refine th_body (by decide +kernel) (Nat.le_of_ble_eq_true rfl) (fun pZ eZ sZ mZ belowZ methZ cZ C hR hsz hnm ls hl => ?_)
  have C : CX pZ sZ mZ [.ref x, .int sh1, .int wh].toArray methZ cZ cX11_at 4 (some .int) RX11 D dA := C
  have hx := C.1; have hb := C.2.1
  have hl : lv_has ls 4 [(0, .ref x), (1, .int sh1), (2, .int wh)] := hl
  subst hsz
  have hS : ST D dA K sZ.heap K V sZ.heap [] := ST.rf hR
  have r_sh1 := th_rng sh1; rw [iz_sh1] at r_sh1
  have r_wh := th_rng wh; rw [iz_wh] at r_wh
  have F0 := F
  obtain ⟨ad, hF⟩ := F
  refine lv_aload_n hx hb dX11_at_0 rfl (lv_at hl 0 rfl) ?_
  refine lv_iload_n hx hb dX11_at_1 rfl (lv_at hl 1 rfl) ?_
  refine th_gor (th_runV (As := [.int sh1]) (rest := []) C hS.1 (RX11, TX11, 20) rfl gV_RX11_403 (FX.f0 hF) (t_X11_shipOf iz_sh1 (FX.f0 hF) (FX.f36 hF)) hl rfl rfl rfl rfl ⟨Nat.le_of_ble_eq_true rfl, Nat.le_of_ble_eq_true rfl⟩ (Nat.le_of_ble_eq_true rfl) ⟨Nat.le_of_ble_eq_true rfl, Nat.le_of_ble_eq_true rfl⟩ dX11_at_2) ?_
  refine lv_astore_nN (lv' := [(3, .null), (0, .ref x), (1, .int sh1), (2, .int wh)]) hx hb dX11_at_5 rfl hl (by decide) rfl (fun ls hl => ?_)
  refine lv_aload_nN hx hb dX11_at_6 rfl (lv_at hl 0 rfl) ?_
  refine lv_ifnonnullN hx hb dX11_at_7 ?_
  refine lv_iconst (v := (-1)) hx hb dX11_at_10 (by decide) ?_
  exact th_reti C (by have hfin := li_n1; omega) dX11_at_11

set_option maxHeartbeats 400000 in
set_option maxRecDepth 100000 in
theorem t_X11_about {l : Launch} {D : va_G} {dA : Nat → ClassId} {K : Kmap} {V : Vmap} {sz : Nat} {x : Nat} {w wh : Int32} {w_i wh_i : Int} (iz_w : w.toInt = w_i) (iz_wh : wh.toInt = wh_i) (F : FX K V x) : Met l yX11_about (wsOf yX11_about cX11_about 4 (some .int)) { frames := 1, cells := 0, slots := 0, locals := 21 } (PC D dA K V sz [.ref x, .int w, .int wh]) (PQi (fun r => (r.toInt = (-1)))) 0 0 noFree := by
  refine th_body (by decide +kernel) (Nat.le_of_ble_eq_true rfl) (fun pZ eZ sZ mZ belowZ methZ cZ C hR hsz hnm ls hl => ?_)
  have C : CX pZ sZ mZ [.ref x, .int w, .int wh].toArray methZ cZ cX11_about 4 (some .int) RX11 D dA := C
  have hx := C.1; have hb := C.2.1
  have hl : lv_has ls 4 [(0, .ref x), (1, .int w), (2, .int wh)] := hl
  subst hsz
  have hS : ST D dA K sZ.heap K V sZ.heap [] := ST.rf hR
  have r_w := th_rng w; rw [iz_w] at r_w
  have r_wh := th_rng wh; rw [iz_wh] at r_wh
  have F0 := F
  obtain ⟨ad, hF⟩ := F
  refine lv_aload_n hx hb dX11_about_0 rfl (lv_at hl 0 rfl) ?_
  refine lv_iload_n hx hb dX11_about_1 rfl (lv_at hl 1 rfl) ?_
  refine th_gor (th_runV (As := [.int w]) (rest := []) C hS.1 (RX11, TX11, 20) rfl gV_RX11_309 (FX.f0 hF) (t_X11_workOf iz_w (FX.f0 hF) (FX.f35 hF)) hl rfl rfl rfl rfl ⟨Nat.le_of_ble_eq_true rfl, Nat.le_of_ble_eq_true rfl⟩ (Nat.le_of_ble_eq_true rfl) ⟨Nat.le_of_ble_eq_true rfl, Nat.le_of_ble_eq_true rfl⟩ dX11_about_2) ?_
  refine lv_astore_nN (lv' := [(3, .null), (0, .ref x), (1, .int w), (2, .int wh)]) hx hb dX11_about_5 rfl hl (by decide) rfl (fun ls hl => ?_)
  refine lv_aload_nN hx hb dX11_about_6 rfl (lv_at hl 0 rfl) ?_
  refine lv_ifnonnullN hx hb dX11_about_7 ?_
  refine lv_iconst (v := (-1)) hx hb dX11_about_10 (by decide) ?_
  exact th_reti C (by have hfin := li_n1; omega) dX11_about_11

set_option maxHeartbeats 400000 in
set_option maxRecDepth 100000 in
theorem t_X11_sum {l : Launch} {D : va_G} {dA : Nat → ClassId} {K : Kmap} {V : Vmap} {sz : Nat} {x : Nat} {wh : Int32} {wh_i : Int} (iz_wh : wh.toInt = wh_i) (F : FX K V x) : Met l yX11_sum (wsOf yX11_sum cX11_sum 3 (some .long)) { frames := 1, cells := 0, slots := 0, locals := 22 } (PC D dA K V sz [.ref x, .int wh]) (HQl D dA K (fun r K1 V1 => (∀ b, K b = some (0, 11) → V1 b = V b) ∧ (((0 ≤ wh_i ∧ wh_i ≤ 7) ∧ r = 0) ∨ ((0 > wh_i ∨ wh_i > 7) ∧ r = (-1))))) 0 0 (AK K sz) := by
  refine th_body (by decide +kernel) (Nat.le_of_ble_eq_true rfl) (fun pZ eZ sZ mZ belowZ methZ cZ C hR hsz hnm ls hl => ?_)
  have C : CX pZ sZ mZ [.ref x, .int wh].toArray methZ cZ cX11_sum 3 (some .long) RX11 D dA := C
  have hx := C.1; have hb := C.2.1
  have hl : lv_has ls 3 [(0, .ref x), (1, .int wh)] := hl
  subst hsz
  have hS : ST D dA K sZ.heap K V sZ.heap [] := ST.rf hR
  have r_wh := th_rng wh; rw [iz_wh] at r_wh
  have F0 := F
  obtain ⟨ad, hF⟩ := F
  refine lv_iload_n hx hb dX11_sum_0 rfl (lv_at hl 1 rfl) ?_
  refine th_if_lt (X := wh_i) (tgt := 20) hx hb dX11_sum_1 (by decide) iz_wh (fun c3847 => ?_) (fun c3847 => ?_)
  · refine lv_iload_n hx hb dX11_sum_20 rfl (lv_at hl 1 rfl) ?_
    refine lv_bipush (v := 10) hx hb dX11_sum_21 (by decide) ?_
    refine lv_bipush (v := 18) hx hb dX11_sum_23 (by decide) ?_
    refine th_goi (th_runS (As := [.int wh, .int 10, .int 18]) (rest := []) C hS.1 gS_RX11_112 (t_X11_between iz_wh li_10 li_18) hl rfl rfl rfl rfl ⟨Nat.le_of_ble_eq_true rfl, Nat.le_of_ble_eq_true rfl⟩ (Nat.le_of_ble_eq_true rfl) ⟨Nat.le_of_ble_eq_true rfl, Nat.le_of_ble_eq_true rfl⟩ dX11_sum_25) (fun r3848 hq3849 => ?_)
    refine th_if_eq (X := r3848.toInt) (tgt := 56) hx hb dX11_sum_28 (by decide) rfl (fun c3850 => ?_) (fun c3850 => absurd c3850 (by omega))
    refine lv_iload_n hx hb dX11_sum_56 rfl (lv_at hl 1 rfl) ?_
    refine lv_bipush (v := 20) hx hb dX11_sum_57 (by decide) ?_
    refine th_icmp_lt (X := wh_i) (Y := 20) (tgt := 92) hx hb dX11_sum_59 (by decide) iz_wh li_20 (fun c3851 => ?_) (fun c3851 => absurd c3851 (by omega))
    refine lv_ldc2 (v := (-1)) hx hb C.2.2.2.2.2.1 (C.2.2.2.2.2.2.1 _ gw_1459) dX11_sum_92 ?_
    exact th_retlH (post := fun r K1 V1 => (∀ b, K b = some (0, 11) → V1 b = V b) ∧ (((0 ≤ wh_i ∧ wh_i ≤ 7) ∧ r = 0) ∨ ((0 > wh_i ∨ wh_i > 7) ∧ r = (-1)))) (cells := 0) (slots := 0) (mc := 0) (ms := 0) C hS ⟨(fun b hb => rfl), (by first | exact Or.inr (⟨by omega, rfl⟩))⟩ (Nat.le_of_ble_eq_true rfl) (Nat.le_of_ble_eq_true rfl) dX11_sum_95
  · refine lv_iload_n hx hb dX11_sum_4 rfl (lv_at hl 1 rfl) ?_
    refine lv_aload_n hx hb dX11_sum_5 rfl (lv_at hl 0 rfl) ?_
    refine th_get C hS.1 (FX.f0 hF) fl_RX11_98 (FX.f68 hF) dX11_sum_6 ?_
    refine th_alen C hS.1 (t := 1) (by decide) (FX.f69 hF) dX11_sum_9 ?_
    refine th_is (w := .int 8) (by decide) ?_
    refine th_icmp_ge (X := wh_i) (Y := 8) (tgt := 20) hx hb dX11_sum_10 (by decide) iz_wh li_8 (fun c3852 => ?_) (fun c3852 => ?_)
    · refine lv_iload_n hx hb dX11_sum_20 rfl (lv_at hl 1 rfl) ?_
      refine lv_bipush (v := 10) hx hb dX11_sum_21 (by decide) ?_
      refine lv_bipush (v := 18) hx hb dX11_sum_23 (by decide) ?_
      refine th_goi (th_runS (As := [.int wh, .int 10, .int 18]) (rest := []) C hS.1 gS_RX11_112 (t_X11_between iz_wh li_10 li_18) hl rfl rfl rfl rfl ⟨Nat.le_of_ble_eq_true rfl, Nat.le_of_ble_eq_true rfl⟩ (Nat.le_of_ble_eq_true rfl) ⟨Nat.le_of_ble_eq_true rfl, Nat.le_of_ble_eq_true rfl⟩ dX11_sum_25) (fun r3853 hq3854 => ?_)
      refine th_if_eq (X := r3853.toInt) (tgt := 56) hx hb dX11_sum_28 (by decide) rfl (fun c3855 => ?_) (fun c3855 => ?_)
      · replace hq3854 := Or.resolve_left hq3854 (fun h => absurd h.2 (by omega))
        refine lv_iload_n hx hb dX11_sum_56 rfl (lv_at hl 1 rfl) ?_
        refine lv_bipush (v := 20) hx hb dX11_sum_57 (by decide) ?_
        refine th_icmp_lt (X := wh_i) (Y := 20) (tgt := 92) hx hb dX11_sum_59 (by decide) iz_wh li_20 (fun c3856 => ?_) (fun c3856 => ?_)
        · refine lv_ldc2 (v := (-1)) hx hb C.2.2.2.2.2.1 (C.2.2.2.2.2.2.1 _ gw_1459) dX11_sum_92 ?_
          exact th_retlH (post := fun r K1 V1 => (∀ b, K b = some (0, 11) → V1 b = V b) ∧ (((0 ≤ wh_i ∧ wh_i ≤ 7) ∧ r = 0) ∨ ((0 > wh_i ∨ wh_i > 7) ∧ r = (-1)))) (cells := 0) (slots := 0) (mc := 0) (ms := 0) C hS ⟨(fun b hb => rfl), (by first | exact Or.inr (⟨by omega, rfl⟩))⟩ (Nat.le_of_ble_eq_true rfl) (Nat.le_of_ble_eq_true rfl) dX11_sum_95
        · refine lv_aload_n hx hb dX11_sum_62 rfl (lv_at hl 0 rfl) ?_
          refine th_get C hS.1 (FX.f0 hF) fl_RX11_79 (FX.f43 hF) dX11_sum_63 ?_
          refine lv_iload_n hx hb dX11_sum_66 rfl (lv_at hl 1 rfl) ?_
          refine lv_bipush (v := 20) hx hb dX11_sum_67 (by decide) ?_
          refine lv_isub hx hb dX11_sum_69 ?_
          refine th_top (X := (wh_i - 20)) (th_sub iz_wh li_20 (by omega) (by omega)) (fun z3857 hz3857 => ?_)
          refine th_goi (th_runV (As := [.int z3857]) (rest := []) C hS.1 (RX8, TX8, 4) rfl gV_RX11_431 (FX.f44 hF) (t_X8_has hz3857 (FX.f44 hF) (FX.f45 hF)) hl rfl rfl rfl rfl ⟨Nat.le_of_ble_eq_true rfl, Nat.le_of_ble_eq_true rfl⟩ (Nat.le_of_ble_eq_true rfl) ⟨Nat.le_of_ble_eq_true rfl, Nat.le_of_ble_eq_true rfl⟩ dX11_sum_70) (fun r3858 hq3859 => ?_)
          refine th_if_eq (X := r3858.toInt) (tgt := 92) hx hb dX11_sum_73 (by decide) rfl (fun c3860 => ?_) (fun c3860 => absurd c3860 (by omega))
          refine lv_ldc2 (v := (-1)) hx hb C.2.2.2.2.2.1 (C.2.2.2.2.2.2.1 _ gw_1459) dX11_sum_92 ?_
          exact th_retlH (post := fun r K1 V1 => (∀ b, K b = some (0, 11) → V1 b = V b) ∧ (((0 ≤ wh_i ∧ wh_i ≤ 7) ∧ r = 0) ∨ ((0 > wh_i ∨ wh_i > 7) ∧ r = (-1)))) (cells := 0) (slots := 0) (mc := 0) (ms := 0) C hS ⟨(fun b hb => rfl), (by first | exact Or.inr (⟨by omega, rfl⟩))⟩ (Nat.le_of_ble_eq_true rfl) (Nat.le_of_ble_eq_true rfl) dX11_sum_95
      · replace hq3854 := Or.resolve_right hq3854 (fun h => absurd h.2 (by omega))
        refine lv_aload_n hx hb dX11_sum_31 rfl (lv_at hl 0 rfl) ?_
        refine lv_iload_n hx hb dX11_sum_32 rfl (lv_at hl 1 rfl) ?_
        refine lv_bipush (v := 10) hx hb dX11_sum_33 (by decide) ?_
        refine lv_isub hx hb dX11_sum_35 ?_
        refine th_top (X := (wh_i - 10)) (th_sub iz_wh li_10 (by omega) (by omega)) (fun z3861 hz3861 => ?_)
        refine th_gor (th_runV (As := [.int z3861]) (rest := []) C hS.1 (RX11, TX11, 20) rfl gV_RX11_151 (FX.f0 hF) (t_X11_partyOf hz3861 (FX.f0 hF) (FX.f31 hF)) hl rfl rfl rfl rfl ⟨Nat.le_of_ble_eq_true rfl, Nat.le_of_ble_eq_true rfl⟩ (Nat.le_of_ble_eq_true rfl) ⟨Nat.le_of_ble_eq_true rfl, Nat.le_of_ble_eq_true rfl⟩ dX11_sum_36) ?_
        refine lv_astore_nN (lv' := [(2, .null), (0, .ref x), (1, .int wh)]) hx hb dX11_sum_39 rfl hl (by decide) rfl (fun ls hl => ?_)
        refine lv_aload_nN hx hb dX11_sum_40 rfl (lv_at hl 0 rfl) ?_
        refine lv_ifnonnullN hx hb dX11_sum_41 ?_
        refine lv_ldc2 (v := (-1)) hx hb C.2.2.2.2.2.1 (C.2.2.2.2.2.2.1 _ gw_1459) dX11_sum_44 ?_
        refine lv_goto (tgt := 55) hx hb dX11_sum_47 (by decide) ?_
        exact th_retlH (post := fun r K1 V1 => (∀ b, K b = some (0, 11) → V1 b = V b) ∧ (((0 ≤ wh_i ∧ wh_i ≤ 7) ∧ r = 0) ∨ ((0 > wh_i ∨ wh_i > 7) ∧ r = (-1)))) (cells := 0) (slots := 0) (mc := 0) (ms := 0) C hS ⟨(fun b hb => rfl), (by first | exact Or.inr (⟨by omega, rfl⟩))⟩ (Nat.le_of_ble_eq_true rfl) (Nat.le_of_ble_eq_true rfl) dX11_sum_55
    · refine lv_aload_n hx hb dX11_sum_13 rfl (lv_at hl 0 rfl) ?_
      refine th_get C hS.1 (FX.f0 hF) fl_RX11_98 (FX.f68 hF) dX11_sum_14 ?_
      refine lv_iload_n hx hb dX11_sum_17 rfl (lv_at hl 1 rfl) ?_
      refine th_lald C hS.1 (FX.f69 hF) (by rw [iz_wh]; omega) (by rw [iz_wh]; omega) ((FX.f70 hF) _) dX11_sum_18 ?_
      exact th_retlH (post := fun r K1 V1 => (∀ b, K b = some (0, 11) → V1 b = V b) ∧ (((0 ≤ wh_i ∧ wh_i ≤ 7) ∧ r = 0) ∨ ((0 > wh_i ∨ wh_i > 7) ∧ r = (-1)))) (cells := 0) (slots := 0) (mc := 0) (ms := 0) C hS ⟨(fun b hb => rfl), (by first | exact Or.inl ⟨by omega, rfl⟩)⟩ (Nat.le_of_ble_eq_true rfl) (Nat.le_of_ble_eq_true rfl) dX11_sum_19

set_option maxHeartbeats 400000 in
set_option maxRecDepth 100000 in
theorem t_X11_count {l : Launch} {D : va_G} {dA : Nat → ClassId} {K : Kmap} {V : Vmap} {sz : Nat} {x : Nat} {wh : Int32} {wh_i : Int} (iz_wh : wh.toInt = wh_i) (F : FX K V x) : Met l yX11_count (wsOf yX11_count cX11_count 2 (some .int)) { frames := 2, cells := 0, slots := 0, locals := 44 } (PC D dA K V sz [.ref x, .int wh]) (PQi (fun r => ((1 ≤ wh_i ∧ wh_i ≤ 2) ∧ r.toInt = 8) ∨ ((wh_i = 0 ∨ (3 ≤ wh_i ∧ wh_i ≤ 16)) ∧ r.toInt = 0) ∨ ((wh_i ≠ 0 ∧ (wh_i < 1 ∨ wh_i > 16)) ∧ r.toInt = (-1)))) 0 0 noFree := by
  refine th_body (by decide +kernel) (Nat.le_of_ble_eq_true rfl) (fun pZ eZ sZ mZ belowZ methZ cZ C hR hsz hnm ls hl => ?_)
  have C : CX pZ sZ mZ [.ref x, .int wh].toArray methZ cZ cX11_count 2 (some .int) RX11 D dA := C
  have hx := C.1; have hb := C.2.1
  have hl : lv_has ls 2 [(0, .ref x), (1, .int wh)] := hl
  subst hsz
  have hS : ST D dA K sZ.heap K V sZ.heap [] := ST.rf hR
  have r_wh := th_rng wh; rw [iz_wh] at r_wh
  have F0 := F
  obtain ⟨ad, hF⟩ := F
  refine lv_iload_n hx hb dX11_count_0 rfl (lv_at hl 1 rfl) ?_
  by_cases c3864 : wh_i = 0
  · have hc3864 : wh.toInt = 0 := by rw [iz_wh]; exact c3864
    refine lv_tableIn (off := 83) (tgt := 84) hx hb dX11_count_1 (by rw [hc3864]; decide) (by rw [hc3864]; decide) (by rw [hc3864]; rfl) (by decide) ?_
    refine lv_aload_n hx hb dX11_count_84 rfl (lv_at hl 0 rfl) ?_
    refine th_get C hS.1 (FX.f0 hF) fl_RX11_12 (FX.f1 hF) dX11_count_85 ?_
    refine th_get C hS.1 (FX.f2 hF) fl_RX11_145 (FX.f3 hF) dX11_count_88 ?_
    exact th_reti C (Or.inr (Or.inl ⟨by omega, li_0⟩)) dX11_count_91
  by_cases c3865 : wh_i = 1
  · have hc3865 : wh.toInt = 1 := by rw [iz_wh]; exact c3865
    refine lv_tableIn (off := 91) (tgt := 92) hx hb dX11_count_1 (by rw [hc3865]; decide) (by rw [hc3865]; decide) (by rw [hc3865]; rfl) (by decide) ?_
    refine lv_aload_n hx hb dX11_count_92 rfl (lv_at hl 0 rfl) ?_
    refine th_get C hS.1 (FX.f0 hF) fl_RX11_12 (FX.f1 hF) dX11_count_93 ?_
    refine th_get C hS.1 (FX.f2 hF) fl_RX11_639 (FX.f4 hF) dX11_count_96 ?_
    exact th_reti C (Or.inl ⟨by omega, li_8⟩) dX11_count_99
  by_cases c3866 : wh_i = 2
  · have hc3866 : wh.toInt = 2 := by rw [iz_wh]; exact c3866
    refine lv_tableIn (off := 99) (tgt := 100) hx hb dX11_count_1 (by rw [hc3866]; decide) (by rw [hc3866]; decide) (by rw [hc3866]; rfl) (by decide) ?_
    refine lv_aload_n hx hb dX11_count_100 rfl (lv_at hl 0 rfl) ?_
    refine th_get C hS.1 (FX.f0 hF) fl_RX11_12 (FX.f1 hF) dX11_count_101 ?_
    refine th_get C hS.1 (FX.f2 hF) fl_RX11_642 (FX.f5 hF) dX11_count_104 ?_
    exact th_reti C (Or.inl ⟨by omega, li_8⟩) dX11_count_107
  by_cases c3867 : wh_i = 3
  · have hc3867 : wh.toInt = 3 := by rw [iz_wh]; exact c3867
    refine lv_tableIn (off := 107) (tgt := 108) hx hb dX11_count_1 (by rw [hc3867]; decide) (by rw [hc3867]; decide) (by rw [hc3867]; rfl) (by decide) ?_
    refine lv_aload_n hx hb dX11_count_108 rfl (lv_at hl 0 rfl) ?_
    refine th_get C hS.1 (FX.f0 hF) fl_RX11_36 (FX.f31 hF) dX11_count_109 ?_
    exact th_reti C (Or.inr (Or.inl ⟨by omega, li_0⟩)) dX11_count_112
  by_cases c3868 : wh_i = 4
  · have hc3868 : wh.toInt = 4 := by rw [iz_wh]; exact c3868
    refine lv_tableIn (off := 112) (tgt := 113) hx hb dX11_count_1 (by rw [hc3868]; decide) (by rw [hc3868]; decide) (by rw [hc3868]; rfl) (by decide) ?_
    refine lv_aload_n hx hb dX11_count_113 rfl (lv_at hl 0 rfl) ?_
    refine th_get C hS.1 (FX.f0 hF) fl_RX11_46 (FX.f34 hF) dX11_count_114 ?_
    exact th_reti C (Or.inr (Or.inl ⟨by omega, li_0⟩)) dX11_count_117
  by_cases c3869 : wh_i = 5
  · have hc3869 : wh.toInt = 5 := by rw [iz_wh]; exact c3869
    refine lv_tableIn (off := 117) (tgt := 118) hx hb dX11_count_1 (by rw [hc3869]; decide) (by rw [hc3869]; decide) (by rw [hc3869]; rfl) (by decide) ?_
    refine lv_aload_n hx hb dX11_count_118 rfl (lv_at hl 0 rfl) ?_
    refine th_get C hS.1 (FX.f0 hF) fl_RX11_19 (FX.f18 hF) dX11_count_119 ?_
    refine th_get C hS.1 (FX.f19 hF) fl_RX11_216 (FX.f20 hF) dX11_count_122 ?_
    exact th_reti C (Or.inr (Or.inl ⟨by omega, li_0⟩)) dX11_count_125
  by_cases c3870 : wh_i = 6
  · have hc3870 : wh.toInt = 6 := by rw [iz_wh]; exact c3870
    refine lv_tableIn (off := 125) (tgt := 126) hx hb dX11_count_1 (by rw [hc3870]; decide) (by rw [hc3870]; decide) (by rw [hc3870]; rfl) (by decide) ?_
    refine lv_aload_n hx hb dX11_count_126 rfl (lv_at hl 0 rfl) ?_
    refine th_get C hS.1 (FX.f0 hF) fl_RX11_19 (FX.f18 hF) dX11_count_127 ?_
    refine th_get C hS.1 (FX.f19 hF) fl_RX11_262 (FX.f21 hF) dX11_count_130 ?_
    refine th_get C hS.1 (FX.f22 hF) fl_RX11_199 (FX.f23 hF) dX11_count_133 ?_
    exact th_reti C (Or.inr (Or.inl ⟨by omega, li_0⟩)) dX11_count_136
  by_cases c3871 : wh_i = 7
  · have hc3871 : wh.toInt = 7 := by rw [iz_wh]; exact c3871
    refine lv_tableIn (off := 136) (tgt := 137) hx hb dX11_count_1 (by rw [hc3871]; decide) (by rw [hc3871]; decide) (by rw [hc3871]; rfl) (by decide) ?_
    refine lv_aload_n hx hb dX11_count_137 rfl (lv_at hl 0 rfl) ?_
    refine th_get C hS.1 (FX.f0 hF) fl_RX11_55 (FX.f35 hF) dX11_count_138 ?_
    exact th_reti C (Or.inr (Or.inl ⟨by omega, li_0⟩)) dX11_count_141
  by_cases c3872 : wh_i = 8
  · have hc3872 : wh.toInt = 8 := by rw [iz_wh]; exact c3872
    refine lv_tableIn (off := 141) (tgt := 142) hx hb dX11_count_1 (by rw [hc3872]; decide) (by rw [hc3872]; decide) (by rw [hc3872]; rfl) (by decide) ?_
    refine lv_aload_n hx hb dX11_count_142 rfl (lv_at hl 0 rfl) ?_
    refine th_get C hS.1 (FX.f0 hF) fl_RX11_64 (FX.f36 hF) dX11_count_143 ?_
    exact th_reti C (Or.inr (Or.inl ⟨by omega, li_0⟩)) dX11_count_146
  by_cases c3873 : wh_i = 9
  · have hc3873 : wh.toInt = 9 := by rw [iz_wh]; exact c3873
    refine lv_tableIn (off := 146) (tgt := 147) hx hb dX11_count_1 (by rw [hc3873]; decide) (by rw [hc3873]; decide) (by rw [hc3873]; rfl) (by decide) ?_
    refine lv_aload_n hx hb dX11_count_147 rfl (lv_at hl 0 rfl) ?_
    refine th_goi (th_runV (As := []) (rest := []) C hS.1 (RX11, TX11, 20) rfl gV_RX11_644 (FX.f0 hF) (t_X11_sledgesOnWay (FX.f0 hF) (FX.f37 hF) (FX.f38 hF) (FX.f39 hF)) hl rfl rfl rfl rfl ⟨Nat.le_of_ble_eq_true rfl, Nat.le_of_ble_eq_true rfl⟩ (Nat.le_of_ble_eq_true rfl) ⟨Nat.le_of_ble_eq_true rfl, Nat.le_of_ble_eq_true rfl⟩ dX11_count_148) (fun r3874 hq3875 => ?_)
    exact th_reti C (Or.inr (Or.inl ⟨by omega, by omega⟩)) dX11_count_151
  by_cases c3876 : wh_i = 10
  · have hc3876 : wh.toInt = 10 := by rw [iz_wh]; exact c3876
    refine lv_tableIn (off := 151) (tgt := 152) hx hb dX11_count_1 (by rw [hc3876]; decide) (by rw [hc3876]; decide) (by rw [hc3876]; rfl) (by decide) ?_
    refine lv_aload_n hx hb dX11_count_152 rfl (lv_at hl 0 rfl) ?_
    refine th_get C hS.1 (FX.f0 hF) fl_RX11_76 (FX.f40 hF) dX11_count_153 ?_
    refine th_get C hS.1 (FX.f41 hF) fl_RX11_199 (FX.f42 hF) dX11_count_156 ?_
    exact th_reti C (Or.inr (Or.inl ⟨by omega, li_0⟩)) dX11_count_159
  by_cases c3877 : wh_i = 11
  · have hc3877 : wh.toInt = 11 := by rw [iz_wh]; exact c3877
    refine lv_tableIn (off := 159) (tgt := 160) hx hb dX11_count_1 (by rw [hc3877]; decide) (by rw [hc3877]; decide) (by rw [hc3877]; rfl) (by decide) ?_
    refine lv_aload_n hx hb dX11_count_160 rfl (lv_at hl 0 rfl) ?_
    refine th_get C hS.1 (FX.f0 hF) fl_RX11_79 (FX.f43 hF) dX11_count_161 ?_
    refine th_get C hS.1 (FX.f44 hF) fl_RX11_199 (FX.f45 hF) dX11_count_164 ?_
    exact th_reti C (Or.inr (Or.inl ⟨by omega, li_0⟩)) dX11_count_167
  by_cases c3878 : wh_i = 12
  · have hc3878 : wh.toInt = 12 := by rw [iz_wh]; exact c3878
    refine lv_tableIn (off := 167) (tgt := 168) hx hb dX11_count_1 (by rw [hc3878]; decide) (by rw [hc3878]; decide) (by rw [hc3878]; rfl) (by decide) ?_
    refine lv_aload_n hx hb dX11_count_168 rfl (lv_at hl 0 rfl) ?_
    refine th_get C hS.1 (FX.f0 hF) fl_RX11_82 (FX.f46 hF) dX11_count_169 ?_
    refine th_get C hS.1 (FX.f47 hF) fl_RX11_199 (FX.f48 hF) dX11_count_172 ?_
    exact th_reti C (Or.inr (Or.inl ⟨by omega, li_0⟩)) dX11_count_175
  by_cases c3879 : wh_i = 13
  · have hc3879 : wh.toInt = 13 := by rw [iz_wh]; exact c3879
    refine lv_tableIn (off := 175) (tgt := 176) hx hb dX11_count_1 (by rw [hc3879]; decide) (by rw [hc3879]; decide) (by rw [hc3879]; rfl) (by decide) ?_
    refine lv_aload_n hx hb dX11_count_176 rfl (lv_at hl 0 rfl) ?_
    refine th_get C hS.1 (FX.f0 hF) fl_RX11_88 (FX.f52 hF) dX11_count_177 ?_
    refine th_get C hS.1 (FX.f53 hF) fl_RX11_199 (FX.f58 hF) dX11_count_180 ?_
    exact th_reti C (Or.inr (Or.inl ⟨by omega, li_0⟩)) dX11_count_183
  by_cases c3880 : wh_i = 14
  · have hc3880 : wh.toInt = 14 := by rw [iz_wh]; exact c3880
    refine lv_tableIn (off := 183) (tgt := 184) hx hb dX11_count_1 (by rw [hc3880]; decide) (by rw [hc3880]; decide) (by rw [hc3880]; rfl) (by decide) ?_
    refine lv_aload_n hx hb dX11_count_184 rfl (lv_at hl 0 rfl) ?_
    refine th_get C hS.1 (FX.f0 hF) fl_RX11_26 (FX.f24 hF) dX11_count_185 ?_
    refine th_get C hS.1 (FX.f25 hF) fl_RX11_593 (FX.f26 hF) dX11_count_188 ?_
    refine th_get C hS.1 (FX.f27 hF) fl_RX11_199 (FX.f28 hF) dX11_count_191 ?_
    exact th_reti C (Or.inr (Or.inl ⟨by omega, li_0⟩)) dX11_count_194
  by_cases c3881 : wh_i = 15
  · have hc3881 : wh.toInt = 15 := by rw [iz_wh]; exact c3881
    refine lv_tableIn (off := 194) (tgt := 195) hx hb dX11_count_1 (by rw [hc3881]; decide) (by rw [hc3881]; decide) (by rw [hc3881]; rfl) (by decide) ?_
    refine lv_aload_n hx hb dX11_count_195 rfl (lv_at hl 0 rfl) ?_
    refine th_get C hS.1 (FX.f0 hF) fl_RX11_85 (FX.f49 hF) dX11_count_196 ?_
    refine th_get C hS.1 (FX.f50 hF) fl_RX11_199 (FX.f51 hF) dX11_count_199 ?_
    exact th_reti C (Or.inr (Or.inl ⟨by omega, li_0⟩)) dX11_count_202
  by_cases c3882 : wh_i = 16
  · have hc3882 : wh.toInt = 16 := by rw [iz_wh]; exact c3882
    refine lv_tableIn (off := 202) (tgt := 203) hx hb dX11_count_1 (by rw [hc3882]; decide) (by rw [hc3882]; decide) (by rw [hc3882]; rfl) (by decide) ?_
    refine lv_aload_n hx hb dX11_count_203 rfl (lv_at hl 0 rfl) ?_
    refine th_get C hS.1 (FX.f0 hF) fl_RX11_91 (FX.f59 hF) dX11_count_204 ?_
    refine th_get C hS.1 (FX.f60 hF) fl_RX11_199 (FX.f65 hF) dX11_count_207 ?_
    exact th_reti C (Or.inr (Or.inl ⟨by omega, li_0⟩)) dX11_count_210
  have c3883 : wh_i < 0 ∨ 16 < wh_i := by omega
  refine lv_tableOut (tgt := 211) hx hb dX11_count_1 (by rw [iz_wh]; exact c3883) (by decide) ?_
  refine lv_aload_n hx hb dX11_count_211 rfl (lv_at hl 0 rfl) ?_
  refine lv_iload_n hx hb dX11_count_212 rfl (lv_at hl 1 rfl) ?_
  refine th_goi (th_runV (As := [.int wh]) (rest := []) C hS.1 (RX11, TX11, 20) rfl gV_RX11_647 (FX.f0 hF) (t_X11_decidesFrom iz_wh (FX.f0 hF) (FX.f31 hF)) hl rfl rfl rfl rfl ⟨Nat.le_of_ble_eq_true rfl, Nat.le_of_ble_eq_true rfl⟩ (Nat.le_of_ble_eq_true rfl) ⟨Nat.le_of_ble_eq_true rfl, Nat.le_of_ble_eq_true rfl⟩ dX11_count_213) (fun r3884 hq3885 => ?_)
  exact th_reti C (Or.inr (Or.inr (⟨by omega, by omega⟩))) dX11_count_216

set_option maxHeartbeats 4000000 in
set_option maxRecDepth 100000 in
theorem t_X12_in {l : Launch} {D : va_G} {dA : Nat → ClassId} {K : Kmap} {V : Vmap} {sz : Nat} {v lo hi : Int32} {v_i lo_i hi_i : Int} (iz_v : v.toInt = v_i) (iz_lo : lo.toInt = lo_i) (iz_hi : hi.toInt = hi_i) : Met l yX12_in (wsOf yX12_in cX12_in 3 (some .boolean)) { frames := 0, cells := 0, slots := 0, locals := 0 } (PC D dA K V sz [.int v, .int lo, .int hi]) (PQi (fun r => ((lo_i ≤ v_i ∧ v_i ≤ hi_i) ∧ r.toInt = 1) ∨ ((lo_i > v_i ∨ v_i > hi_i) ∧ r.toInt = 0))) 0 0 noFree := by
  refine th_body (by decide +kernel) (Nat.le_of_ble_eq_true rfl) (fun pZ eZ sZ mZ belowZ methZ cZ C hR hsz hnm ls hl => ?_)
  have C : CX pZ sZ mZ [.int v, .int lo, .int hi].toArray methZ cZ cX12_in 3 (some .boolean) RX12 D dA := C
  have hx := C.1; have hb := C.2.1
  have hl : lv_has ls 3 [(0, .int v), (1, .int lo), (2, .int hi)] := hl
  subst hsz
  have hS : ST D dA K sZ.heap K V sZ.heap [] := ST.rf hR
  have r_v := th_rng v; rw [iz_v] at r_v
  have r_lo := th_rng lo; rw [iz_lo] at r_lo
  have r_hi := th_rng hi; rw [iz_hi] at r_hi
  refine lv_iload_n hx hb dX12_in_0 rfl (lv_at hl 0 rfl) ?_
  refine lv_iload_n hx hb dX12_in_1 rfl (lv_at hl 1 rfl) ?_
  refine th_icmp_lt (X := v_i) (Y := lo_i) (tgt := 14) hx hb dX12_in_2 (by decide) iz_v iz_lo (fun c3886 => ?_) (fun c3886 => ?_)
  · refine lv_iconst (v := 0) hx hb dX12_in_14 (by decide) ?_
    exact th_retz C (by have hfin := li_0; omega) (Or.inr (⟨by omega, li_0⟩)) dX12_in_15
  · refine lv_iload_n hx hb dX12_in_5 rfl (lv_at hl 0 rfl) ?_
    refine lv_iload_n hx hb dX12_in_6 rfl (lv_at hl 2 rfl) ?_
    refine th_icmp_gt (X := v_i) (Y := hi_i) (tgt := 14) hx hb dX12_in_7 (by decide) iz_v iz_hi (fun c3887 => ?_) (fun c3887 => ?_)
    · refine lv_iconst (v := 0) hx hb dX12_in_14 (by decide) ?_
      exact th_retz C (by have hfin := li_0; omega) (Or.inr (⟨by omega, li_0⟩)) dX12_in_15
    · refine lv_iconst (v := 1) hx hb dX12_in_10 (by decide) ?_
      refine lv_goto (tgt := 15) hx hb dX12_in_11 (by decide) ?_
      exact th_retz C (by have hfin := li_1; omega) (Or.inl ⟨by omega, li_1⟩) dX12_in_15

set_option maxHeartbeats 4000000 in
set_option maxRecDepth 100000 in
theorem t_X12_isDay {l : Launch} {D : va_G} {dA : Nat → ClassId} {K : Kmap} {V : Vmap} {sz : Nat} {d : Int32} {d_i : Int} (iz_d : d.toInt = d_i) : Met l yX12_isDay (wsOf yX12_isDay cX12_isDay 1 (some .boolean)) { frames := 0, cells := 0, slots := 0, locals := 0 } (PC D dA K V sz [.int d]) (PQi (fun r => ((0 ≤ d_i ∧ d_i ≤ 3599) ∧ r.toInt = 1) ∨ ((0 > d_i ∨ d_i > 3599) ∧ r.toInt = 0))) 0 0 noFree := by
  refine th_body (by decide +kernel) (Nat.le_of_ble_eq_true rfl) (fun pZ eZ sZ mZ belowZ methZ cZ C hR hsz hnm ls hl => ?_)
  have C : CX pZ sZ mZ [.int d].toArray methZ cZ cX12_isDay 1 (some .boolean) RX12 D dA := C
  have hx := C.1; have hb := C.2.1
  have hl : lv_has ls 1 [(0, .int d)] := hl
  subst hsz
  have hS : ST D dA K sZ.heap K V sZ.heap [] := ST.rf hR
  have r_d := th_rng d; rw [iz_d] at r_d
  refine lv_iload_n hx hb dX12_isDay_0 rfl (lv_at hl 0 rfl) ?_
  refine th_if_lt (X := d_i) (tgt := 15) hx hb dX12_isDay_1 (by decide) iz_d (fun c3888 => ?_) (fun c3888 => ?_)
  · refine lv_iconst (v := 0) hx hb dX12_isDay_15 (by decide) ?_
    exact th_retz C (by have hfin := li_0; omega) (Or.inr (⟨by omega, li_0⟩)) dX12_isDay_16
  · refine lv_iload_n hx hb dX12_isDay_4 rfl (lv_at hl 0 rfl) ?_
    refine lv_sipush (v := 3599) hx hb dX12_isDay_5 (by decide) ?_
    refine th_icmp_gt (X := d_i) (Y := 3599) (tgt := 15) hx hb dX12_isDay_8 (by decide) iz_d li_3599 (fun c3889 => ?_) (fun c3889 => ?_)
    · refine lv_iconst (v := 0) hx hb dX12_isDay_15 (by decide) ?_
      exact th_retz C (by have hfin := li_0; omega) (Or.inr (⟨by omega, li_0⟩)) dX12_isDay_16
    · refine lv_iconst (v := 1) hx hb dX12_isDay_11 (by decide) ?_
      refine lv_goto (tgt := 16) hx hb dX12_isDay_12 (by decide) ?_
      exact th_retz C (by have hfin := li_1; omega) (Or.inl ⟨by omega, li_1⟩) dX12_isDay_16

set_option maxHeartbeats 4000000 in
set_option maxRecDepth 100000 in
theorem t_X12_isSea {l : Launch} {D : va_G} {dA : Nat → ClassId} {K : Kmap} {V : Vmap} {sz : Nat} {d : Int32} {d_i : Int} (iz_d : d.toInt = d_i) : Met l yX12_isSea (wsOf yX12_isSea cX12_isSea 1 (some .boolean)) { frames := 0, cells := 0, slots := 0, locals := 0 } (PC D dA K V sz [.int d]) (PQi (fun r => ((0 ≤ d_i ∧ d_i ≤ 3) ∧ r.toInt = 1) ∨ ((0 > d_i ∨ d_i > 3) ∧ r.toInt = 0))) 0 0 noFree := by
  refine th_body (by decide +kernel) (Nat.le_of_ble_eq_true rfl) (fun pZ eZ sZ mZ belowZ methZ cZ C hR hsz hnm ls hl => ?_)
  have C : CX pZ sZ mZ [.int d].toArray methZ cZ cX12_isSea 1 (some .boolean) RX12 D dA := C
  have hx := C.1; have hb := C.2.1
  have hl : lv_has ls 1 [(0, .int d)] := hl
  subst hsz
  have hS : ST D dA K sZ.heap K V sZ.heap [] := ST.rf hR
  have r_d := th_rng d; rw [iz_d] at r_d
  refine lv_iload_n hx hb dX12_isSea_0 rfl (lv_at hl 0 rfl) ?_
  refine th_if_lt (X := d_i) (tgt := 13) hx hb dX12_isSea_1 (by decide) iz_d (fun c3890 => ?_) (fun c3890 => ?_)
  · refine lv_iconst (v := 0) hx hb dX12_isSea_13 (by decide) ?_
    exact th_retz C (by have hfin := li_0; omega) (Or.inr (⟨by omega, li_0⟩)) dX12_isSea_14
  · refine lv_iload_n hx hb dX12_isSea_4 rfl (lv_at hl 0 rfl) ?_
    refine lv_iconst (v := 4) hx hb dX12_isSea_5 (by decide) ?_
    refine th_icmp_ge (X := d_i) (Y := 4) (tgt := 13) hx hb dX12_isSea_6 (by decide) iz_d li_4 (fun c3891 => ?_) (fun c3891 => ?_)
    · refine lv_iconst (v := 0) hx hb dX12_isSea_13 (by decide) ?_
      exact th_retz C (by have hfin := li_0; omega) (Or.inr (⟨by omega, li_0⟩)) dX12_isSea_14
    · refine lv_iconst (v := 1) hx hb dX12_isSea_9 (by decide) ?_
      refine lv_goto (tgt := 14) hx hb dX12_isSea_10 (by decide) ?_
      exact th_retz C (by have hfin := li_1; omega) (Or.inl ⟨by omega, li_1⟩) dX12_isSea_14

set_option maxHeartbeats 4000000 in
set_option maxRecDepth 100000 in
theorem t_X12_isCell {l : Launch} {D : va_G} {dA : Nat → ClassId} {K : Kmap} {V : Vmap} {sz : Nat} {x : Nat} {c : Int32} {c_i : Int} (iz_c : c.toInt = c_i) (hp0 : K x = some (0, 11)) (hp1 : V x 0 = .int 8) (hp2 : V x 1 = .int 8) : Met l yX12_isCell (wsOf yX12_isCell cX12_isCell 2 (some .boolean)) { frames := 0, cells := 0, slots := 0, locals := 0 } (PC D dA K V sz [.ref x, .int c]) (PQi (fun r => ((0 ≤ c_i ∧ c_i ≤ 63) ∧ r.toInt = 1) ∨ ((0 > c_i ∨ c_i > 63) ∧ r.toInt = 0))) 0 0 noFree := by
  refine th_body (by decide +kernel) (Nat.le_of_ble_eq_true rfl) (fun pZ eZ sZ mZ belowZ methZ cZ C hR hsz hnm ls hl => ?_)
  have C : CX pZ sZ mZ [.ref x, .int c].toArray methZ cZ cX12_isCell 2 (some .boolean) RX12 D dA := C
  have hx := C.1; have hb := C.2.1
  have hl : lv_has ls 2 [(0, .ref x), (1, .int c)] := hl
  subst hsz
  have hS : ST D dA K sZ.heap K V sZ.heap [] := ST.rf hR
  have r_c := th_rng c; rw [iz_c] at r_c
  refine lv_iload_n hx hb dX12_isCell_0 rfl (lv_at hl 1 rfl) ?_
  refine th_if_lt (X := c_i) (tgt := 21) hx hb dX12_isCell_1 (by decide) iz_c (fun c3892 => ?_) (fun c3892 => ?_)
  · refine lv_iconst (v := 0) hx hb dX12_isCell_21 (by decide) ?_
    exact th_retz C (by have hfin := li_0; omega) (Or.inr (⟨by omega, li_0⟩)) dX12_isCell_22
  · refine lv_iload_n hx hb dX12_isCell_4 rfl (lv_at hl 1 rfl) ?_
    refine lv_aload_n hx hb dX12_isCell_5 rfl (lv_at hl 0 rfl) ?_
    refine th_get C hS.1 hp0 fl_RX12_365 hp1 dX12_isCell_6 ?_
    refine lv_aload_n hx hb dX12_isCell_9 rfl (lv_at hl 0 rfl) ?_
    refine th_get C hS.1 hp0 fl_RX12_368 hp2 dX12_isCell_10 ?_
    refine lv_imul hx hb dX12_isCell_13 ?_
    refine th_is (w := .int 64) (by decide) ?_
    refine th_icmp_ge (X := c_i) (Y := 64) (tgt := 21) hx hb dX12_isCell_14 (by decide) iz_c li_64 (fun c3893 => ?_) (fun c3893 => ?_)
    · refine lv_iconst (v := 0) hx hb dX12_isCell_21 (by decide) ?_
      exact th_retz C (by have hfin := li_0; omega) (Or.inr (⟨by omega, li_0⟩)) dX12_isCell_22
    · refine lv_iconst (v := 1) hx hb dX12_isCell_17 (by decide) ?_
      refine lv_goto (tgt := 22) hx hb dX12_isCell_18 (by decide) ?_
      exact th_retz C (by have hfin := li_1; omega) (Or.inl ⟨by omega, li_1⟩) dX12_isCell_22

set_option maxHeartbeats 4000000 in
set_option maxRecDepth 100000 in
theorem t_X12_isRectangle {l : Launch} {D : va_G} {dA : Nat → ClassId} {K : Kmap} {V : Vmap} {sz : Nat} {x : Nat} {a b : Int32} {a_i b_i : Int} (iz_a : a.toInt = a_i) (iz_b : b.toInt = b_i) (hp0 : K x = some (0, 11)) (hp1 : V x 0 = .int 8) (hp2 : V x 1 = .int 8) : Met l yX12_isRectangle (wsOf yX12_isRectangle cX12_isRectangle 3 (some .boolean)) { frames := 1, cells := 0, slots := 0, locals := 21 } (PC D dA K V sz [.ref x, .int a, .int b]) (PQi (fun r => (((0 ≤ a_i ∧ a_i ≤ 63) ∧ (0 ≤ b_i ∧ b_i ≤ 63) ∧ (a_i / 8) ≤ (b_i / 8) ∧ (a_i % 8) ≤ (b_i % 8)) ∧ r.toInt = 1) ∨ (((0 > a_i ∨ a_i > 63) ∨ (0 > b_i ∨ b_i > 63) ∨ (a_i / 8) > (b_i / 8) ∨ (a_i % 8) > (b_i % 8)) ∧ r.toInt = 0))) 0 0 noFree := by
  refine th_body (by decide +kernel) (Nat.le_of_ble_eq_true rfl) (fun pZ eZ sZ mZ belowZ methZ cZ C hR hsz hnm ls hl => ?_)
  have C : CX pZ sZ mZ [.ref x, .int a, .int b].toArray methZ cZ cX12_isRectangle 3 (some .boolean) RX12 D dA := C
  have hx := C.1; have hb := C.2.1
  have hl : lv_has ls 3 [(0, .ref x), (1, .int a), (2, .int b)] := hl
  subst hsz
  have hS : ST D dA K sZ.heap K V sZ.heap [] := ST.rf hR
  have r_a := th_rng a; rw [iz_a] at r_a
  have r_b := th_rng b; rw [iz_b] at r_b
  refine lv_aload_n hx hb dX12_isRectangle_0 rfl (lv_at hl 0 rfl) ?_
  refine lv_iload_n hx hb dX12_isRectangle_1 rfl (lv_at hl 1 rfl) ?_
  refine th_goi (th_runV (As := [.int a]) (rest := []) C hS.1 (RX12, TX12, 151) rfl gV_RX12_381 hp0 (t_X12_isCell iz_a hp0 hp1 hp2) hl rfl rfl rfl rfl ⟨Nat.le_of_ble_eq_true rfl, Nat.le_of_ble_eq_true rfl⟩ (Nat.le_of_ble_eq_true rfl) ⟨Nat.le_of_ble_eq_true rfl, Nat.le_of_ble_eq_true rfl⟩ dX12_isRectangle_2) (fun r3894 hq3895 => ?_)
  refine th_if_eq (X := r3894.toInt) (tgt := 50) hx hb dX12_isRectangle_5 (by decide) rfl (fun c3896 => ?_) (fun c3896 => ?_)
  · replace hq3895 := Or.resolve_left hq3895 (fun h => absurd h.2 (by omega))
    refine lv_iconst (v := 0) hx hb dX12_isRectangle_50 (by decide) ?_
    exact th_retz C (by have hfin := li_0; omega) (Or.inr (⟨by omega, li_0⟩)) dX12_isRectangle_51
  · replace hq3895 := Or.resolve_right hq3895 (fun h => absurd h.2 (by omega))
    refine lv_aload_n hx hb dX12_isRectangle_8 rfl (lv_at hl 0 rfl) ?_
    refine lv_iload_n hx hb dX12_isRectangle_9 rfl (lv_at hl 2 rfl) ?_
    refine th_goi (th_runV (As := [.int b]) (rest := []) C hS.1 (RX12, TX12, 151) rfl gV_RX12_381 hp0 (t_X12_isCell iz_b hp0 hp1 hp2) hl rfl rfl rfl rfl ⟨Nat.le_of_ble_eq_true rfl, Nat.le_of_ble_eq_true rfl⟩ (Nat.le_of_ble_eq_true rfl) ⟨Nat.le_of_ble_eq_true rfl, Nat.le_of_ble_eq_true rfl⟩ dX12_isRectangle_10) (fun r3897 hq3898 => ?_)
    refine th_if_eq (X := r3897.toInt) (tgt := 50) hx hb dX12_isRectangle_13 (by decide) rfl (fun c3899 => ?_) (fun c3899 => ?_)
    · replace hq3898 := Or.resolve_left hq3898 (fun h => absurd h.2 (by omega))
      refine lv_iconst (v := 0) hx hb dX12_isRectangle_50 (by decide) ?_
      exact th_retz C (by have hfin := li_0; omega) (Or.inr (⟨by omega, li_0⟩)) dX12_isRectangle_51
    · replace hq3898 := Or.resolve_right hq3898 (fun h => absurd h.2 (by omega))
      refine lv_iload_n hx hb dX12_isRectangle_16 rfl (lv_at hl 1 rfl) ?_
      refine lv_aload_n hx hb dX12_isRectangle_17 rfl (lv_at hl 0 rfl) ?_
      refine th_get C hS.1 hp0 fl_RX12_365 hp1 dX12_isRectangle_18 ?_
      refine lv_irem hx hb dX12_isRectangle_21 (by decide) ?_
      refine th_top (X := (a_i % 8)) (th_rem iz_a li_8 (by omega) (by omega)) (fun z3900 hz3900 => ?_)
      refine lv_iload_n hx hb dX12_isRectangle_22 rfl (lv_at hl 2 rfl) ?_
      refine lv_aload_n hx hb dX12_isRectangle_23 rfl (lv_at hl 0 rfl) ?_
      refine th_get C hS.1 hp0 fl_RX12_365 hp1 dX12_isRectangle_24 ?_
      refine lv_irem hx hb dX12_isRectangle_27 (by decide) ?_
      refine th_top (X := (b_i % 8)) (th_rem iz_b li_8 (by omega) (by omega)) (fun z3901 hz3901 => ?_)
      refine th_icmp_gt (X := (a_i % 8)) (Y := (b_i % 8)) (tgt := 50) hx hb dX12_isRectangle_28 (by decide) hz3900 hz3901 (fun c3902 => ?_) (fun c3902 => ?_)
      · refine lv_iconst (v := 0) hx hb dX12_isRectangle_50 (by decide) ?_
        exact th_retz C (by have hfin := li_0; omega) (Or.inr (⟨by omega, li_0⟩)) dX12_isRectangle_51
      · refine lv_iload_n hx hb dX12_isRectangle_31 rfl (lv_at hl 1 rfl) ?_
        refine lv_aload_n hx hb dX12_isRectangle_32 rfl (lv_at hl 0 rfl) ?_
        refine th_get C hS.1 hp0 fl_RX12_365 hp1 dX12_isRectangle_33 ?_
        refine lv_idiv hx hb dX12_isRectangle_36 (by decide) ?_
        refine th_top (X := (a_i / 8)) (th_div iz_a li_8 (by omega) (by omega)) (fun z3903 hz3903 => ?_)
        refine lv_iload_n hx hb dX12_isRectangle_37 rfl (lv_at hl 2 rfl) ?_
        refine lv_aload_n hx hb dX12_isRectangle_38 rfl (lv_at hl 0 rfl) ?_
        refine th_get C hS.1 hp0 fl_RX12_365 hp1 dX12_isRectangle_39 ?_
        refine lv_idiv hx hb dX12_isRectangle_42 (by decide) ?_
        refine th_top (X := (b_i / 8)) (th_div iz_b li_8 (by omega) (by omega)) (fun z3904 hz3904 => ?_)
        refine th_icmp_gt (X := (a_i / 8)) (Y := (b_i / 8)) (tgt := 50) hx hb dX12_isRectangle_43 (by decide) hz3903 hz3904 (fun c3905 => ?_) (fun c3905 => ?_)
        · refine lv_iconst (v := 0) hx hb dX12_isRectangle_50 (by decide) ?_
          exact th_retz C (by have hfin := li_0; omega) (Or.inr (⟨by omega, li_0⟩)) dX12_isRectangle_51
        · refine lv_iconst (v := 1) hx hb dX12_isRectangle_46 (by decide) ?_
          refine lv_goto (tgt := 51) hx hb dX12_isRectangle_47 (by decide) ?_
          exact th_retz C (by have hfin := li_1; omega) (Or.inl ⟨by omega, li_1⟩) dX12_isRectangle_51

set_option maxHeartbeats 4000000 in
set_option maxRecDepth 100000 in
theorem t_X12_isParty {l : Launch} {D : va_G} {dA : Nat → ClassId} {K : Kmap} {V : Vmap} {sz : Nat} {x : Nat} {p : Int32} {p_i : Int} (iz_p : p.toInt = p_i) (hp0 : K x = some (0, 11)) (hp1 : V x 9 = .int 0) : Met l yX12_isParty (wsOf yX12_isParty cX12_isParty 2 (some .boolean)) { frames := 0, cells := 0, slots := 0, locals := 0 } (PC D dA K V sz [.ref x, .int p]) (PQi (fun r => (r.toInt = 0))) 0 0 noFree := by
  refine th_body (by decide +kernel) (Nat.le_of_ble_eq_true rfl) (fun pZ eZ sZ mZ belowZ methZ cZ C hR hsz hnm ls hl => ?_)
  have C : CX pZ sZ mZ [.ref x, .int p].toArray methZ cZ cX12_isParty 2 (some .boolean) RX12 D dA := C
  have hx := C.1; have hb := C.2.1
  have hl : lv_has ls 2 [(0, .ref x), (1, .int p)] := hl
  subst hsz
  have hS : ST D dA K sZ.heap K V sZ.heap [] := ST.rf hR
  have r_p := th_rng p; rw [iz_p] at r_p
  refine lv_iload_n hx hb dX12_isParty_0 rfl (lv_at hl 1 rfl) ?_
  refine th_if_lt (X := p_i) (tgt := 16) hx hb dX12_isParty_1 (by decide) iz_p (fun c3906 => ?_) (fun c3906 => ?_)
  · refine lv_iconst (v := 0) hx hb dX12_isParty_16 (by decide) ?_
    exact th_retz C (by have hfin := li_0; omega) (by have hfin := li_0; omega) dX12_isParty_17
  · refine lv_iload_n hx hb dX12_isParty_4 rfl (lv_at hl 1 rfl) ?_
    refine lv_aload_n hx hb dX12_isParty_5 rfl (lv_at hl 0 rfl) ?_
    refine th_get C hS.1 hp0 fl_RX12_393 hp1 dX12_isParty_6 ?_
    refine th_icmp_ge (X := p_i) (Y := 0) (tgt := 16) hx hb dX12_isParty_9 (by decide) iz_p li_0 (fun c3907 => ?_) (fun c3907 => absurd c3907 (by omega))
    refine lv_iconst (v := 0) hx hb dX12_isParty_16 (by decide) ?_
    exact th_retz C (by have hfin := li_0; omega) (by have hfin := li_0; omega) dX12_isParty_17

set_option maxHeartbeats 4000000 in
set_option maxRecDepth 100000 in
theorem t_X12_isPlace {l : Launch} {D : va_G} {dA : Nat → ClassId} {K : Kmap} {V : Vmap} {sz : Nat} {x : Nat} {k kd : Int32} {k_i kd_i : Int} (iz_k : k.toInt = k_i) (iz_kd : kd.toInt = kd_i) (hp0 : K x = some (0, 11)) (hp1 : V x 10 = .int 0) : Met l yX12_isPlace (wsOf yX12_isPlace cX12_isPlace 3 (some .boolean)) { frames := 0, cells := 0, slots := 0, locals := 0 } (PC D dA K V sz [.ref x, .int k, .int kd]) (PQi (fun r => (r.toInt = 0))) 0 0 noFree := by
  refine th_body (by decide +kernel) (Nat.le_of_ble_eq_true rfl) (fun pZ eZ sZ mZ belowZ methZ cZ C hR hsz hnm ls hl => ?_)
  have C : CX pZ sZ mZ [.ref x, .int k, .int kd].toArray methZ cZ cX12_isPlace 3 (some .boolean) RX12 D dA := C
  have hx := C.1; have hb := C.2.1
  have hl : lv_has ls 3 [(0, .ref x), (1, .int k), (2, .int kd)] := hl
  subst hsz
  have hS : ST D dA K sZ.heap K V sZ.heap [] := ST.rf hR
  have r_k := th_rng k; rw [iz_k] at r_k
  have r_kd := th_rng kd; rw [iz_kd] at r_kd
  refine lv_iload_n hx hb dX12_isPlace_0 rfl (lv_at hl 1 rfl) ?_
  refine th_if_lt (X := k_i) (tgt := 26) hx hb dX12_isPlace_1 (by decide) iz_k (fun c3908 => ?_) (fun c3908 => ?_)
  · refine lv_iconst (v := 0) hx hb dX12_isPlace_26 (by decide) ?_
    exact th_retz C (by have hfin := li_0; omega) (by have hfin := li_0; omega) dX12_isPlace_27
  · refine lv_iload_n hx hb dX12_isPlace_4 rfl (lv_at hl 1 rfl) ?_
    refine lv_aload_n hx hb dX12_isPlace_5 rfl (lv_at hl 0 rfl) ?_
    refine th_get C hS.1 hp0 fl_RX12_375 hp1 dX12_isPlace_6 ?_
    refine th_icmp_ge (X := k_i) (Y := 0) (tgt := 26) hx hb dX12_isPlace_9 (by decide) iz_k li_0 (fun c3909 => ?_) (fun c3909 => absurd c3909 (by omega))
    refine lv_iconst (v := 0) hx hb dX12_isPlace_26 (by decide) ?_
    exact th_retz C (by have hfin := li_0; omega) (by have hfin := li_0; omega) dX12_isPlace_27

set_option maxHeartbeats 4000000 in
set_option maxRecDepth 100000 in
theorem t_X12_isStation {l : Launch} {D : va_G} {dA : Nat → ClassId} {K : Kmap} {V : Vmap} {sz : Nat} {x : Nat} {k : Int32} {k_i : Int} (iz_k : k.toInt = k_i) (hp0 : K x = some (0, 11)) (hp1 : V x 10 = .int 0) : Met l yX12_isStation (wsOf yX12_isStation cX12_isStation 2 (some .boolean)) { frames := 1, cells := 0, slots := 0, locals := 22 } (PC D dA K V sz [.ref x, .int k]) (PQi (fun r => (r.toInt = 0))) 0 0 noFree := by
  refine th_body (by decide +kernel) (Nat.le_of_ble_eq_true rfl) (fun pZ eZ sZ mZ belowZ methZ cZ C hR hsz hnm ls hl => ?_)
  have C : CX pZ sZ mZ [.ref x, .int k].toArray methZ cZ cX12_isStation 2 (some .boolean) RX12 D dA := C
  have hx := C.1; have hb := C.2.1
  have hl : lv_has ls 2 [(0, .ref x), (1, .int k)] := hl
  subst hsz
  have hS : ST D dA K sZ.heap K V sZ.heap [] := ST.rf hR
  have r_k := th_rng k; rw [iz_k] at r_k
  refine lv_aload_n hx hb dX12_isStation_0 rfl (lv_at hl 0 rfl) ?_
  refine lv_iload_n hx hb dX12_isStation_1 rfl (lv_at hl 1 rfl) ?_
  refine lv_iconst (v := 1) hx hb dX12_isStation_2 (by decide) ?_
  refine th_goi (th_runV (As := [.int k, .int 1]) (rest := []) C hS.1 (RX12, TX12, 151) rfl gV_RX12_399 hp0 (t_X12_isPlace iz_k li_1 hp0 hp1) hl rfl rfl rfl rfl ⟨Nat.le_of_ble_eq_true rfl, Nat.le_of_ble_eq_true rfl⟩ (Nat.le_of_ble_eq_true rfl) ⟨Nat.le_of_ble_eq_true rfl, Nat.le_of_ble_eq_true rfl⟩ dX12_isStation_3) (fun r3910 hq3911 => ?_)
  exact th_retz C (by omega) (by omega) dX12_isStation_6

set_option maxHeartbeats 4000000 in
set_option maxRecDepth 100000 in
theorem t_X12_stands {l : Launch} {D : va_G} {dA : Nat → ClassId} {K : Kmap} {V : Vmap} {sz : Nat} {x : Nat} {k : Int32} {k_i : Int} (iz_k : k.toInt = k_i) (hp0 : K x = some (0, 11)) (hp1 : V x 10 = .int 0) : Met l yX12_stands (wsOf yX12_stands cX12_stands 2 (some .boolean)) { frames := 2, cells := 0, slots := 0, locals := 43 } (PC D dA K V sz [.ref x, .int k]) (PQi (fun r => (r.toInt = 0))) 0 0 noFree := by
  refine th_body (by decide +kernel) (Nat.le_of_ble_eq_true rfl) (fun pZ eZ sZ mZ belowZ methZ cZ C hR hsz hnm ls hl => ?_)
  have C : CX pZ sZ mZ [.ref x, .int k].toArray methZ cZ cX12_stands 2 (some .boolean) RX12 D dA := C
  have hx := C.1; have hb := C.2.1
  have hl : lv_has ls 2 [(0, .ref x), (1, .int k)] := hl
  subst hsz
  have hS : ST D dA K sZ.heap K V sZ.heap [] := ST.rf hR
  have r_k := th_rng k; rw [iz_k] at r_k
  refine lv_aload_n hx hb dX12_stands_0 rfl (lv_at hl 0 rfl) ?_
  refine lv_iload_n hx hb dX12_stands_1 rfl (lv_at hl 1 rfl) ?_
  refine th_goi (th_runV (As := [.int k]) (rest := []) C hS.1 (RX12, TX12, 151) rfl gV_RX12_403 hp0 (t_X12_isStation iz_k hp0 hp1) hl rfl rfl rfl rfl ⟨Nat.le_of_ble_eq_true rfl, Nat.le_of_ble_eq_true rfl⟩ (Nat.le_of_ble_eq_true rfl) ⟨Nat.le_of_ble_eq_true rfl, Nat.le_of_ble_eq_true rfl⟩ dX12_stands_2) (fun r3912 hq3913 => ?_)
  refine th_if_eq (X := r3912.toInt) (tgt := 21) hx hb dX12_stands_5 (by decide) rfl (fun c3914 => ?_) (fun c3914 => absurd c3914 (by omega))
  refine lv_iconst (v := 0) hx hb dX12_stands_21 (by decide) ?_
  exact th_retz C (by have hfin := li_0; omega) (by have hfin := li_0; omega) dX12_stands_22

set_option maxHeartbeats 4000000 in
set_option maxRecDepth 100000 in
theorem t_X12_isText {l : Launch} {D : va_G} {dA : Nat → ClassId} {K : Kmap} {V : Vmap} {sz : Nat} {x : Nat} {i : Int32} {i_i : Int} (iz_i : i.toInt = i_i) (hp0 : K x = some (0, 11)) (hp1 : V x 47 = .int 0) : Met l yX12_isText (wsOf yX12_isText cX12_isText 2 (some .boolean)) { frames := 0, cells := 0, slots := 0, locals := 0 } (PC D dA K V sz [.ref x, .int i]) (PQi (fun r => (r.toInt = 0))) 0 0 noFree := by
  refine th_body (by decide +kernel) (Nat.le_of_ble_eq_true rfl) (fun pZ eZ sZ mZ belowZ methZ cZ C hR hsz hnm ls hl => ?_)
  have C : CX pZ sZ mZ [.ref x, .int i].toArray methZ cZ cX12_isText 2 (some .boolean) RX12 D dA := C
  have hx := C.1; have hb := C.2.1
  have hl : lv_has ls 2 [(0, .ref x), (1, .int i)] := hl
  subst hsz
  have hS : ST D dA K sZ.heap K V sZ.heap [] := ST.rf hR
  have r_i := th_rng i; rw [iz_i] at r_i
  refine lv_iload_n hx hb dX12_isText_0 rfl (lv_at hl 1 rfl) ?_
  refine th_if_lt (X := i_i) (tgt := 16) hx hb dX12_isText_1 (by decide) iz_i (fun c3915 => ?_) (fun c3915 => ?_)
  · refine lv_iconst (v := 0) hx hb dX12_isText_16 (by decide) ?_
    exact th_retz C (by have hfin := li_0; omega) (by have hfin := li_0; omega) dX12_isText_17
  · refine lv_iload_n hx hb dX12_isText_4 rfl (lv_at hl 1 rfl) ?_
    refine lv_aload_n hx hb dX12_isText_5 rfl (lv_at hl 0 rfl) ?_
    refine th_get C hS.1 hp0 fl_RX12_535 hp1 dX12_isText_6 ?_
    refine th_icmp_ge (X := i_i) (Y := 0) (tgt := 16) hx hb dX12_isText_9 (by decide) iz_i li_0 (fun c3916 => ?_) (fun c3916 => absurd c3916 (by omega))
    refine lv_iconst (v := 0) hx hb dX12_isText_16 (by decide) ?_
    exact th_retz C (by have hfin := li_0; omega) (by have hfin := li_0; omega) dX12_isText_17

set_option maxHeartbeats 4000000 in
set_option maxRecDepth 100000 in
theorem t_X12_isWork {l : Launch} {D : va_G} {dA : Nat → ClassId} {K : Kmap} {V : Vmap} {sz : Nat} {x : Nat} {w : Int32} {w_i : Int} (iz_w : w.toInt = w_i) (hp0 : K x = some (0, 11)) (hp1 : V x 66 = .int 0) : Met l yX12_isWork (wsOf yX12_isWork cX12_isWork 2 (some .boolean)) { frames := 0, cells := 0, slots := 0, locals := 0 } (PC D dA K V sz [.ref x, .int w]) (PQi (fun r => (r.toInt = 0))) 0 0 noFree := by
  refine th_body (by decide +kernel) (Nat.le_of_ble_eq_true rfl) (fun pZ eZ sZ mZ belowZ methZ cZ C hR hsz hnm ls hl => ?_)
  have C : CX pZ sZ mZ [.ref x, .int w].toArray methZ cZ cX12_isWork 2 (some .boolean) RX12 D dA := C
  have hx := C.1; have hb := C.2.1
  have hl : lv_has ls 2 [(0, .ref x), (1, .int w)] := hl
  subst hsz
  have hS : ST D dA K sZ.heap K V sZ.heap [] := ST.rf hR
  have r_w := th_rng w; rw [iz_w] at r_w
  refine lv_iload_n hx hb dX12_isWork_0 rfl (lv_at hl 1 rfl) ?_
  refine th_if_lt (X := w_i) (tgt := 16) hx hb dX12_isWork_1 (by decide) iz_w (fun c3917 => ?_) (fun c3917 => ?_)
  · refine lv_iconst (v := 0) hx hb dX12_isWork_16 (by decide) ?_
    exact th_retz C (by have hfin := li_0; omega) (by have hfin := li_0; omega) dX12_isWork_17
  · refine lv_iload_n hx hb dX12_isWork_4 rfl (lv_at hl 1 rfl) ?_
    refine lv_aload_n hx hb dX12_isWork_5 rfl (lv_at hl 0 rfl) ?_
    refine th_get C hS.1 hp0 fl_RX12_378 hp1 dX12_isWork_6 ?_
    refine th_icmp_ge (X := w_i) (Y := 0) (tgt := 16) hx hb dX12_isWork_9 (by decide) iz_w li_0 (fun c3918 => ?_) (fun c3918 => absurd c3918 (by omega))
    refine lv_iconst (v := 0) hx hb dX12_isWork_16 (by decide) ?_
    exact th_retz C (by have hfin := li_0; omega) (by have hfin := li_0; omega) dX12_isWork_17

set_option maxHeartbeats 4000000 in
set_option maxRecDepth 100000 in
theorem t_X12_isShip {l : Launch} {D : va_G} {dA : Nat → ClassId} {K : Kmap} {V : Vmap} {sz : Nat} {x : Nat} {sh1 : Int32} {sh1_i : Int} (iz_sh1 : sh1.toInt = sh1_i) (hp0 : K x = some (0, 11)) (hp1 : V x 91 = .int 0) : Met l yX12_isShip (wsOf yX12_isShip cX12_isShip 2 (some .boolean)) { frames := 0, cells := 0, slots := 0, locals := 0 } (PC D dA K V sz [.ref x, .int sh1]) (PQi (fun r => (r.toInt = 0))) 0 0 noFree := by
  refine th_body (by decide +kernel) (Nat.le_of_ble_eq_true rfl) (fun pZ eZ sZ mZ belowZ methZ cZ C hR hsz hnm ls hl => ?_)
  have C : CX pZ sZ mZ [.ref x, .int sh1].toArray methZ cZ cX12_isShip 2 (some .boolean) RX12 D dA := C
  have hx := C.1; have hb := C.2.1
  have hl : lv_has ls 2 [(0, .ref x), (1, .int sh1)] := hl
  subst hsz
  have hS : ST D dA K sZ.heap K V sZ.heap [] := ST.rf hR
  have r_sh1 := th_rng sh1; rw [iz_sh1] at r_sh1
  refine lv_iload_n hx hb dX12_isShip_0 rfl (lv_at hl 1 rfl) ?_
  refine th_if_lt (X := sh1_i) (tgt := 16) hx hb dX12_isShip_1 (by decide) iz_sh1 (fun c3919 => ?_) (fun c3919 => ?_)
  · refine lv_iconst (v := 0) hx hb dX12_isShip_16 (by decide) ?_
    exact th_retz C (by have hfin := li_0; omega) (by have hfin := li_0; omega) dX12_isShip_17
  · refine lv_iload_n hx hb dX12_isShip_4 rfl (lv_at hl 1 rfl) ?_
    refine lv_aload_n hx hb dX12_isShip_5 rfl (lv_at hl 0 rfl) ?_
    refine th_get C hS.1 hp0 fl_RX12_612 hp1 dX12_isShip_6 ?_
    refine th_icmp_ge (X := sh1_i) (Y := 0) (tgt := 16) hx hb dX12_isShip_9 (by decide) iz_sh1 li_0 (fun c3920 => ?_) (fun c3920 => absurd c3920 (by omega))
    refine lv_iconst (v := 0) hx hb dX12_isShip_16 (by decide) ?_
    exact th_retz C (by have hfin := li_0; omega) (by have hfin := li_0; omega) dX12_isShip_17

set_option maxHeartbeats 4000000 in
set_option maxRecDepth 100000 in
theorem t_X12_isWord {l : Launch} {D : va_G} {dA : Nat → ClassId} {K : Kmap} {V : Vmap} {sz : Nat} {x : Nat} {w : Int32} {w_i : Int} (iz_w : w.toInt = w_i) (hp0 : K x = some (0, 11)) (hp1 : V x 133 = .int 0) : Met l yX12_isWord (wsOf yX12_isWord cX12_isWord 2 (some .boolean)) { frames := 0, cells := 0, slots := 0, locals := 0 } (PC D dA K V sz [.ref x, .int w]) (PQi (fun r => (r.toInt = 0))) 0 0 noFree := by
  refine th_body (by decide +kernel) (Nat.le_of_ble_eq_true rfl) (fun pZ eZ sZ mZ belowZ methZ cZ C hR hsz hnm ls hl => ?_)
  have C : CX pZ sZ mZ [.ref x, .int w].toArray methZ cZ cX12_isWord 2 (some .boolean) RX12 D dA := C
  have hx := C.1; have hb := C.2.1
  have hl : lv_has ls 2 [(0, .ref x), (1, .int w)] := hl
  subst hsz
  have hS : ST D dA K sZ.heap K V sZ.heap [] := ST.rf hR
  have r_w := th_rng w; rw [iz_w] at r_w
  refine lv_iload_n hx hb dX12_isWord_0 rfl (lv_at hl 1 rfl) ?_
  refine th_if_lt (X := w_i) (tgt := 16) hx hb dX12_isWord_1 (by decide) iz_w (fun c3921 => ?_) (fun c3921 => ?_)
  · refine lv_iconst (v := 0) hx hb dX12_isWord_16 (by decide) ?_
    exact th_retz C (by have hfin := li_0; omega) (by have hfin := li_0; omega) dX12_isWord_17
  · refine lv_iload_n hx hb dX12_isWord_4 rfl (lv_at hl 1 rfl) ?_
    refine lv_aload_n hx hb dX12_isWord_5 rfl (lv_at hl 0 rfl) ?_
    refine th_get C hS.1 hp0 fl_RX12_718 hp1 dX12_isWord_6 ?_
    refine th_icmp_ge (X := w_i) (Y := 0) (tgt := 16) hx hb dX12_isWord_9 (by decide) iz_w li_0 (fun c3922 => ?_) (fun c3922 => absurd c3922 (by omega))
    refine lv_iconst (v := 0) hx hb dX12_isWord_16 (by decide) ?_
    exact th_retz C (by have hfin := li_0; omega) (by have hfin := li_0; omega) dX12_isWord_17

set_option maxHeartbeats 4000000 in
set_option maxRecDepth 100000 in
theorem t_X12_isClause {l : Launch} {D : va_G} {dA : Nat → ClassId} {K : Kmap} {V : Vmap} {sz : Nat} {x : Nat} {i j : Int32} {i_i j_i : Int} (iz_i : i.toInt = i_i) (iz_j : j.toInt = j_i) (hp0 : K x = some (0, 11)) (hp1 : V x 47 = .int 0) : Met l yX12_isClause (wsOf yX12_isClause cX12_isClause 3 (some .boolean)) { frames := 1, cells := 0, slots := 0, locals := 21 } (PC D dA K V sz [.ref x, .int i, .int j]) (PQi (fun r => (r.toInt = 0))) 0 0 noFree := by
  refine th_body (by decide +kernel) (Nat.le_of_ble_eq_true rfl) (fun pZ eZ sZ mZ belowZ methZ cZ C hR hsz hnm ls hl => ?_)
  have C : CX pZ sZ mZ [.ref x, .int i, .int j].toArray methZ cZ cX12_isClause 3 (some .boolean) RX12 D dA := C
  have hx := C.1; have hb := C.2.1
  have hl : lv_has ls 3 [(0, .ref x), (1, .int i), (2, .int j)] := hl
  subst hsz
  have hS : ST D dA K sZ.heap K V sZ.heap [] := ST.rf hR
  have r_i := th_rng i; rw [iz_i] at r_i
  have r_j := th_rng j; rw [iz_j] at r_j
  refine lv_aload_n hx hb dX12_isClause_0 rfl (lv_at hl 0 rfl) ?_
  refine lv_iload_n hx hb dX12_isClause_1 rfl (lv_at hl 1 rfl) ?_
  refine th_goi (th_runV (As := [.int i]) (rest := []) C hS.1 (RX12, TX12, 151) rfl gV_RX12_541 hp0 (t_X12_isText iz_i hp0 hp1) hl rfl rfl rfl rfl ⟨Nat.le_of_ble_eq_true rfl, Nat.le_of_ble_eq_true rfl⟩ (Nat.le_of_ble_eq_true rfl) ⟨Nat.le_of_ble_eq_true rfl, Nat.le_of_ble_eq_true rfl⟩ dX12_isClause_2) (fun r3923 hq3924 => ?_)
  refine th_if_eq (X := r3923.toInt) (tgt := 26) hx hb dX12_isClause_5 (by decide) rfl (fun c3925 => ?_) (fun c3925 => absurd c3925 (by omega))
  refine lv_iconst (v := 0) hx hb dX12_isClause_26 (by decide) ?_
  exact th_retz C (by have hfin := li_0; omega) (by have hfin := li_0; omega) dX12_isClause_27
