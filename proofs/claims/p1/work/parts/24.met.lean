set_option maxHeartbeats 400000 in
set_option maxRecDepth 100000 in
theorem t_X12_drill {l : Launch} {D : va_G} {dA : Nat → ClassId} {K : Kmap} {V : Vmap} {sz : Nat} {x : Nat} {k w : Int32} {k_i w_i : Int} (iz_k : k.toInt = k_i) (iz_w : w.toInt = w_i) (F : FM K V x) : Met l yX12_drill (wsOf yX12_drill cX12_drill 3 (some .int)) { frames := 1, cells := 0, slots := 0, locals := 22 } (PC D dA K V sz [.ref x, .int k, .int w]) (PQi (fun r => (r.toInt = (-1)))) 0 0 noFree := by
  refine th_body (by decide +kernel) (Nat.le_of_ble_eq_true rfl) (fun pZ eZ sZ mZ belowZ methZ cZ C hR hsz hnm ls hl => ?_)
  have C : CX pZ sZ mZ [.ref x, .int k, .int w].toArray methZ cZ cX12_drill 3 (some .int) RX12 D dA := C
  have hx := C.1; have hb := C.2.1
  have hl : lv_has ls 3 [(0, .ref x), (1, .int k), (2, .int w)] := hl
  subst hsz
  have hS : ST D dA K sZ.heap K V sZ.heap [] := ST.rf hR
  have r_k := th_rng k; rw [iz_k] at r_k
  have r_w := th_rng w; rw [iz_w] at r_w
  have F0 := F
  refine lv_aload_n hx hb dX12_drill_0 rfl (lv_at hl 0 rfl) ?_
  refine lv_iload_n hx hb dX12_drill_1 rfl (lv_at hl 1 rfl) ?_
  refine lv_iconst (v := 4) hx hb dX12_drill_2 (by decide) ?_
  refine th_goi (th_runV (As := [.int k, .int 4]) (rest := []) C hS.1 (RX12, TX12, 151) rfl gV_RX12_399 F.1 (t_X12_isPlace iz_k li_4 F.1 (F.2.2.1 (10, 0) (by decide))) hl rfl rfl rfl rfl ⟨Nat.le_of_ble_eq_true rfl, Nat.le_of_ble_eq_true rfl⟩ (Nat.le_of_ble_eq_true rfl) ⟨Nat.le_of_ble_eq_true rfl, Nat.le_of_ble_eq_true rfl⟩ dX12_drill_3) (fun r4351 hq4352 => ?_)
  refine th_if_eq (X := r4351.toInt) (tgt := 51) hx hb dX12_drill_6 (by decide) rfl (fun c4353 => ?_) (fun c4353 => absurd c4353 (by omega))
  refine lv_iconst (v := (-1)) hx hb dX12_drill_51 (by decide) ?_
  exact th_reti C (by have hfin := li_n1; omega) dX12_drill_52

set_option maxHeartbeats 400000 in
set_option maxRecDepth 100000 in
theorem t_X12_speed {l : Launch} {D : va_G} {dA : Nat → ClassId} {K : Kmap} {V : Vmap} {sz : Nat} {x : Nat} {pt n : Int32} {pt_i n_i : Int} (iz_pt : pt.toInt = pt_i) (iz_n : n.toInt = n_i) (F : FM K V x) : Met l yX12_speed (wsOf yX12_speed cX12_speed 3 (some .boolean)) { frames := 1, cells := 0, slots := 0, locals := 22 } (PC D dA K V sz [.ref x, .int pt, .int n]) (HQi D dA K (fun r K1 V1 => ((((pt_i = (-1) ∧ (0 ≤ n_i ∧ n_i ≤ 1000)) ∨ ((0 ≤ pt_i ∧ pt_i ≤ 9) ∧ (1 ≤ n_i ∧ n_i ≤ 200))) ∧ r.toInt = 1) ∨ (((pt_i ≠ (-1) ∨ (0 > n_i ∨ n_i > 1000)) ∧ ((0 > pt_i ∨ pt_i > 9) ∨ (1 > n_i ∨ n_i > 200))) ∧ r.toInt = 0)))) 0 0 (AK K sz) := by
  refine th_body (by decide +kernel) (Nat.le_of_ble_eq_true rfl) (fun pZ eZ sZ mZ belowZ methZ cZ C hR hsz hnm ls hl => ?_)
  have C : CX pZ sZ mZ [.ref x, .int pt, .int n].toArray methZ cZ cX12_speed 3 (some .boolean) RX12 D dA := C
  have hx := C.1; have hb := C.2.1
  have hl : lv_has ls 3 [(0, .ref x), (1, .int pt), (2, .int n)] := hl
  subst hsz
  have hS : ST D dA K sZ.heap K V sZ.heap [] := ST.rf hR
  have r_pt := th_rng pt; rw [iz_pt] at r_pt
  have r_n := th_rng n; rw [iz_n] at r_n
  have F0 := F
  obtain ⟨f127, hv_f127, hk_f127⟩ := F.2.1 (127, (1, 10)) (by decide)
  refine lv_iload_n hx hb dX12_speed_0 rfl (lv_at hl 1 rfl) ?_
  refine lv_iconst (v := (-1)) hx hb dX12_speed_1 (by decide) ?_
  refine th_icmp_ne (X := pt_i) (Y := (-1)) (tgt := 23) hx hb dX12_speed_2 (by decide) iz_pt li_n1 (fun c4354 => ?_) (fun c4354 => ?_)
  · refine lv_iload_n hx hb dX12_speed_23 rfl (lv_at hl 1 rfl) ?_
    refine lv_iconst (v := 0) hx hb dX12_speed_24 (by decide) ?_
    refine lv_bipush (v := 9) hx hb dX12_speed_25 (by decide) ?_
    refine th_goi (th_runS (As := [.int pt, .int 0, .int 9]) (rest := []) C hS.1 gS_RX12_371 (t_X12_in iz_pt li_0 li_9) hl rfl rfl rfl rfl ⟨Nat.le_of_ble_eq_true rfl, Nat.le_of_ble_eq_true rfl⟩ (Nat.le_of_ble_eq_true rfl) ⟨Nat.le_of_ble_eq_true rfl, Nat.le_of_ble_eq_true rfl⟩ dX12_speed_27) (fun r4355 hq4356 => ?_)
    refine th_if_eq (X := r4355.toInt) (tgt := 44) hx hb dX12_speed_30 (by decide) rfl (fun c4357 => ?_) (fun c4357 => ?_)
    · replace hq4356 := Or.resolve_left hq4356 (fun h => absurd h.2 (by omega))
      refine lv_iconst (v := 0) hx hb dX12_speed_44 (by decide) ?_
      exact th_retzH (post := fun r K1 V1 => ((((pt_i = (-1) ∧ (0 ≤ n_i ∧ n_i ≤ 1000)) ∨ ((0 ≤ pt_i ∧ pt_i ≤ 9) ∧ (1 ≤ n_i ∧ n_i ≤ 200))) ∧ r.toInt = 1) ∨ (((pt_i ≠ (-1) ∨ (0 > n_i ∨ n_i > 1000)) ∧ ((0 > pt_i ∨ pt_i > 9) ∨ (1 > n_i ∨ n_i > 200))) ∧ r.toInt = 0))) (cells := 0) (slots := 0) (mc := 0) (ms := 0) C hS (by have hfin := li_0; omega) (Or.inr (⟨by omega, li_0⟩)) (Nat.le_of_ble_eq_true rfl) (Nat.le_of_ble_eq_true rfl) dX12_speed_45
    · replace hq4356 := Or.resolve_right hq4356 (fun h => absurd h.2 (by omega))
      refine lv_iload_n hx hb dX12_speed_33 rfl (lv_at hl 2 rfl) ?_
      refine lv_iconst (v := 1) hx hb dX12_speed_34 (by decide) ?_
      refine lv_sipush (v := 200) hx hb dX12_speed_35 (by decide) ?_
      refine th_goi (th_runS (As := [.int n, .int 1, .int 200]) (rest := []) C hS.1 gS_RX12_371 (t_X12_in iz_n li_1 li_200) hl rfl rfl rfl rfl ⟨Nat.le_of_ble_eq_true rfl, Nat.le_of_ble_eq_true rfl⟩ (Nat.le_of_ble_eq_true rfl) ⟨Nat.le_of_ble_eq_true rfl, Nat.le_of_ble_eq_true rfl⟩ dX12_speed_38) (fun r4358 hq4359 => ?_)
      refine th_if_ne (X := r4358.toInt) (tgt := 46) hx hb dX12_speed_41 (by decide) rfl (fun c4360 => ?_) (fun c4360 => ?_)
      · replace hq4359 := Or.resolve_right hq4359 (fun h => absurd h.2 (by omega))
        refine lv_aload_n hx hb dX12_speed_46 rfl (lv_at hl 0 rfl) ?_
        refine th_get C hS.1 F.1 fl_RX12_301 hv_f127 dX12_speed_47 ?_
        refine lv_iload_n hx hb dX12_speed_50 rfl (lv_at hl 1 rfl) ?_
        refine lv_iload_n hx hb dX12_speed_51 rfl (lv_at hl 2 rfl) ?_
        refine th_iast C hS hk_f127 (by rw [iz_pt]; omega) (by rw [iz_pt]; omega) dX12_speed_52 (fun V4361 H locs1 hV4362 hS => ?_)
        refine lv_iconst (v := 1) hx hb dX12_speed_53 (by decide) ?_
        exact th_retzH (post := fun r K1 V1 => ((((pt_i = (-1) ∧ (0 ≤ n_i ∧ n_i ≤ 1000)) ∨ ((0 ≤ pt_i ∧ pt_i ≤ 9) ∧ (1 ≤ n_i ∧ n_i ≤ 200))) ∧ r.toInt = 1) ∨ (((pt_i ≠ (-1) ∨ (0 > n_i ∨ n_i > 1000)) ∧ ((0 > pt_i ∨ pt_i > 9) ∨ (1 > n_i ∨ n_i > 200))) ∧ r.toInt = 0))) (cells := 0) (slots := 0) (mc := 0) (ms := 0) C hS (by have hfin := li_1; omega) (Or.inl ⟨by omega, li_1⟩) (Nat.le_of_ble_eq_true rfl) (Nat.le_of_ble_eq_true rfl) dX12_speed_54
      · replace hq4359 := Or.resolve_left hq4359 (fun h => absurd h.2 (by omega))
        refine lv_iconst (v := 0) hx hb dX12_speed_44 (by decide) ?_
        exact th_retzH (post := fun r K1 V1 => ((((pt_i = (-1) ∧ (0 ≤ n_i ∧ n_i ≤ 1000)) ∨ ((0 ≤ pt_i ∧ pt_i ≤ 9) ∧ (1 ≤ n_i ∧ n_i ≤ 200))) ∧ r.toInt = 1) ∨ (((pt_i ≠ (-1) ∨ (0 > n_i ∨ n_i > 1000)) ∧ ((0 > pt_i ∨ pt_i > 9) ∨ (1 > n_i ∨ n_i > 200))) ∧ r.toInt = 0))) (cells := 0) (slots := 0) (mc := 0) (ms := 0) C hS (by have hfin := li_0; omega) (Or.inr (⟨by omega, li_0⟩)) (Nat.le_of_ble_eq_true rfl) (Nat.le_of_ble_eq_true rfl) dX12_speed_45
  · refine lv_iload_n hx hb dX12_speed_5 rfl (lv_at hl 2 rfl) ?_
    refine lv_iconst (v := 0) hx hb dX12_speed_6 (by decide) ?_
    refine lv_sipush (v := 1000) hx hb dX12_speed_7 (by decide) ?_
    refine th_goi (th_runS (As := [.int n, .int 0, .int 1000]) (rest := []) C hS.1 gS_RX12_371 (t_X12_in iz_n li_0 li_1000) hl rfl rfl rfl rfl ⟨Nat.le_of_ble_eq_true rfl, Nat.le_of_ble_eq_true rfl⟩ (Nat.le_of_ble_eq_true rfl) ⟨Nat.le_of_ble_eq_true rfl, Nat.le_of_ble_eq_true rfl⟩ dX12_speed_10) (fun r4363 hq4364 => ?_)
    refine th_if_eq (X := r4363.toInt) (tgt := 23) hx hb dX12_speed_13 (by decide) rfl (fun c4365 => ?_) (fun c4365 => ?_)
    · replace hq4364 := Or.resolve_left hq4364 (fun h => absurd h.2 (by omega))
      refine lv_iload_n hx hb dX12_speed_23 rfl (lv_at hl 1 rfl) ?_
      refine lv_iconst (v := 0) hx hb dX12_speed_24 (by decide) ?_
      refine lv_bipush (v := 9) hx hb dX12_speed_25 (by decide) ?_
      refine th_goi (th_runS (As := [.int pt, .int 0, .int 9]) (rest := []) C hS.1 gS_RX12_371 (t_X12_in iz_pt li_0 li_9) hl rfl rfl rfl rfl ⟨Nat.le_of_ble_eq_true rfl, Nat.le_of_ble_eq_true rfl⟩ (Nat.le_of_ble_eq_true rfl) ⟨Nat.le_of_ble_eq_true rfl, Nat.le_of_ble_eq_true rfl⟩ dX12_speed_27) (fun r4366 hq4367 => ?_)
      refine th_if_eq (X := r4366.toInt) (tgt := 44) hx hb dX12_speed_30 (by decide) rfl (fun c4368 => ?_) (fun c4368 => absurd c4368 (by omega))
      refine lv_iconst (v := 0) hx hb dX12_speed_44 (by decide) ?_
      exact th_retzH (post := fun r K1 V1 => ((((pt_i = (-1) ∧ (0 ≤ n_i ∧ n_i ≤ 1000)) ∨ ((0 ≤ pt_i ∧ pt_i ≤ 9) ∧ (1 ≤ n_i ∧ n_i ≤ 200))) ∧ r.toInt = 1) ∨ (((pt_i ≠ (-1) ∨ (0 > n_i ∨ n_i > 1000)) ∧ ((0 > pt_i ∨ pt_i > 9) ∨ (1 > n_i ∨ n_i > 200))) ∧ r.toInt = 0))) (cells := 0) (slots := 0) (mc := 0) (ms := 0) C hS (by have hfin := li_0; omega) (Or.inr (⟨by omega, li_0⟩)) (Nat.le_of_ble_eq_true rfl) (Nat.le_of_ble_eq_true rfl) dX12_speed_45
    · replace hq4364 := Or.resolve_right hq4364 (fun h => absurd h.2 (by omega))
      refine lv_aload_n hx hb dX12_speed_16 rfl (lv_at hl 0 rfl) ?_
      refine lv_iload_n hx hb dX12_speed_17 rfl (lv_at hl 2 rfl) ?_
      refine th_put C hS F.1 fp_RX12_280 rfl rfl dX12_speed_18 (fun V4369 H locs1 hV4370 hS => ?_)
      refine lv_iconst (v := 1) hx hb dX12_speed_21 (by decide) ?_
      exact th_retzH (post := fun r K1 V1 => ((((pt_i = (-1) ∧ (0 ≤ n_i ∧ n_i ≤ 1000)) ∨ ((0 ≤ pt_i ∧ pt_i ≤ 9) ∧ (1 ≤ n_i ∧ n_i ≤ 200))) ∧ r.toInt = 1) ∨ (((pt_i ≠ (-1) ∨ (0 > n_i ∨ n_i > 1000)) ∧ ((0 > pt_i ∨ pt_i > 9) ∨ (1 > n_i ∨ n_i > 200))) ∧ r.toInt = 0))) (cells := 0) (slots := 0) (mc := 0) (ms := 0) C hS (by have hfin := li_1; omega) (Or.inl ⟨by omega, li_1⟩) (Nat.le_of_ble_eq_true rfl) (Nat.le_of_ble_eq_true rfl) dX12_speed_22

set_option maxHeartbeats 400000 in
set_option maxRecDepth 100000 in
theorem t_X12_birds {l : Launch} {D : va_G} {dA : Nat → ClassId} {K : Kmap} {V : Vmap} {sz : Nat} {x : Nat} {k yr n : Int32} {k_i yr_i n_i : Int} (iz_k : k.toInt = k_i) (iz_yr : yr.toInt = yr_i) (iz_n : n.toInt = n_i) (F : FM K V x) : Met l yX12_birds (wsOf yX12_birds cX12_birds 4 (some .boolean)) { frames := 1, cells := 0, slots := 0, locals := 22 } (PC D dA K V sz [.ref x, .int k, .int yr, .int n]) (PQi (fun r => (r.toInt = 0))) 0 0 noFree := by
  refine th_body (by decide +kernel) (Nat.le_of_ble_eq_true rfl) (fun pZ eZ sZ mZ belowZ methZ cZ C hR hsz hnm ls hl => ?_)
  have C : CX pZ sZ mZ [.ref x, .int k, .int yr, .int n].toArray methZ cZ cX12_birds 4 (some .boolean) RX12 D dA := C
  have hx := C.1; have hb := C.2.1
  have hl : lv_has ls 4 [(0, .ref x), (1, .int k), (2, .int yr), (3, .int n)] := hl
  subst hsz
  have hS : ST D dA K sZ.heap K V sZ.heap [] := ST.rf hR
  have r_k := th_rng k; rw [iz_k] at r_k
  have r_yr := th_rng yr; rw [iz_yr] at r_yr
  have r_n := th_rng n; rw [iz_n] at r_n
  have F0 := F
  refine lv_aload_n hx hb dX12_birds_0 rfl (lv_at hl 0 rfl) ?_
  refine lv_iload_n hx hb dX12_birds_1 rfl (lv_at hl 1 rfl) ?_
  refine lv_iconst (v := 5) hx hb dX12_birds_2 (by decide) ?_
  refine th_goi (th_runV (As := [.int k, .int 5]) (rest := []) C hS.1 (RX12, TX12, 151) rfl gV_RX12_399 F.1 (t_X12_isPlace iz_k li_5 F.1 (F.2.2.1 (10, 0) (by decide))) hl rfl rfl rfl rfl ⟨Nat.le_of_ble_eq_true rfl, Nat.le_of_ble_eq_true rfl⟩ (Nat.le_of_ble_eq_true rfl) ⟨Nat.le_of_ble_eq_true rfl, Nat.le_of_ble_eq_true rfl⟩ dX12_birds_3) (fun r4371 hq4372 => ?_)
  refine th_if_eq (X := r4371.toInt) (tgt := 30) hx hb dX12_birds_6 (by decide) rfl (fun c4373 => ?_) (fun c4373 => absurd c4373 (by omega))
  refine lv_iconst (v := 0) hx hb dX12_birds_30 (by decide) ?_
  exact th_retz C (by have hfin := li_0; omega) (by have hfin := li_0; omega) dX12_birds_31

set_option maxHeartbeats 400000 in
set_option maxRecDepth 100000 in
theorem t_X12_loss {l : Launch} {D : va_G} {dA : Nat → ClassId} {K : Kmap} {V : Vmap} {sz : Nat} {x : Nat} {k a b e1 wh : Int32} {k_i a_i b_i e1_i wh_i : Int} (iz_k : k.toInt = k_i) (iz_a : a.toInt = a_i) (iz_b : b.toInt = b_i) (iz_e1 : e1.toInt = e1_i) (iz_wh : wh.toInt = wh_i) (F : FM K V x) : Met l yX12_loss (wsOf yX12_loss cX12_loss 9 (some .int)) { frames := 1, cells := 0, slots := 0, locals := 22 } (PC D dA K V sz [.ref x, .int k, .int a, .int b, .int e1, .int wh]) (PQi (fun r => (r.toInt = (-1000000)))) 0 0 noFree := by
  refine th_body (by decide +kernel) (Nat.le_of_ble_eq_true rfl) (fun pZ eZ sZ mZ belowZ methZ cZ C hR hsz hnm ls hl => ?_)
  have C : CX pZ sZ mZ [.ref x, .int k, .int a, .int b, .int e1, .int wh].toArray methZ cZ cX12_loss 9 (some .int) RX12 D dA := C
  have hx := C.1; have hb := C.2.1
  have hl : lv_has ls 9 [(0, .ref x), (1, .int k), (2, .int a), (3, .int b), (4, .int e1), (5, .int wh)] := hl
  subst hsz
  have hS : ST D dA K sZ.heap K V sZ.heap [] := ST.rf hR
  have r_k := th_rng k; rw [iz_k] at r_k
  have r_a := th_rng a; rw [iz_a] at r_a
  have r_b := th_rng b; rw [iz_b] at r_b
  have r_e1 := th_rng e1; rw [iz_e1] at r_e1
  have r_wh := th_rng wh; rw [iz_wh] at r_wh
  have F0 := F
  refine lv_aload_n hx hb dX12_loss_0 rfl (lv_at hl 0 rfl) ?_
  refine lv_iload_n hx hb dX12_loss_1 rfl (lv_at hl 1 rfl) ?_
  refine lv_iconst (v := 5) hx hb dX12_loss_2 (by decide) ?_
  refine th_goi (th_runV (As := [.int k, .int 5]) (rest := []) C hS.1 (RX12, TX12, 151) rfl gV_RX12_399 F.1 (t_X12_isPlace iz_k li_5 F.1 (F.2.2.1 (10, 0) (by decide))) hl rfl rfl rfl rfl ⟨Nat.le_of_ble_eq_true rfl, Nat.le_of_ble_eq_true rfl⟩ (Nat.le_of_ble_eq_true rfl) ⟨Nat.le_of_ble_eq_true rfl, Nat.le_of_ble_eq_true rfl⟩ dX12_loss_3) (fun r4374 hq4375 => ?_)
  refine th_if_eq (X := r4374.toInt) (tgt := 52) hx hb dX12_loss_6 (by decide) rfl (fun c4376 => ?_) (fun c4376 => absurd c4376 (by omega))
  refine lv_ldcw (v := (-1000000)) hx hb C.2.2.2.2.2.1 (C.2.2.2.2.2.2.1 _ gw_2322) dX12_loss_52 ?_
  exact th_reti C (by have hfin := li_n1000000; omega) dX12_loss_55

set_option maxHeartbeats 400000 in
set_option maxRecDepth 100000 in
theorem t_X12_noise {l : Launch} {D : va_G} {dA : Nat → ClassId} {K : Kmap} {V : Vmap} {sz : Nat} {x : Nat} {k yr : Int32} {k_i yr_i : Int} (iz_k : k.toInt = k_i) (iz_yr : yr.toInt = yr_i) (F : FM K V x) : Met l yX12_noise (wsOf yX12_noise cX12_noise 3 (some .int)) { frames := 1, cells := 0, slots := 0, locals := 22 } (PC D dA K V sz [.ref x, .int k, .int yr]) (PQi (fun r => (r.toInt = (-1)))) 0 0 noFree := by
  refine th_body (by decide +kernel) (Nat.le_of_ble_eq_true rfl) (fun pZ eZ sZ mZ belowZ methZ cZ C hR hsz hnm ls hl => ?_)
  have C : CX pZ sZ mZ [.ref x, .int k, .int yr].toArray methZ cZ cX12_noise 3 (some .int) RX12 D dA := C
  have hx := C.1; have hb := C.2.1
  have hl : lv_has ls 3 [(0, .ref x), (1, .int k), (2, .int yr)] := hl
  subst hsz
  have hS : ST D dA K sZ.heap K V sZ.heap [] := ST.rf hR
  have r_k := th_rng k; rw [iz_k] at r_k
  have r_yr := th_rng yr; rw [iz_yr] at r_yr
  have F0 := F
  refine lv_aload_n hx hb dX12_noise_0 rfl (lv_at hl 0 rfl) ?_
  refine lv_iload_n hx hb dX12_noise_1 rfl (lv_at hl 1 rfl) ?_
  refine lv_iconst (v := 5) hx hb dX12_noise_2 (by decide) ?_
  refine th_goi (th_runV (As := [.int k, .int 5]) (rest := []) C hS.1 (RX12, TX12, 151) rfl gV_RX12_399 F.1 (t_X12_isPlace iz_k li_5 F.1 (F.2.2.1 (10, 0) (by decide))) hl rfl rfl rfl rfl ⟨Nat.le_of_ble_eq_true rfl, Nat.le_of_ble_eq_true rfl⟩ (Nat.le_of_ble_eq_true rfl) ⟨Nat.le_of_ble_eq_true rfl, Nat.le_of_ble_eq_true rfl⟩ dX12_noise_3) (fun r4377 hq4378 => ?_)
  refine th_if_eq (X := r4377.toInt) (tgt := 33) hx hb dX12_noise_6 (by decide) rfl (fun c4379 => ?_) (fun c4379 => absurd c4379 (by omega))
  refine lv_iconst (v := (-1)) hx hb dX12_noise_33 (by decide) ?_
  exact th_reti C (by have hfin := li_n1; omega) dX12_noise_34

set_option maxHeartbeats 400000 in
set_option maxRecDepth 100000 in
theorem t_X12_caught {l : Launch} {D : va_G} {dA : Nat → ClassId} {K : Kmap} {V : Vmap} {sz : Nat} {x : Nat} {sh1 kd se1 tn dy : Int32} {sh1_i kd_i se1_i tn_i dy_i : Int} (iz_sh1 : sh1.toInt = sh1_i) (iz_kd : kd.toInt = kd_i) (iz_se1 : se1.toInt = se1_i) (iz_tn : tn.toInt = tn_i) (iz_dy : dy.toInt = dy_i) (F : FM K V x) : Met l yX12_caught (wsOf yX12_caught cX12_caught 6 (some .int)) { frames := 1, cells := 0, slots := 0, locals := 21 } (PC D dA K V sz [.ref x, .int sh1, .int kd, .int se1, .int tn, .int dy]) (PQi (fun r => (r.toInt = (-1)))) 0 0 noFree := by
  refine th_body (by decide +kernel) (Nat.le_of_ble_eq_true rfl) (fun pZ eZ sZ mZ belowZ methZ cZ C hR hsz hnm ls hl => ?_)
  have C : CX pZ sZ mZ [.ref x, .int sh1, .int kd, .int se1, .int tn, .int dy].toArray methZ cZ cX12_caught 6 (some .int) RX12 D dA := C
  have hx := C.1; have hb := C.2.1
  have hl : lv_has ls 6 [(0, .ref x), (1, .int sh1), (2, .int kd), (3, .int se1), (4, .int tn), (5, .int dy)] := hl
  subst hsz
  have hS : ST D dA K sZ.heap K V sZ.heap [] := ST.rf hR
  have r_sh1 := th_rng sh1; rw [iz_sh1] at r_sh1
  have r_kd := th_rng kd; rw [iz_kd] at r_kd
  have r_se1 := th_rng se1; rw [iz_se1] at r_se1
  have r_tn := th_rng tn; rw [iz_tn] at r_tn
  have r_dy := th_rng dy; rw [iz_dy] at r_dy
  have F0 := F
  refine lv_aload_n hx hb dX12_caught_0 rfl (lv_at hl 0 rfl) ?_
  refine lv_iload_n hx hb dX12_caught_1 rfl (lv_at hl 1 rfl) ?_
  refine th_goi (th_runV (As := [.int sh1]) (rest := []) C hS.1 (RX12, TX12, 151) rfl gV_RX12_618 F.1 (t_X12_isShip iz_sh1 F.1 (F.2.2.1 (91, 0) (by decide))) hl rfl rfl rfl rfl ⟨Nat.le_of_ble_eq_true rfl, Nat.le_of_ble_eq_true rfl⟩ (Nat.le_of_ble_eq_true rfl) ⟨Nat.le_of_ble_eq_true rfl, Nat.le_of_ble_eq_true rfl⟩ dX12_caught_2) (fun r4380 hq4381 => ?_)
  refine th_if_eq (X := r4380.toInt) (tgt := 59) hx hb dX12_caught_5 (by decide) rfl (fun c4382 => ?_) (fun c4382 => absurd c4382 (by omega))
  refine lv_iconst (v := (-1)) hx hb dX12_caught_59 (by decide) ?_
  exact th_reti C (by have hfin := li_n1; omega) dX12_caught_60

set_option maxHeartbeats 400000 in
set_option maxRecDepth 100000 in
theorem t_X12_over {l : Launch} {D : va_G} {dA : Nat → ClassId} {K : Kmap} {V : Vmap} {sz : Nat} {x : Nat} (F : FM K V x) : Met l yX12_over (wsOf yX12_over cX12_over 7 (some .int)) { frames := 0, cells := 0, slots := 0, locals := 0 } (PC D dA K V sz [.ref x]) (PQi (fun r => (r.toInt = (-1)))) 0 0 noFree := by
  refine th_body (by decide +kernel) (Nat.le_of_ble_eq_true rfl) (fun pZ eZ sZ mZ belowZ methZ cZ C hR hsz hnm ls hl => ?_)
  have C : CX pZ sZ mZ [.ref x].toArray methZ cZ cX12_over 7 (some .int) RX12 D dA := C
  have hx := C.1; have hb := C.2.1
  have hl : lv_has ls 7 [(0, .ref x)] := hl
  subst hsz
  have hS : ST D dA K sZ.heap K V sZ.heap [] := ST.rf hR
  have F0 := F
  refine lv_iconst (v := (-1)) hx hb dX12_over_0 (by decide) ?_
  refine lv_istore_n (lv' := [(1, .int (-1)), (0, .ref x)]) hx hb dX12_over_1 rfl hl (by decide) rfl (fun ls hl => ?_)
  refine lv_iconst (v := 0) hx hb dX12_over_2 (by decide) ?_
  refine lv_istore_n (lv' := [(2, .int 0), (1, .int (-1)), (0, .ref x)]) hx hb dX12_over_3 rfl hl (by decide) rfl (fun ls hl => ?_)
  refine lv_iload_n hx hb dX12_over_4 rfl (lv_at hl 0 rfl) ?_
  refine lv_aload_n hx hb dX12_over_5 rfl (lv_at hl 2 rfl) ?_
  refine th_get C hS.1 F.1 fl_RX12_709 (F.2.2.1 (120, 0) (by decide)) dX12_over_6 ?_
  refine th_icmp_ge (X := 0) (Y := 0) (tgt := 199) hx hb dX12_over_9 (by decide) li_0 li_0 (fun c4383 => ?_) (fun c4383 => absurd c4383 (by omega))
  refine lv_iload_n hx hb dX12_over_199 rfl (lv_at hl 1 rfl) ?_
  exact th_reti C (by have hfin := li_n1; omega) dX12_over_200

set_option maxHeartbeats 400000 in
set_option maxRecDepth 100000 in
theorem t_X12_doubt {l : Launch} {D : va_G} {dA : Nat → ClassId} {K : Kmap} {V : Vmap} {sz : Nat} {x : Nat} {wh : Int32} {wh_i : Int} (iz_wh : wh.toInt = wh_i) (F : FM K V x) : Met l yX12_doubt (wsOf yX12_doubt cX12_doubt 4 (some .int)) { frames := 1, cells := 0, slots := 0, locals := 22 } (PC D dA K V sz [.ref x, .int wh]) (PQi (fun r => (r.toInt = (-1)))) 0 0 noFree := by
  refine th_body (by decide +kernel) (Nat.le_of_ble_eq_true rfl) (fun pZ eZ sZ mZ belowZ methZ cZ C hR hsz hnm ls hl => ?_)
  have C : CX pZ sZ mZ [.ref x, .int wh].toArray methZ cZ cX12_doubt 4 (some .int) RX12 D dA := C
  have hx := C.1; have hb := C.2.1
  have hl : lv_has ls 4 [(0, .ref x), (1, .int wh)] := hl
  subst hsz
  have hS : ST D dA K sZ.heap K V sZ.heap [] := ST.rf hR
  have r_wh := th_rng wh; rw [iz_wh] at r_wh
  have F0 := F
  refine lv_iload_n hx hb dX12_doubt_0 rfl (lv_at hl 1 rfl) ?_
  refine lv_iconst (v := 0) hx hb dX12_doubt_1 (by decide) ?_
  refine lv_iconst (v := 1) hx hb dX12_doubt_2 (by decide) ?_
  refine th_goi (th_runS (As := [.int wh, .int 0, .int 1]) (rest := []) C hS.1 gS_RX12_371 (t_X12_in iz_wh li_0 li_1) hl rfl rfl rfl rfl ⟨Nat.le_of_ble_eq_true rfl, Nat.le_of_ble_eq_true rfl⟩ (Nat.le_of_ble_eq_true rfl) ⟨Nat.le_of_ble_eq_true rfl, Nat.le_of_ble_eq_true rfl⟩ dX12_doubt_3) (fun r4384 hq4385 => ?_)
  refine th_if_ne (X := r4384.toInt) (tgt := 11) hx hb dX12_doubt_6 (by decide) rfl (fun c4386 => ?_) (fun c4386 => ?_)
  · replace hq4385 := Or.resolve_right hq4385 (fun h => absurd h.2 (by omega))
    refine lv_iconst (v := 0) hx hb dX12_doubt_11 (by decide) ?_
    refine lv_istore_n (lv' := [(2, .int 0), (0, .ref x), (1, .int wh)]) hx hb dX12_doubt_12 rfl hl (by decide) rfl (fun ls hl => ?_)
    refine lv_iload_n hx hb dX12_doubt_13 rfl (lv_at hl 0 rfl) ?_
    refine lv_aload_n hx hb dX12_doubt_14 rfl (lv_at hl 1 rfl) ?_
    refine th_get C hS.1 F.1 fl_RX12_709 (F.2.2.1 (120, 0) (by decide)) dX12_doubt_15 ?_
    refine th_icmp_ge (X := 0) (Y := 0) (tgt := 64) hx hb dX12_doubt_18 (by decide) li_0 li_0 (fun c4387 => ?_) (fun c4387 => absurd c4387 (by omega))
    refine lv_iconst (v := (-1)) hx hb dX12_doubt_64 (by decide) ?_
    exact th_reti C (by have hfin := li_n1; omega) dX12_doubt_65
  · replace hq4385 := Or.resolve_left hq4385 (fun h => absurd h.2 (by omega))
    refine lv_iconst (v := (-1)) hx hb dX12_doubt_9 (by decide) ?_
    exact th_reti C (by have hfin := li_n1; omega) dX12_doubt_10

set_option maxHeartbeats 400000 in
set_option maxRecDepth 100000 in
theorem t_X12_word {l : Launch} {D : va_G} {dA : Nat → ClassId} {K : Kmap} {V : Vmap} {sz : Nat} {x : Nat} {wo : Int32} {wo_i : Int} (iz_wo : wo.toInt = wo_i) (F : FM K V x) : Met l yX12_word (wsOf yX12_word cX12_word 2 (some .int)) { frames := 1, cells := 0, slots := 0, locals := 22 } (PC D dA K V sz [.ref x, .int wo]) (HQi D dA K (fun r K1 V1 => (((0 ≤ wo_i ∧ wo_i ≤ 1000) ∧ r.toInt = 0) ∨ ((0 > wo_i ∨ wo_i > 1000) ∧ r.toInt = (-1))))) 0 0 (AK K sz) := by
  refine th_body (by decide +kernel) (Nat.le_of_ble_eq_true rfl) (fun pZ eZ sZ mZ belowZ methZ cZ C hR hsz hnm ls hl => ?_)
  have C : CX pZ sZ mZ [.ref x, .int wo].toArray methZ cZ cX12_word 2 (some .int) RX12 D dA := C
  have hx := C.1; have hb := C.2.1
  have hl : lv_has ls 2 [(0, .ref x), (1, .int wo)] := hl
  subst hsz
  have hS : ST D dA K sZ.heap K V sZ.heap [] := ST.rf hR
  have r_wo := th_rng wo; rw [iz_wo] at r_wo
  have F0 := F
  obtain ⟨f134, hv_f134, hk_f134⟩ := F.2.1 (134, (1, 7)) (by decide)
  refine lv_iload_n hx hb dX12_word_0 rfl (lv_at hl 1 rfl) ?_
  refine lv_iconst (v := 0) hx hb dX12_word_1 (by decide) ?_
  refine lv_sipush (v := 1000) hx hb dX12_word_2 (by decide) ?_
  refine th_goi (th_runS (As := [.int wo, .int 0, .int 1000]) (rest := []) C hS.1 gS_RX12_371 (t_X12_in iz_wo li_0 li_1000) hl rfl rfl rfl rfl ⟨Nat.le_of_ble_eq_true rfl, Nat.le_of_ble_eq_true rfl⟩ (Nat.le_of_ble_eq_true rfl) ⟨Nat.le_of_ble_eq_true rfl, Nat.le_of_ble_eq_true rfl⟩ dX12_word_5) (fun r4388 hq4389 => ?_)
  refine th_if_eq (X := r4388.toInt) (tgt := 20) hx hb dX12_word_8 (by decide) rfl (fun c4390 => ?_) (fun c4390 => ?_)
  · replace hq4389 := Or.resolve_left hq4389 (fun h => absurd h.2 (by omega))
    refine lv_iconst (v := (-1)) hx hb dX12_word_20 (by decide) ?_
    exact th_retiH (post := fun r K1 V1 => (((0 ≤ wo_i ∧ wo_i ≤ 1000) ∧ r.toInt = 0) ∨ ((0 > wo_i ∨ wo_i > 1000) ∧ r.toInt = (-1)))) (cells := 0) (slots := 0) (mc := 0) (ms := 0) C hS (Or.inr (⟨by omega, li_n1⟩)) (Nat.le_of_ble_eq_true rfl) (Nat.le_of_ble_eq_true rfl) dX12_word_21
  · replace hq4389 := Or.resolve_right hq4389 (fun h => absurd h.2 (by omega))
    refine lv_aload_n hx hb dX12_word_11 rfl (lv_at hl 0 rfl) ?_
    refine th_get C hS.1 F.1 fl_RX12_718 (F.2.2.1 (133, 0) (by decide)) dX12_word_12 ?_
    refine lv_bipush (v := 7) hx hb dX12_word_15 (by decide) ?_
    refine th_icmp_ne (X := 0) (Y := 7) (tgt := 22) hx hb dX12_word_17 (by decide) li_0 li_7 (fun c4391 => ?_) (fun c4391 => absurd c4391 (by omega))
    refine lv_aload_n hx hb dX12_word_22 rfl (lv_at hl 0 rfl) ?_
    refine th_get C hS.1 F.1 fl_RX12_319 hv_f134 dX12_word_23 ?_
    refine lv_aload_n hx hb dX12_word_26 rfl (lv_at hl 0 rfl) ?_
    refine th_get C hS.1 F.1 fl_RX12_718 (F.2.2.1 (133, 0) (by decide)) dX12_word_27 ?_
    refine lv_iload_n hx hb dX12_word_30 rfl (lv_at hl 1 rfl) ?_
    refine th_iast C hS hk_f134 (by rw [li_0]; omega) (by rw [li_0]; omega) dX12_word_31 (fun V4392 H locs1 hV4393 hS => ?_)
    refine lv_aload_n hx hb dX12_word_32 rfl (lv_at hl 0 rfl) ?_
    refine lv_aload_n hx hb dX12_word_33 rfl (lv_at hl 0 rfl) ?_
    have hv4394 : V4392 x 133 = .int 0 := Eq.trans (uq_ne hV4393 (Or.inl (K_ne F.1 hk_f134 (by decide)))) (F.2.2.1 (133, 0) (by decide))
    refine th_get C hS.1 F.1 fl_RX12_718 hv4394 dX12_word_34 ?_
    refine lv_iconst (v := 1) hx hb dX12_word_37 (by decide) ?_
    refine lv_iadd hx hb dX12_word_38 ?_
    refine th_is (w := .int 1) (by decide) ?_
    refine th_put C hS F.1 fp_RX12_718 rfl rfl dX12_word_39 (fun V4395 H locs1 hV4396 hS => ?_)
    refine lv_aload_n hx hb dX12_word_42 rfl (lv_at hl 0 rfl) ?_
    refine th_get C hS.1 F.1 fl_RX12_718 (uq_same hV4396) dX12_word_43 ?_
    refine lv_iconst (v := 1) hx hb dX12_word_46 (by decide) ?_
    refine lv_isub hx hb dX12_word_47 ?_
    refine th_is (w := .int 0) (by decide) ?_
    exact th_retiH (post := fun r K1 V1 => (((0 ≤ wo_i ∧ wo_i ≤ 1000) ∧ r.toInt = 0) ∨ ((0 > wo_i ∨ wo_i > 1000) ∧ r.toInt = (-1)))) (cells := 0) (slots := 0) (mc := 0) (ms := 0) C hS (Or.inl ⟨by omega, li_0⟩) (Nat.le_of_ble_eq_true rfl) (Nat.le_of_ble_eq_true rfl) dX12_word_48

set_option maxHeartbeats 400000 in
set_option maxRecDepth 100000 in
theorem t_X12_asks {l : Launch} {D : va_G} {dA : Nat → ClassId} {K : Kmap} {V : Vmap} {sz : Nat} {x : Nat} {p w ot : Int32} {p_i w_i ot_i : Int} (iz_p : p.toInt = p_i) (iz_w : w.toInt = w_i) (iz_ot : ot.toInt = ot_i) (F : FM K V x) : Met l yX12_asks (wsOf yX12_asks cX12_asks 5 (some .boolean)) { frames := 1, cells := 0, slots := 0, locals := 21 } (PC D dA K V sz [.ref x, .int p, .int w, .int ot]) (PQi (fun r => (r.toInt = 0))) 0 0 noFree := by
  refine th_body (by decide +kernel) (Nat.le_of_ble_eq_true rfl) (fun pZ eZ sZ mZ belowZ methZ cZ C hR hsz hnm ls hl => ?_)
  have C : CX pZ sZ mZ [.ref x, .int p, .int w, .int ot].toArray methZ cZ cX12_asks 5 (some .boolean) RX12 D dA := C
  have hx := C.1; have hb := C.2.1
  have hl : lv_has ls 5 [(0, .ref x), (1, .int p), (2, .int w), (3, .int ot)] := hl
  subst hsz
  have hS : ST D dA K sZ.heap K V sZ.heap [] := ST.rf hR
  have r_p := th_rng p; rw [iz_p] at r_p
  have r_w := th_rng w; rw [iz_w] at r_w
  have r_ot := th_rng ot; rw [iz_ot] at r_ot
  have F0 := F
  refine lv_aload_n hx hb dX12_asks_0 rfl (lv_at hl 0 rfl) ?_
  refine lv_iload_n hx hb dX12_asks_1 rfl (lv_at hl 1 rfl) ?_
  refine th_goi (th_runV (As := [.int p]) (rest := []) C hS.1 (RX12, TX12, 151) rfl gV_RX12_406 F.1 (t_X12_isParty iz_p F.1 (F.2.2.1 (9, 0) (by decide))) hl rfl rfl rfl rfl ⟨Nat.le_of_ble_eq_true rfl, Nat.le_of_ble_eq_true rfl⟩ (Nat.le_of_ble_eq_true rfl) ⟨Nat.le_of_ble_eq_true rfl, Nat.le_of_ble_eq_true rfl⟩ dX12_asks_2) (fun r4397 hq4398 => ?_)
  refine th_if_eq (X := r4397.toInt) (tgt := 34) hx hb dX12_asks_5 (by decide) rfl (fun c4399 => ?_) (fun c4399 => absurd c4399 (by omega))
  refine lv_iconst (v := 0) hx hb dX12_asks_34 (by decide) ?_
  exact th_retz C (by have hfin := li_0; omega) (by have hfin := li_0; omega) dX12_asks_35

set_option maxHeartbeats 400000 in
set_option maxRecDepth 100000 in
theorem t_X12_blocks {l : Launch} {D : va_G} {dA : Nat → ClassId} {K : Kmap} {V : Vmap} {sz : Nat} {x : Nat} {set : Int32} {set_i : Int} (iz_set : set.toInt = set_i) (F : FM K V x) : Met l yX12_blocks (wsOf yX12_blocks cX12_blocks 4 (some .int)) { frames := 1, cells := 0, slots := 0, locals := 22 } (PC D dA K V sz [.ref x, .int set]) (PQi (fun r => (set_i = 0 ∧ r.toInt = 0) ∨ (set_i ≠ 0 ∧ r.toInt = (-1)))) 0 0 noFree := by
  refine th_body (by decide +kernel) (Nat.le_of_ble_eq_true rfl) (fun pZ eZ sZ mZ belowZ methZ cZ C hR hsz hnm ls hl => ?_)
  have C : CX pZ sZ mZ [.ref x, .int set].toArray methZ cZ cX12_blocks 4 (some .int) RX12 D dA := C
  have hx := C.1; have hb := C.2.1
  have hl : lv_has ls 4 [(0, .ref x), (1, .int set)] := hl
  subst hsz
  have hS : ST D dA K sZ.heap K V sZ.heap [] := ST.rf hR
  have r_set := th_rng set; rw [iz_set] at r_set
  have F0 := F
  refine lv_iload_n hx hb dX12_blocks_0 rfl (lv_at hl 1 rfl) ?_
  refine lv_iconst (v := 0) hx hb dX12_blocks_1 (by decide) ?_
  refine lv_iconst (v := 1) hx hb dX12_blocks_2 (by decide) ?_
  refine lv_aload_n hx hb dX12_blocks_3 rfl (lv_at hl 0 rfl) ?_
  refine th_get C hS.1 F.1 fl_RX12_718 (F.2.2.1 (133, 0) (by decide)) dX12_blocks_4 ?_
  refine lv_ishl hx hb dX12_blocks_7 ?_
  refine th_is (w := .int 1) (by decide) ?_
  refine lv_iconst (v := 1) hx hb dX12_blocks_8 (by decide) ?_
  refine lv_isub hx hb dX12_blocks_9 ?_
  refine th_is (w := .int 0) (by decide) ?_
  refine th_goi (th_runS (As := [.int set, .int 0, .int 0]) (rest := []) C hS.1 gS_RX12_371 (t_X12_in iz_set li_0 li_0) hl rfl rfl rfl rfl ⟨Nat.le_of_ble_eq_true rfl, Nat.le_of_ble_eq_true rfl⟩ (Nat.le_of_ble_eq_true rfl) ⟨Nat.le_of_ble_eq_true rfl, Nat.le_of_ble_eq_true rfl⟩ dX12_blocks_10) (fun r4400 hq4401 => ?_)
  refine th_if_ne (X := r4400.toInt) (tgt := 18) hx hb dX12_blocks_13 (by decide) rfl (fun c4402 => ?_) (fun c4402 => ?_)
  · replace hq4401 := Or.resolve_right hq4401 (fun h => absurd h.2 (by omega))
    refine lv_iconst (v := 0) hx hb dX12_blocks_18 (by decide) ?_
    refine lv_istore_n (lv' := [(2, .int 0), (0, .ref x), (1, .int set)]) hx hb dX12_blocks_19 rfl hl (by decide) rfl (fun ls hl => ?_)
    refine lv_iconst (v := 0) hx hb dX12_blocks_20 (by decide) ?_
    refine lv_istore_n (lv' := [(3, .int 0), (2, .int 0), (0, .ref x), (1, .int set)]) hx hb dX12_blocks_21 rfl hl (by decide) rfl (fun ls hl => ?_)
    refine lv_iload_n hx hb dX12_blocks_22 rfl (lv_at hl 0 rfl) ?_
    refine lv_aload_n hx hb dX12_blocks_23 rfl (lv_at hl 2 rfl) ?_
    refine th_get C hS.1 F.1 fl_RX12_393 (F.2.2.1 (9, 0) (by decide)) dX12_blocks_24 ?_
    refine th_icmp_ge (X := 0) (Y := 0) (tgt := 55) hx hb dX12_blocks_27 (by decide) li_0 li_0 (fun c4403 => ?_) (fun c4403 => absurd c4403 (by omega))
    refine lv_iload_n hx hb dX12_blocks_55 rfl (lv_at hl 1 rfl) ?_
    exact th_reti C (Or.inl ⟨by omega, li_0⟩) dX12_blocks_56
  · replace hq4401 := Or.resolve_left hq4401 (fun h => absurd h.2 (by omega))
    refine lv_iconst (v := (-1)) hx hb dX12_blocks_16 (by decide) ?_
    exact th_reti C (Or.inr (⟨by omega, li_n1⟩)) dX12_blocks_17

set_option maxHeartbeats 400000 in
set_option maxRecDepth 100000 in
theorem t_X12_best {l : Launch} {D : va_G} {dA : Nat → ClassId} {K : Kmap} {V : Vmap} {sz : Nat} {x : Nat} (F : FM K V x) : Met l yX12_best (wsOf yX12_best cX12_best 5 (some .int)) { frames := 0, cells := 0, slots := 0, locals := 0 } (PC D dA K V sz [.ref x]) (PQi (fun r => (r.toInt = 0))) 0 0 noFree := by
  refine th_body (by decide +kernel) (Nat.le_of_ble_eq_true rfl) (fun pZ eZ sZ mZ belowZ methZ cZ C hR hsz hnm ls hl => ?_)
  have C : CX pZ sZ mZ [.ref x].toArray methZ cZ cX12_best 5 (some .int) RX12 D dA := C
  have hx := C.1; have hb := C.2.1
  have hl : lv_has ls 5 [(0, .ref x)] := hl
  subst hsz
  have hS : ST D dA K sZ.heap K V sZ.heap [] := ST.rf hR
  have F0 := F
  refine lv_iconst (v := 0) hx hb dX12_best_0 (by decide) ?_
  refine lv_istore_n (lv' := [(1, .int 0), (0, .ref x)]) hx hb dX12_best_1 rfl hl (by decide) rfl (fun ls hl => ?_)
  refine lv_iconst (v := 0) hx hb dX12_best_2 (by decide) ?_
  refine lv_istore_n (lv' := [(2, .int 0), (1, .int 0), (0, .ref x)]) hx hb dX12_best_3 rfl hl (by decide) rfl (fun ls hl => ?_)
  refine lv_iload_n hx hb dX12_best_4 rfl (lv_at hl 0 rfl) ?_
  refine lv_aload_n hx hb dX12_best_5 rfl (lv_at hl 2 rfl) ?_
  refine th_get C hS.1 F.1 fl_RX12_393 (F.2.2.1 (9, 0) (by decide)) dX12_best_6 ?_
  refine th_icmp_ge (X := 0) (Y := 0) (tgt := 40) hx hb dX12_best_9 (by decide) li_0 li_0 (fun c4404 => ?_) (fun c4404 => absurd c4404 (by omega))
  refine lv_iconst (v := 0) hx hb dX12_best_40 (by decide) ?_
  refine lv_istore_n (lv' := [(2, .int 0), (1, .int 0), (0, .ref x)]) hx hb dX12_best_41 rfl hl (by decide) rfl (fun ls hl => ?_)
  refine lv_iconst (v := 1) hx hb dX12_best_42 (by decide) ?_
  refine lv_istore_n (lv' := [(3, .int 1), (2, .int 0), (1, .int 0), (0, .ref x)]) hx hb dX12_best_43 rfl hl (by decide) rfl (fun ls hl => ?_)
  refine lv_iload_n hx hb dX12_best_44 rfl (lv_at hl 0 rfl) ?_
  refine lv_iconst (v := 1) hx hb dX12_best_45 (by decide) ?_
  refine lv_aload_n hx hb dX12_best_46 rfl (lv_at hl 3 rfl) ?_
  refine th_get C hS.1 F.1 fl_RX12_718 (F.2.2.1 (133, 0) (by decide)) dX12_best_47 ?_
  refine lv_ishl hx hb dX12_best_50 ?_
  refine th_is (w := .int 1) (by decide) ?_
  refine th_icmp_ge (X := 1) (Y := 1) (tgt := 109) hx hb dX12_best_51 (by decide) li_1 li_1 (fun c4405 => ?_) (fun c4405 => absurd c4405 (by omega))
  refine lv_iload_n hx hb dX12_best_109 rfl (lv_at hl 1 rfl) ?_
  exact th_reti C (by have hfin := li_0; omega) dX12_best_110

set_option maxHeartbeats 400000 in
set_option maxRecDepth 100000 in
theorem t_X12_stop {l : Launch} {D : va_G} {dA : Nat → ClassId} {K : Kmap} {V : Vmap} {sz : Nat} {x : Nat} {k nd : Int32} {k_i nd_i : Int} (iz_k : k.toInt = k_i) (iz_nd : nd.toInt = nd_i) (F : FM K V x) : Met l yX12_stop (wsOf yX12_stop cX12_stop 4 (some .int)) { frames := 3, cells := 0, slots := 0, locals := 64 } (PC D dA K V sz [.ref x, .int k, .int nd]) (PQi (fun r => (r.toInt = (-1)))) 0 0 noFree := by
  refine th_body (by decide +kernel) (Nat.le_of_ble_eq_true rfl) (fun pZ eZ sZ mZ belowZ methZ cZ C hR hsz hnm ls hl => ?_)
  have C : CX pZ sZ mZ [.ref x, .int k, .int nd].toArray methZ cZ cX12_stop 4 (some .int) RX12 D dA := C
  have hx := C.1; have hb := C.2.1
  have hl : lv_has ls 4 [(0, .ref x), (1, .int k), (2, .int nd)] := hl
  subst hsz
  have hS : ST D dA K sZ.heap K V sZ.heap [] := ST.rf hR
  have r_k := th_rng k; rw [iz_k] at r_k
  have r_nd := th_rng nd; rw [iz_nd] at r_nd
  have F0 := F
  refine lv_aload_n hx hb dX12_stop_0 rfl (lv_at hl 0 rfl) ?_
  refine lv_iload_n hx hb dX12_stop_1 rfl (lv_at hl 1 rfl) ?_
  refine th_goi (th_runV (As := [.int k]) (rest := []) C hS.1 (RX12, TX12, 151) rfl gV_RX12_433 F.1 (t_X12_stands iz_k F.1 (F.2.2.1 (10, 0) (by decide))) hl rfl rfl rfl rfl ⟨Nat.le_of_ble_eq_true rfl, Nat.le_of_ble_eq_true rfl⟩ (Nat.le_of_ble_eq_true rfl) ⟨Nat.le_of_ble_eq_true rfl, Nat.le_of_ble_eq_true rfl⟩ dX12_stop_2) (fun r4406 hq4407 => ?_)
  refine th_if_eq (X := r4406.toInt) (tgt := 28) hx hb dX12_stop_5 (by decide) rfl (fun c4408 => ?_) (fun c4408 => absurd c4408 (by omega))
  refine lv_iconst (v := (-1)) hx hb dX12_stop_28 (by decide) ?_
  exact th_reti C (by have hfin := li_n1; omega) dX12_stop_29

set_option maxHeartbeats 400000 in
set_option maxRecDepth 100000 in
theorem t_X12_open {l : Launch} {D : va_G} {dA : Nat → ClassId} {K : Kmap} {V : Vmap} {sz : Nat} {x : Nat} {i xx fr to : Int32} {i_i xx_i fr_i to_i : Int} (iz_i : i.toInt = i_i) (iz_xx : xx.toInt = xx_i) (iz_fr : fr.toInt = fr_i) (iz_to : to.toInt = to_i) (F : FM K V x) : Met l yX12_open (wsOf yX12_open cX12_open 5 (some .boolean)) { frames := 1, cells := 0, slots := 0, locals := 22 } (PC D dA K V sz [.ref x, .int i, .int xx, .int fr, .int to]) (PQi (fun r => (r.toInt = 0))) 0 0 noFree := by
  refine th_body (by decide +kernel) (Nat.le_of_ble_eq_true rfl) (fun pZ eZ sZ mZ belowZ methZ cZ C hR hsz hnm ls hl => ?_)
  have C : CX pZ sZ mZ [.ref x, .int i, .int xx, .int fr, .int to].toArray methZ cZ cX12_open 5 (some .boolean) RX12 D dA := C
  have hx := C.1; have hb := C.2.1
  have hl : lv_has ls 5 [(0, .ref x), (1, .int i), (2, .int xx), (3, .int fr), (4, .int to)] := hl
  subst hsz
  have hS : ST D dA K sZ.heap K V sZ.heap [] := ST.rf hR
  have r_i := th_rng i; rw [iz_i] at r_i
  have r_xx := th_rng xx; rw [iz_xx] at r_xx
  have r_fr := th_rng fr; rw [iz_fr] at r_fr
  have r_to := th_rng to; rw [iz_to] at r_to
  have F0 := F
  refine lv_iload_n hx hb dX12_open_0 rfl (lv_at hl 1 rfl) ?_
  refine lv_iconst (v := 0) hx hb dX12_open_1 (by decide) ?_
  refine lv_iconst (v := 2) hx hb dX12_open_2 (by decide) ?_
  refine th_goi (th_runS (As := [.int i, .int 0, .int 2]) (rest := []) C hS.1 gS_RX12_371 (t_X12_in iz_i li_0 li_2) hl rfl rfl rfl rfl ⟨Nat.le_of_ble_eq_true rfl, Nat.le_of_ble_eq_true rfl⟩ (Nat.le_of_ble_eq_true rfl) ⟨Nat.le_of_ble_eq_true rfl, Nat.le_of_ble_eq_true rfl⟩ dX12_open_3) (fun r4409 hq4410 => ?_)
  refine th_if_eq (X := r4409.toInt) (tgt := 44) hx hb dX12_open_6 (by decide) rfl (fun c4411 => ?_) (fun c4411 => ?_)
  · replace hq4410 := Or.resolve_left hq4410 (fun h => absurd h.2 (by omega))
    refine lv_iconst (v := 0) hx hb dX12_open_44 (by decide) ?_
    exact th_retz C (by have hfin := li_0; omega) (by have hfin := li_0; omega) dX12_open_45
  · replace hq4410 := Or.resolve_right hq4410 (fun h => absurd h.2 (by omega))
    refine lv_iload_n hx hb dX12_open_9 rfl (lv_at hl 2 rfl) ?_
    refine th_if_lt (X := xx_i) (tgt := 44) hx hb dX12_open_10 (by decide) iz_xx (fun c4412 => ?_) (fun c4412 => ?_)
    · refine lv_iconst (v := 0) hx hb dX12_open_44 (by decide) ?_
      exact th_retz C (by have hfin := li_0; omega) (by have hfin := li_0; omega) dX12_open_45
    · refine lv_iload_n hx hb dX12_open_13 rfl (lv_at hl 2 rfl) ?_
      refine lv_aload_n hx hb dX12_open_14 rfl (lv_at hl 0 rfl) ?_
      refine th_get C hS.1 F.1 fl_RX12_736 (F.2.2.1 (137, 0) (by decide)) dX12_open_15 ?_
      refine th_icmp_ge (X := xx_i) (Y := 0) (tgt := 44) hx hb dX12_open_18 (by decide) iz_xx li_0 (fun c4413 => ?_) (fun c4413 => absurd c4413 (by omega))
      refine lv_iconst (v := 0) hx hb dX12_open_44 (by decide) ?_
      exact th_retz C (by have hfin := li_0; omega) (by have hfin := li_0; omega) dX12_open_45

set_option maxHeartbeats 400000 in
set_option maxRecDepth 100000 in
theorem t_X12_plan {l : Launch} {D : va_G} {dA : Nat → ClassId} {K : Kmap} {V : Vmap} {sz : Nat} {x : Nat} {sh1 se1 fr : Int32} {sh1_i se1_i fr_i : Int} (iz_sh1 : sh1.toInt = sh1_i) (iz_se1 : se1.toInt = se1_i) (iz_fr : fr.toInt = fr_i) (F : FM K V x) : Met l yX12_plan (wsOf yX12_plan cX12_plan 4 (some .int)) { frames := 1, cells := 0, slots := 0, locals := 21 } (PC D dA K V sz [.ref x, .int sh1, .int se1, .int fr]) (PQi (fun r => (r.toInt = (-1)))) 0 0 noFree := by
  refine th_body (by decide +kernel) (Nat.le_of_ble_eq_true rfl) (fun pZ eZ sZ mZ belowZ methZ cZ C hR hsz hnm ls hl => ?_)
  have C : CX pZ sZ mZ [.ref x, .int sh1, .int se1, .int fr].toArray methZ cZ cX12_plan 4 (some .int) RX12 D dA := C
  have hx := C.1; have hb := C.2.1
  have hl : lv_has ls 4 [(0, .ref x), (1, .int sh1), (2, .int se1), (3, .int fr)] := hl
  subst hsz
  have hS : ST D dA K sZ.heap K V sZ.heap [] := ST.rf hR
  have r_sh1 := th_rng sh1; rw [iz_sh1] at r_sh1
  have r_se1 := th_rng se1; rw [iz_se1] at r_se1
  have r_fr := th_rng fr; rw [iz_fr] at r_fr
  have F0 := F
  refine lv_aload_n hx hb dX12_plan_0 rfl (lv_at hl 0 rfl) ?_
  refine lv_iload_n hx hb dX12_plan_1 rfl (lv_at hl 1 rfl) ?_
  refine th_goi (th_runV (As := [.int sh1]) (rest := []) C hS.1 (RX12, TX12, 151) rfl gV_RX12_618 F.1 (t_X12_isShip iz_sh1 F.1 (F.2.2.1 (91, 0) (by decide))) hl rfl rfl rfl rfl ⟨Nat.le_of_ble_eq_true rfl, Nat.le_of_ble_eq_true rfl⟩ (Nat.le_of_ble_eq_true rfl) ⟨Nat.le_of_ble_eq_true rfl, Nat.le_of_ble_eq_true rfl⟩ dX12_plan_2) (fun r4414 hq4415 => ?_)
  refine th_if_eq (X := r4414.toInt) (tgt := 26) hx hb dX12_plan_5 (by decide) rfl (fun c4416 => ?_) (fun c4416 => absurd c4416 (by omega))
  refine lv_iconst (v := (-1)) hx hb dX12_plan_26 (by decide) ?_
  exact th_reti C (by have hfin := li_n1; omega) dX12_plan_27

set_option maxHeartbeats 400000 in
set_option maxRecDepth 100000 in
theorem t_X12_planned {l : Launch} {D : va_G} {dA : Nat → ClassId} {K : Kmap} {V : Vmap} {sz : Nat} {x : Nat} {sh1 se1 fr i : Int32} {sh1_i se1_i fr_i i_i : Int} (iz_sh1 : sh1.toInt = sh1_i) (iz_se1 : se1.toInt = se1_i) (iz_fr : fr.toInt = fr_i) (iz_i : i.toInt = i_i) (F : FM K V x) : Met l yX12_planned (wsOf yX12_planned cX12_planned 5 (some .int)) { frames := 2, cells := 0, slots := 0, locals := 44 } (PC D dA K V sz [.ref x, .int sh1, .int se1, .int fr, .int i]) (PQi (fun r => (r.toInt = (-1)))) 0 0 noFree := by
  refine th_body (by decide +kernel) (Nat.le_of_ble_eq_true rfl) (fun pZ eZ sZ mZ belowZ methZ cZ C hR hsz hnm ls hl => ?_)
  have C : CX pZ sZ mZ [.ref x, .int sh1, .int se1, .int fr, .int i].toArray methZ cZ cX12_planned 5 (some .int) RX12 D dA := C
  have hx := C.1; have hb := C.2.1
  have hl : lv_has ls 5 [(0, .ref x), (1, .int sh1), (2, .int se1), (3, .int fr), (4, .int i)] := hl
  subst hsz
  have hS : ST D dA K sZ.heap K V sZ.heap [] := ST.rf hR
  have r_sh1 := th_rng sh1; rw [iz_sh1] at r_sh1
  have r_se1 := th_rng se1; rw [iz_se1] at r_se1
  have r_fr := th_rng fr; rw [iz_fr] at r_fr
  have r_i := th_rng i; rw [iz_i] at r_i
  have F0 := F
  refine lv_aload_n hx hb dX12_planned_0 rfl (lv_at hl 0 rfl) ?_
  refine lv_iload_n hx hb dX12_planned_1 rfl (lv_at hl 1 rfl) ?_
  refine lv_iload_n hx hb dX12_planned_2 rfl (lv_at hl 2 rfl) ?_
  refine lv_iload_n hx hb dX12_planned_3 rfl (lv_at hl 3 rfl) ?_
  refine th_goi (th_runV (As := [.int sh1, .int se1, .int fr]) (rest := []) C hS.1 (RX12, TX12, 151) rfl gV_RX12_758 F.1 (t_X12_plan iz_sh1 iz_se1 iz_fr F0) hl rfl rfl rfl rfl ⟨Nat.le_of_ble_eq_true rfl, Nat.le_of_ble_eq_true rfl⟩ (Nat.le_of_ble_eq_true rfl) ⟨Nat.le_of_ble_eq_true rfl, Nat.le_of_ble_eq_true rfl⟩ dX12_planned_4) (fun r4417 hq4418 => ?_)
  refine lv_iconst (v := (-1)) hx hb dX12_planned_7 (by decide) ?_
  refine th_icmp_eq (X := r4417.toInt) (Y := (-1)) (tgt := 25) hx hb dX12_planned_8 (by decide) rfl li_n1 (fun c4419 => ?_) (fun c4419 => absurd c4419 (by omega))
  refine lv_iconst (v := (-1)) hx hb dX12_planned_25 (by decide) ?_
  exact th_reti C (by have hfin := li_n1; omega) dX12_planned_26

set_option maxHeartbeats 400000 in
set_option maxRecDepth 100000 in
theorem t_X12_report {l : Launch} {D : va_G} {dA : Nat → ClassId} {K : Kmap} {V : Vmap} {sz : Nat} {x : Nat} {k dy n is1 : Int32} {k_i dy_i n_i is1_i : Int} (iz_k : k.toInt = k_i) (iz_dy : dy.toInt = dy_i) (iz_n : n.toInt = n_i) (iz_is1 : is1.toInt = is1_i) (F : FM K V x) : Met l yX12_report (wsOf yX12_report cX12_report 5 (some .boolean)) { frames := 2, cells := 0, slots := 0, locals := 43 } (PC D dA K V sz [.ref x, .int k, .int dy, .int n, .int is1]) (PQi (fun r => (r.toInt = 0))) 0 0 noFree := by
  refine th_body (by decide +kernel) (Nat.le_of_ble_eq_true rfl) (fun pZ eZ sZ mZ belowZ methZ cZ C hR hsz hnm ls hl => ?_)
  have C : CX pZ sZ mZ [.ref x, .int k, .int dy, .int n, .int is1].toArray methZ cZ cX12_report 5 (some .boolean) RX12 D dA := C
  have hx := C.1; have hb := C.2.1
  have hl : lv_has ls 5 [(0, .ref x), (1, .int k), (2, .int dy), (3, .int n), (4, .int is1)] := hl
  subst hsz
  have hS : ST D dA K sZ.heap K V sZ.heap [] := ST.rf hR
  have r_k := th_rng k; rw [iz_k] at r_k
  have r_dy := th_rng dy; rw [iz_dy] at r_dy
  have r_n := th_rng n; rw [iz_n] at r_n
  have r_is1 := th_rng is1; rw [iz_is1] at r_is1
  have F0 := F
  refine lv_aload_n hx hb dX12_report_0 rfl (lv_at hl 0 rfl) ?_
  refine lv_iload_n hx hb dX12_report_1 rfl (lv_at hl 1 rfl) ?_
  refine th_goi (th_runV (As := [.int k]) (rest := []) C hS.1 (RX12, TX12, 151) rfl gV_RX12_403 F.1 (t_X12_isStation iz_k F.1 (F.2.2.1 (10, 0) (by decide))) hl rfl rfl rfl rfl ⟨Nat.le_of_ble_eq_true rfl, Nat.le_of_ble_eq_true rfl⟩ (Nat.le_of_ble_eq_true rfl) ⟨Nat.le_of_ble_eq_true rfl, Nat.le_of_ble_eq_true rfl⟩ dX12_report_2) (fun r4420 hq4421 => ?_)
  refine th_if_eq (X := r4420.toInt) (tgt := 43) hx hb dX12_report_5 (by decide) rfl (fun c4422 => ?_) (fun c4422 => absurd c4422 (by omega))
  refine lv_iconst (v := 0) hx hb dX12_report_43 (by decide) ?_
  exact th_retz C (by have hfin := li_0; omega) (by have hfin := li_0; omega) dX12_report_44

set_option maxHeartbeats 400000 in
set_option maxRecDepth 100000 in
theorem t_X12_known {l : Launch} {D : va_G} {dA : Nat → ClassId} {K : Kmap} {V : Vmap} {sz : Nat} {x : Nat} {k d tt : Int32} {k_i d_i tt_i : Int} (iz_k : k.toInt = k_i) (iz_d : d.toInt = d_i) (iz_tt : tt.toInt = tt_i) (F : FM K V x) : Met l yX12_known (wsOf yX12_known cX12_known 7 (some .int)) { frames := 2, cells := 0, slots := 0, locals := 43 } (PC D dA K V sz [.ref x, .int k, .int d, .int tt]) (PQi (fun r => (r.toInt = (-1000001)))) 0 0 noFree := by
  refine th_body (by decide +kernel) (Nat.le_of_ble_eq_true rfl) (fun pZ eZ sZ mZ belowZ methZ cZ C hR hsz hnm ls hl => ?_)
  have C : CX pZ sZ mZ [.ref x, .int k, .int d, .int tt].toArray methZ cZ cX12_known 7 (some .int) RX12 D dA := C
  have hx := C.1; have hb := C.2.1
  have hl : lv_has ls 7 [(0, .ref x), (1, .int k), (2, .int d), (3, .int tt)] := hl
  subst hsz
  have hS : ST D dA K sZ.heap K V sZ.heap [] := ST.rf hR
  have r_k := th_rng k; rw [iz_k] at r_k
  have r_d := th_rng d; rw [iz_d] at r_d
  have r_tt := th_rng tt; rw [iz_tt] at r_tt
  have F0 := F
  refine lv_aload_n hx hb dX12_known_0 rfl (lv_at hl 0 rfl) ?_
  refine lv_iload_n hx hb dX12_known_1 rfl (lv_at hl 1 rfl) ?_
  refine th_goi (th_runV (As := [.int k]) (rest := []) C hS.1 (RX12, TX12, 151) rfl gV_RX12_403 F.1 (t_X12_isStation iz_k F.1 (F.2.2.1 (10, 0) (by decide))) hl rfl rfl rfl rfl ⟨Nat.le_of_ble_eq_true rfl, Nat.le_of_ble_eq_true rfl⟩ (Nat.le_of_ble_eq_true rfl) ⟨Nat.le_of_ble_eq_true rfl, Nat.le_of_ble_eq_true rfl⟩ dX12_known_2) (fun r4423 hq4424 => ?_)
  refine th_if_eq (X := r4423.toInt) (tgt := 22) hx hb dX12_known_5 (by decide) rfl (fun c4425 => ?_) (fun c4425 => absurd c4425 (by omega))
  refine lv_ldcw (v := (-1000001)) hx hb C.2.2.2.2.2.1 (C.2.2.2.2.2.2.1 _ gw_2507) dX12_known_22 ?_
  exact th_reti C (by have hfin := li_n1000001; omega) dX12_known_25

set_option maxHeartbeats 400000 in
set_option maxRecDepth 100000 in
theorem t_X12_check {l : Launch} {D : va_G} {dA : Nat → ClassId} {K : Kmap} {V : Vmap} {sz : Nat} {x : Nat} {n : Int32} {n_i : Int} (iz_n : n.toInt = n_i) (F : FM K V x) : Met l yX12_check (wsOf yX12_check cX12_check 4 (some .int)) { frames := 0, cells := 0, slots := 0, locals := 0 } (PC D dA K V sz [.ref x, .int n]) (HQi D dA K (fun r K1 V1 => ((n_i = 0 ∧ r.toInt = (-1)) ∨ (n_i ≠ 0 ∧ r.toInt = (-2))))) 0 0 (AK K sz) := by
  refine th_body (by decide +kernel) (Nat.le_of_ble_eq_true rfl) (fun pZ eZ sZ mZ belowZ methZ cZ C hR hsz hnm ls hl => ?_)
  have C : CX pZ sZ mZ [.ref x, .int n].toArray methZ cZ cX12_check 4 (some .int) RX12 D dA := C
  have hx := C.1; have hb := C.2.1
  have hl : lv_has ls 4 [(0, .ref x), (1, .int n)] := hl
  subst hsz
  have hS : ST D dA K sZ.heap K V sZ.heap [] := ST.rf hR
  have r_n := th_rng n; rw [iz_n] at r_n
  have F0 := F
  refine lv_iload_n hx hb dX12_check_0 rfl (lv_at hl 1 rfl) ?_
  refine th_if_lt (X := n_i) (tgt := 15) hx hb dX12_check_1 (by decide) iz_n (fun c4426 => ?_) (fun c4426 => ?_)
  · refine lv_bipush (v := (-2)) hx hb dX12_check_15 (by decide) ?_
    exact th_retiH (post := fun r K1 V1 => ((n_i = 0 ∧ r.toInt = (-1)) ∨ (n_i ≠ 0 ∧ r.toInt = (-2)))) (cells := 0) (slots := 0) (mc := 0) (ms := 0) C hS (Or.inr (⟨by omega, li_n2⟩)) (Nat.le_of_ble_eq_true rfl) (Nat.le_of_ble_eq_true rfl) dX12_check_17
  · refine lv_iload_n hx hb dX12_check_4 rfl (lv_at hl 1 rfl) ?_
    refine lv_aload_n hx hb dX12_check_5 rfl (lv_at hl 0 rfl) ?_
    refine th_get C hS.1 F.1 fl_RX12_436 (F.2.2.1 (30, 0) (by decide)) dX12_check_6 ?_
    refine lv_bipush (v := 8) hx hb dX12_check_9 (by decide) ?_
    refine lv_idiv hx hb dX12_check_11 (by decide) ?_
    refine th_is (w := .int 0) (by decide) ?_
    refine th_icmp_le (X := n_i) (Y := 0) (tgt := 18) hx hb dX12_check_12 (by decide) iz_n li_0 (fun c4427 => ?_) (fun c4427 => ?_)
    · refine lv_aload_n hx hb dX12_check_18 rfl (lv_at hl 0 rfl) ?_
      refine lv_iconst (v := 0) hx hb dX12_check_19 (by decide) ?_
      refine th_put C hS F.1 fp_RX12_436 rfl rfl dX12_check_20 (fun V4428 H locs1 hV4429 hS => ?_)
      refine lv_iconst (v := 0) hx hb dX12_check_23 (by decide) ?_
      refine lv_istore_n (lv' := [(2, .int 0), (0, .ref x), (1, .int n)]) hx hb dX12_check_24 rfl hl (by decide) rfl (fun ls hl => ?_)
      refine lv_iconst (v := 0) hx hb dX12_check_25 (by decide) ?_
      refine lv_istore_n (lv' := [(3, .int 0), (2, .int 0), (0, .ref x), (1, .int n)]) hx hb dX12_check_26 rfl hl (by decide) rfl (fun ls hl => ?_)
      refine lv_iload_n hx hb dX12_check_27 rfl (lv_at hl 0 rfl) ?_
      refine lv_aload_n hx hb dX12_check_28 rfl (lv_at hl 2 rfl) ?_
      have hv4430 : V4428 x 10 = .int 0 := Eq.trans (uq_ne hV4429 (Or.inr (by decide))) (F.2.2.1 (10, 0) (by decide))
      refine th_get C hS.1 F.1 fl_RX12_375 hv4430 dX12_check_29 ?_
      refine th_icmp_ge (X := 0) (Y := 0) (tgt := 101) hx hb dX12_check_32 (by decide) li_0 li_0 (fun c4431 => ?_) (fun c4431 => absurd c4431 (by omega))
      refine lv_iload_n hx hb dX12_check_101 rfl (lv_at hl 1 rfl) ?_
      refine lv_iconst (v := 2) hx hb dX12_check_102 (by decide) ?_
      refine lv_iload_n hx hb dX12_check_103 rfl (lv_at hl 3 rfl) ?_
      refine lv_imul hx hb dX12_check_104 ?_
      refine th_top (X := (2 * n_i)) (th_mul li_2 iz_n (by omega) (by omega)) (fun z4432 hz4432 => ?_)
      refine th_icmp_ge (X := 0) (Y := (2 * n_i)) (tgt := 112) hx hb dX12_check_105 (by decide) li_0 hz4432 (fun c4433 => ?_) (fun c4433 => absurd c4433 (by omega))
      refine lv_iconst (v := (-1)) hx hb dX12_check_112 (by decide) ?_
      exact th_retiH (post := fun r K1 V1 => ((n_i = 0 ∧ r.toInt = (-1)) ∨ (n_i ≠ 0 ∧ r.toInt = (-2)))) (cells := 0) (slots := 0) (mc := 0) (ms := 0) C hS (Or.inl ⟨by omega, li_n1⟩) (Nat.le_of_ble_eq_true rfl) (Nat.le_of_ble_eq_true rfl) dX12_check_113
    · refine lv_bipush (v := (-2)) hx hb dX12_check_15 (by decide) ?_
      exact th_retiH (post := fun r K1 V1 => ((n_i = 0 ∧ r.toInt = (-1)) ∨ (n_i ≠ 0 ∧ r.toInt = (-2)))) (cells := 0) (slots := 0) (mc := 0) (ms := 0) C hS (Or.inr (⟨by omega, li_n2⟩)) (Nat.le_of_ble_eq_true rfl) (Nat.le_of_ble_eq_true rfl) dX12_check_17

set_option maxHeartbeats 400000 in
set_option maxRecDepth 100000 in
theorem t_X12_look {l : Launch} {D : va_G} {dA : Nat → ClassId} {K : Kmap} {V : Vmap} {sz : Nat} {x : Nat} {k wh : Int32} {k_i wh_i : Int} (iz_k : k.toInt = k_i) (iz_wh : wh.toInt = wh_i) (F : FM K V x) : Met l yX12_look (wsOf yX12_look cX12_look 3 (some .int)) { frames := 0, cells := 0, slots := 0, locals := 0 } (PC D dA K V sz [.ref x, .int k, .int wh]) (PQi (fun r => (r.toInt = (-1)))) 0 0 noFree := by
  refine th_body (by decide +kernel) (Nat.le_of_ble_eq_true rfl) (fun pZ eZ sZ mZ belowZ methZ cZ C hR hsz hnm ls hl => ?_)
  have C : CX pZ sZ mZ [.ref x, .int k, .int wh].toArray methZ cZ cX12_look 3 (some .int) RX12 D dA := C
  have hx := C.1; have hb := C.2.1
  have hl : lv_has ls 3 [(0, .ref x), (1, .int k), (2, .int wh)] := hl
  subst hsz
  have hS : ST D dA K sZ.heap K V sZ.heap [] := ST.rf hR
  have r_k := th_rng k; rw [iz_k] at r_k
  have r_wh := th_rng wh; rw [iz_wh] at r_wh
  have F0 := F
  refine lv_iload_n hx hb dX12_look_0 rfl (lv_at hl 1 rfl) ?_
  refine th_if_lt (X := k_i) (tgt := 12) hx hb dX12_look_1 (by decide) iz_k (fun c4434 => ?_) (fun c4434 => ?_)
  · refine lv_iconst (v := (-1)) hx hb dX12_look_12 (by decide) ?_
    exact th_reti C (by have hfin := li_n1; omega) dX12_look_13
  · refine lv_iload_n hx hb dX12_look_4 rfl (lv_at hl 1 rfl) ?_
    refine lv_aload_n hx hb dX12_look_5 rfl (lv_at hl 0 rfl) ?_
    refine th_get C hS.1 F.1 fl_RX12_375 (F.2.2.1 (10, 0) (by decide)) dX12_look_6 ?_
    refine th_icmp_lt (X := k_i) (Y := 0) (tgt := 14) hx hb dX12_look_9 (by decide) iz_k li_0 (fun c4435 => absurd c4435 (by omega)) (fun c4435 => ?_)
    refine lv_iconst (v := (-1)) hx hb dX12_look_12 (by decide) ?_
    exact th_reti C (by have hfin := li_n1; omega) dX12_look_13

set_option maxHeartbeats 400000 in
set_option maxRecDepth 100000 in
theorem t_X12_at {l : Launch} {D : va_G} {dA : Nat → ClassId} {K : Kmap} {V : Vmap} {sz : Nat} {x : Nat} {sh1 wh : Int32} {sh1_i wh_i : Int} (iz_sh1 : sh1.toInt = sh1_i) (iz_wh : wh.toInt = wh_i) (F : FM K V x) : Met l yX12_at (wsOf yX12_at cX12_at 3 (some .int)) { frames := 1, cells := 0, slots := 0, locals := 21 } (PC D dA K V sz [.ref x, .int sh1, .int wh]) (PQi (fun r => (r.toInt = (-1)))) 0 0 noFree := by
  refine th_body (by decide +kernel) (Nat.le_of_ble_eq_true rfl) (fun pZ eZ sZ mZ belowZ methZ cZ C hR hsz hnm ls hl => ?_)
  have C : CX pZ sZ mZ [.ref x, .int sh1, .int wh].toArray methZ cZ cX12_at 3 (some .int) RX12 D dA := C
  have hx := C.1; have hb := C.2.1
  have hl : lv_has ls 3 [(0, .ref x), (1, .int sh1), (2, .int wh)] := hl
  subst hsz
  have hS : ST D dA K sZ.heap K V sZ.heap [] := ST.rf hR
  have r_sh1 := th_rng sh1; rw [iz_sh1] at r_sh1
  have r_wh := th_rng wh; rw [iz_wh] at r_wh
  have F0 := F
  refine lv_aload_n hx hb dX12_at_0 rfl (lv_at hl 0 rfl) ?_
  refine lv_iload_n hx hb dX12_at_1 rfl (lv_at hl 1 rfl) ?_
  refine th_goi (th_runV (As := [.int sh1]) (rest := []) C hS.1 (RX12, TX12, 151) rfl gV_RX12_618 F.1 (t_X12_isShip iz_sh1 F.1 (F.2.2.1 (91, 0) (by decide))) hl rfl rfl rfl rfl ⟨Nat.le_of_ble_eq_true rfl, Nat.le_of_ble_eq_true rfl⟩ (Nat.le_of_ble_eq_true rfl) ⟨Nat.le_of_ble_eq_true rfl, Nat.le_of_ble_eq_true rfl⟩ dX12_at_2) (fun r4436 hq4437 => ?_)
  refine th_if_ne (X := r4436.toInt) (tgt := 10) hx hb dX12_at_5 (by decide) rfl (fun c4438 => absurd c4438 (by omega)) (fun c4438 => ?_)
  refine lv_iconst (v := (-1)) hx hb dX12_at_8 (by decide) ?_
  exact th_reti C (by have hfin := li_n1; omega) dX12_at_9

set_option maxHeartbeats 400000 in
set_option maxRecDepth 100000 in
theorem t_X12_about {l : Launch} {D : va_G} {dA : Nat → ClassId} {K : Kmap} {V : Vmap} {sz : Nat} {x : Nat} {w wh : Int32} {w_i wh_i : Int} (iz_w : w.toInt = w_i) (iz_wh : wh.toInt = wh_i) (F : FM K V x) : Met l yX12_about (wsOf yX12_about cX12_about 3 (some .int)) { frames := 1, cells := 0, slots := 0, locals := 21 } (PC D dA K V sz [.ref x, .int w, .int wh]) (PQi (fun r => (r.toInt = (-1)))) 0 0 noFree := by
  refine th_body (by decide +kernel) (Nat.le_of_ble_eq_true rfl) (fun pZ eZ sZ mZ belowZ methZ cZ C hR hsz hnm ls hl => ?_)
  have C : CX pZ sZ mZ [.ref x, .int w, .int wh].toArray methZ cZ cX12_about 3 (some .int) RX12 D dA := C
  have hx := C.1; have hb := C.2.1
  have hl : lv_has ls 3 [(0, .ref x), (1, .int w), (2, .int wh)] := hl
  subst hsz
  have hS : ST D dA K sZ.heap K V sZ.heap [] := ST.rf hR
  have r_w := th_rng w; rw [iz_w] at r_w
  have r_wh := th_rng wh; rw [iz_wh] at r_wh
  have F0 := F
  refine lv_aload_n hx hb dX12_about_0 rfl (lv_at hl 0 rfl) ?_
  refine lv_iload_n hx hb dX12_about_1 rfl (lv_at hl 1 rfl) ?_
  refine th_goi (th_runV (As := [.int w]) (rest := []) C hS.1 (RX12, TX12, 151) rfl gV_RX12_566 F.1 (t_X12_isWork iz_w F.1 (F.2.2.1 (66, 0) (by decide))) hl rfl rfl rfl rfl ⟨Nat.le_of_ble_eq_true rfl, Nat.le_of_ble_eq_true rfl⟩ (Nat.le_of_ble_eq_true rfl) ⟨Nat.le_of_ble_eq_true rfl, Nat.le_of_ble_eq_true rfl⟩ dX12_about_2) (fun r4439 hq4440 => ?_)
  refine th_if_ne (X := r4439.toInt) (tgt := 10) hx hb dX12_about_5 (by decide) rfl (fun c4441 => absurd c4441 (by omega)) (fun c4441 => ?_)
  refine lv_iconst (v := (-1)) hx hb dX12_about_8 (by decide) ?_
  exact th_reti C (by have hfin := li_n1; omega) dX12_about_9

set_option maxHeartbeats 400000 in
set_option maxRecDepth 100000 in
theorem t_X12_sum {l : Launch} {D : va_G} {dA : Nat → ClassId} {K : Kmap} {V : Vmap} {sz : Nat} {x : Nat} {wh : Int32} {wh_i : Int} (iz_wh : wh.toInt = wh_i) (F : FM K V x) : Met l yX12_sum (wsOf yX12_sum cX12_sum 2 (some .long)) { frames := 1, cells := 0, slots := 0, locals := 22 } (PC D dA K V sz [.ref x, .int wh]) (HQl D dA K (fun r K1 V1 => (((0 ≤ wh_i ∧ wh_i ≤ 7) ∧ r = 0) ∨ ((0 > wh_i ∨ wh_i > 7) ∧ r = (-1))))) 0 0 (AK K sz) := by
  refine th_body (by decide +kernel) (Nat.le_of_ble_eq_true rfl) (fun pZ eZ sZ mZ belowZ methZ cZ C hR hsz hnm ls hl => ?_)
  have C : CX pZ sZ mZ [.ref x, .int wh].toArray methZ cZ cX12_sum 2 (some .long) RX12 D dA := C
  have hx := C.1; have hb := C.2.1
  have hl : lv_has ls 2 [(0, .ref x), (1, .int wh)] := hl
  subst hsz
  have hS : ST D dA K sZ.heap K V sZ.heap [] := ST.rf hR
  have r_wh := th_rng wh; rw [iz_wh] at r_wh
  have F0 := F
  refine lv_iload_n hx hb dX12_sum_0 rfl (lv_at hl 1 rfl) ?_
  by_cases c4442 : wh_i = 0
  · have hc4442 : wh.toInt = 0 := by rw [iz_wh]; exact c4442
    refine lv_tableIn (off := 47) (tgt := 48) hx hb dX12_sum_1 (by rw [hc4442]; decide) (by rw [hc4442]; decide) (by rw [hc4442]; rfl) (by decide) ?_
    refine lv_aload_n hx hb dX12_sum_48 rfl (lv_at hl 0 rfl) ?_
    refine th_get C hS.1 F.1 fl_RX12_429 (F.2.2.2 83 (by decide)) dX12_sum_49 ?_
    exact th_retlH (post := fun r K1 V1 => (((0 ≤ wh_i ∧ wh_i ≤ 7) ∧ r = 0) ∨ ((0 > wh_i ∨ wh_i > 7) ∧ r = (-1)))) (cells := 0) (slots := 0) (mc := 0) (ms := 0) C hS (by first | exact Or.inl ⟨by omega, rfl⟩) (Nat.le_of_ble_eq_true rfl) (Nat.le_of_ble_eq_true rfl) dX12_sum_52
  by_cases c4443 : wh_i = 1
  · have hc4443 : wh.toInt = 1 := by rw [iz_wh]; exact c4443
    refine lv_tableIn (off := 52) (tgt := 53) hx hb dX12_sum_1 (by rw [hc4443]; decide) (by rw [hc4443]; decide) (by rw [hc4443]; rfl) (by decide) ?_
    refine lv_aload_n hx hb dX12_sum_53 rfl (lv_at hl 0 rfl) ?_
    refine th_get C hS.1 F.1 fl_RX12_654 (F.2.2.2 84 (by decide)) dX12_sum_54 ?_
    exact th_retlH (post := fun r K1 V1 => (((0 ≤ wh_i ∧ wh_i ≤ 7) ∧ r = 0) ∨ ((0 > wh_i ∨ wh_i > 7) ∧ r = (-1)))) (cells := 0) (slots := 0) (mc := 0) (ms := 0) C hS (by first | exact Or.inl ⟨by omega, rfl⟩) (Nat.le_of_ble_eq_true rfl) (Nat.le_of_ble_eq_true rfl) dX12_sum_57
  by_cases c4444 : wh_i = 2
  · have hc4444 : wh.toInt = 2 := by rw [iz_wh]; exact c4444
    refine lv_tableIn (off := 57) (tgt := 58) hx hb dX12_sum_1 (by rw [hc4444]; decide) (by rw [hc4444]; decide) (by rw [hc4444]; rfl) (by decide) ?_
    refine lv_aload_n hx hb dX12_sum_58 rfl (lv_at hl 0 rfl) ?_
    refine th_get C hS.1 F.1 fl_RX12_657 (F.2.2.2 85 (by decide)) dX12_sum_59 ?_
    exact th_retlH (post := fun r K1 V1 => (((0 ≤ wh_i ∧ wh_i ≤ 7) ∧ r = 0) ∨ ((0 > wh_i ∨ wh_i > 7) ∧ r = (-1)))) (cells := 0) (slots := 0) (mc := 0) (ms := 0) C hS (by first | exact Or.inl ⟨by omega, rfl⟩) (Nat.le_of_ble_eq_true rfl) (Nat.le_of_ble_eq_true rfl) dX12_sum_62
  by_cases c4445 : wh_i = 3
  · have hc4445 : wh.toInt = 3 := by rw [iz_wh]; exact c4445
    refine lv_tableIn (off := 62) (tgt := 63) hx hb dX12_sum_1 (by rw [hc4445]; decide) (by rw [hc4445]; decide) (by rw [hc4445]; rfl) (by decide) ?_
    refine lv_aload_n hx hb dX12_sum_63 rfl (lv_at hl 0 rfl) ?_
    refine th_get C hS.1 F.1 fl_RX12_632 (F.2.2.2 86 (by decide)) dX12_sum_64 ?_
    exact th_retlH (post := fun r K1 V1 => (((0 ≤ wh_i ∧ wh_i ≤ 7) ∧ r = 0) ∨ ((0 > wh_i ∨ wh_i > 7) ∧ r = (-1)))) (cells := 0) (slots := 0) (mc := 0) (ms := 0) C hS (by first | exact Or.inl ⟨by omega, rfl⟩) (Nat.le_of_ble_eq_true rfl) (Nat.le_of_ble_eq_true rfl) dX12_sum_67
  by_cases c4446 : wh_i = 4
  · have hc4446 : wh.toInt = 4 := by rw [iz_wh]; exact c4446
    refine lv_tableIn (off := 67) (tgt := 68) hx hb dX12_sum_1 (by rw [hc4446]; decide) (by rw [hc4446]; decide) (by rw [hc4446]; rfl) (by decide) ?_
    refine lv_aload_n hx hb dX12_sum_68 rfl (lv_at hl 0 rfl) ?_
    refine th_get C hS.1 F.1 fl_RX12_679 (F.2.2.2 87 (by decide)) dX12_sum_69 ?_
    exact th_retlH (post := fun r K1 V1 => (((0 ≤ wh_i ∧ wh_i ≤ 7) ∧ r = 0) ∨ ((0 > wh_i ∨ wh_i > 7) ∧ r = (-1)))) (cells := 0) (slots := 0) (mc := 0) (ms := 0) C hS (by first | exact Or.inl ⟨by omega, rfl⟩) (Nat.le_of_ble_eq_true rfl) (Nat.le_of_ble_eq_true rfl) dX12_sum_72
  by_cases c4447 : wh_i = 5
  · have hc4447 : wh.toInt = 5 := by rw [iz_wh]; exact c4447
    refine lv_tableIn (off := 72) (tgt := 73) hx hb dX12_sum_1 (by rw [hc4447]; decide) (by rw [hc4447]; decide) (by rw [hc4447]; rfl) (by decide) ?_
    refine lv_aload_n hx hb dX12_sum_73 rfl (lv_at hl 0 rfl) ?_
    refine th_get C hS.1 F.1 fl_RX12_682 (F.2.2.2 88 (by decide)) dX12_sum_74 ?_
    exact th_retlH (post := fun r K1 V1 => (((0 ≤ wh_i ∧ wh_i ≤ 7) ∧ r = 0) ∨ ((0 > wh_i ∨ wh_i > 7) ∧ r = (-1)))) (cells := 0) (slots := 0) (mc := 0) (ms := 0) C hS (by first | exact Or.inl ⟨by omega, rfl⟩) (Nat.le_of_ble_eq_true rfl) (Nat.le_of_ble_eq_true rfl) dX12_sum_77
  by_cases c4448 : wh_i = 6
  · have hc4448 : wh.toInt = 6 := by rw [iz_wh]; exact c4448
    refine lv_tableIn (off := 77) (tgt := 78) hx hb dX12_sum_1 (by rw [hc4448]; decide) (by rw [hc4448]; decide) (by rw [hc4448]; rfl) (by decide) ?_
    refine lv_aload_n hx hb dX12_sum_78 rfl (lv_at hl 0 rfl) ?_
    refine th_get C hS.1 F.1 fl_RX12_635 (F.2.2.2 89 (by decide)) dX12_sum_79 ?_
    exact th_retlH (post := fun r K1 V1 => (((0 ≤ wh_i ∧ wh_i ≤ 7) ∧ r = 0) ∨ ((0 > wh_i ∨ wh_i > 7) ∧ r = (-1)))) (cells := 0) (slots := 0) (mc := 0) (ms := 0) C hS (by first | exact Or.inl ⟨by omega, rfl⟩) (Nat.le_of_ble_eq_true rfl) (Nat.le_of_ble_eq_true rfl) dX12_sum_82
  by_cases c4449 : wh_i = 7
  · have hc4449 : wh.toInt = 7 := by rw [iz_wh]; exact c4449
    refine lv_tableIn (off := 82) (tgt := 83) hx hb dX12_sum_1 (by rw [hc4449]; decide) (by rw [hc4449]; decide) (by rw [hc4449]; rfl) (by decide) ?_
    refine lv_aload_n hx hb dX12_sum_83 rfl (lv_at hl 0 rfl) ?_
    refine th_get C hS.1 F.1 fl_RX12_673 (F.2.2.2 90 (by decide)) dX12_sum_84 ?_
    exact th_retlH (post := fun r K1 V1 => (((0 ≤ wh_i ∧ wh_i ≤ 7) ∧ r = 0) ∨ ((0 > wh_i ∨ wh_i > 7) ∧ r = (-1)))) (cells := 0) (slots := 0) (mc := 0) (ms := 0) C hS (by first | exact Or.inl ⟨by omega, rfl⟩) (Nat.le_of_ble_eq_true rfl) (Nat.le_of_ble_eq_true rfl) dX12_sum_87
  have c4450 : wh_i < 0 ∨ 7 < wh_i := by omega
  refine lv_tableOut (tgt := 88) hx hb dX12_sum_1 (by rw [iz_wh]; exact c4450) (by decide) ?_
  refine lv_iload_n hx hb dX12_sum_88 rfl (lv_at hl 1 rfl) ?_
  refine lv_bipush (v := 10) hx hb dX12_sum_89 (by decide) ?_
  refine lv_bipush (v := 9) hx hb dX12_sum_91 (by decide) ?_
  refine lv_aload_n hx hb dX12_sum_93 rfl (lv_at hl 0 rfl) ?_
  refine th_get C hS.1 F.1 fl_RX12_393 (F.2.2.1 (9, 0) (by decide)) dX12_sum_94 ?_
  refine lv_iadd hx hb dX12_sum_97 ?_
  refine th_is (w := .int 9) (by decide) ?_
  refine th_goi (th_runS (As := [.int wh, .int 10, .int 9]) (rest := []) C hS.1 gS_RX12_371 (t_X12_in iz_wh li_10 li_9) hl rfl rfl rfl rfl ⟨Nat.le_of_ble_eq_true rfl, Nat.le_of_ble_eq_true rfl⟩ (Nat.le_of_ble_eq_true rfl) ⟨Nat.le_of_ble_eq_true rfl, Nat.le_of_ble_eq_true rfl⟩ dX12_sum_98) (fun r4451 hq4452 => ?_)
  refine th_if_eq (X := r4451.toInt) (tgt := 115) hx hb dX12_sum_101 (by decide) rfl (fun c4453 => ?_) (fun c4453 => absurd c4453 (by omega))
  refine lv_iload_n hx hb dX12_sum_115 rfl (lv_at hl 1 rfl) ?_
  refine lv_bipush (v := 20) hx hb dX12_sum_116 (by decide) ?_
  refine lv_bipush (v := 19) hx hb dX12_sum_118 (by decide) ?_
  refine lv_aload_n hx hb dX12_sum_120 rfl (lv_at hl 0 rfl) ?_
  refine th_get C hS.1 F.1 fl_RX12_667 (F.2.2.1 (118, 0) (by decide)) dX12_sum_121 ?_
  refine lv_iadd hx hb dX12_sum_124 ?_
  refine th_is (w := .int 19) (by decide) ?_
  refine th_goi (th_runS (As := [.int wh, .int 20, .int 19]) (rest := []) C hS.1 gS_RX12_371 (t_X12_in iz_wh li_20 li_19) hl rfl rfl rfl rfl ⟨Nat.le_of_ble_eq_true rfl, Nat.le_of_ble_eq_true rfl⟩ (Nat.le_of_ble_eq_true rfl) ⟨Nat.le_of_ble_eq_true rfl, Nat.le_of_ble_eq_true rfl⟩ dX12_sum_125) (fun r4454 hq4455 => ?_)
  refine th_if_eq (X := r4454.toInt) (tgt := 144) hx hb dX12_sum_128 (by decide) rfl (fun c4456 => ?_) (fun c4456 => absurd c4456 (by omega))
  refine lv_ldc2 (v := (-1)) hx hb C.2.2.2.2.2.1 (C.2.2.2.2.2.2.1 _ gw_2536) dX12_sum_144 ?_
  exact th_retlH (post := fun r K1 V1 => (((0 ≤ wh_i ∧ wh_i ≤ 7) ∧ r = 0) ∨ ((0 > wh_i ∨ wh_i > 7) ∧ r = (-1)))) (cells := 0) (slots := 0) (mc := 0) (ms := 0) C hS (by first | exact Or.inr (⟨by omega, rfl⟩)) (Nat.le_of_ble_eq_true rfl) (Nat.le_of_ble_eq_true rfl) dX12_sum_147

set_option maxHeartbeats 400000 in
set_option maxRecDepth 100000 in
theorem t_X12_count {l : Launch} {D : va_G} {dA : Nat → ClassId} {K : Kmap} {V : Vmap} {sz : Nat} {x : Nat} {wh : Int32} {wh_i : Int} (iz_wh : wh.toInt = wh_i) (F : FM K V x) : Met l yX12_count (wsOf yX12_count cX12_count 4 (some .int)) { frames := 1, cells := 0, slots := 0, locals := 22 } (PC D dA K V sz [.ref x, .int wh]) (PQi (fun r => ((1 ≤ wh_i ∧ wh_i ≤ 2) ∧ r.toInt = 8) ∨ ((wh_i = 0 ∨ (3 ≤ wh_i ∧ wh_i ≤ 16)) ∧ r.toInt = 0) ∨ ((wh_i ≠ 0 ∧ (wh_i < 1 ∨ wh_i > 16)) ∧ r.toInt = (-1)))) 0 0 noFree := by
  refine th_body (by decide +kernel) (Nat.le_of_ble_eq_true rfl) (fun pZ eZ sZ mZ belowZ methZ cZ C hR hsz hnm ls hl => ?_)
  have C : CX pZ sZ mZ [.ref x, .int wh].toArray methZ cZ cX12_count 4 (some .int) RX12 D dA := C
  have hx := C.1; have hb := C.2.1
  have hl : lv_has ls 4 [(0, .ref x), (1, .int wh)] := hl
  subst hsz
  have hS : ST D dA K sZ.heap K V sZ.heap [] := ST.rf hR
  have r_wh := th_rng wh; rw [iz_wh] at r_wh
  have F0 := F
  refine lv_iconst (v := 0) hx hb dX12_count_0 (by decide) ?_
  refine lv_istore_n (lv' := [(2, .int 0), (0, .ref x), (1, .int wh)]) hx hb dX12_count_1 rfl hl (by decide) rfl (fun ls hl => ?_)
  refine lv_iload_n hx hb dX12_count_2 rfl (lv_at hl 2 rfl) ?_
  by_cases c4457 : wh_i = 0
  · have hc4457 : wh.toInt = 0 := by rw [iz_wh]; exact c4457
    refine lv_tableIn (off := 81) (tgt := 84) hx hb dX12_count_3 (by rw [hc4457]; decide) (by rw [hc4457]; decide) (by rw [hc4457]; rfl) (by decide) ?_
    refine lv_aload_n hx hb dX12_count_84 rfl (lv_at hl 1 rfl) ?_
    refine th_get C hS.1 F.1 fl_RX12_396 (F.2.2.1 (2, 0) (by decide)) dX12_count_85 ?_
    exact th_reti C (Or.inr (Or.inl ⟨by omega, li_0⟩)) dX12_count_88
  by_cases c4458 : wh_i = 1
  · have hc4458 : wh.toInt = 1 := by rw [iz_wh]; exact c4458
    refine lv_tableIn (off := 86) (tgt := 89) hx hb dX12_count_3 (by rw [hc4458]; decide) (by rw [hc4458]; decide) (by rw [hc4458]; rfl) (by decide) ?_
    refine lv_aload_n hx hb dX12_count_89 rfl (lv_at hl 1 rfl) ?_
    refine th_get C hS.1 F.1 fl_RX12_365 (F.2.2.1 (0, 8) (by decide)) dX12_count_90 ?_
    exact th_reti C (Or.inl ⟨by omega, li_8⟩) dX12_count_93
  by_cases c4459 : wh_i = 2
  · have hc4459 : wh.toInt = 2 := by rw [iz_wh]; exact c4459
    refine lv_tableIn (off := 91) (tgt := 94) hx hb dX12_count_3 (by rw [hc4459]; decide) (by rw [hc4459]; decide) (by rw [hc4459]; rfl) (by decide) ?_
    refine lv_aload_n hx hb dX12_count_94 rfl (lv_at hl 1 rfl) ?_
    refine th_get C hS.1 F.1 fl_RX12_368 (F.2.2.1 (1, 8) (by decide)) dX12_count_95 ?_
    exact th_reti C (Or.inl ⟨by omega, li_8⟩) dX12_count_98
  by_cases c4460 : wh_i = 3
  · have hc4460 : wh.toInt = 3 := by rw [iz_wh]; exact c4460
    refine lv_tableIn (off := 96) (tgt := 99) hx hb dX12_count_3 (by rw [hc4460]; decide) (by rw [hc4460]; decide) (by rw [hc4460]; rfl) (by decide) ?_
    refine lv_aload_n hx hb dX12_count_99 rfl (lv_at hl 1 rfl) ?_
    refine th_get C hS.1 F.1 fl_RX12_393 (F.2.2.1 (9, 0) (by decide)) dX12_count_100 ?_
    exact th_reti C (Or.inr (Or.inl ⟨by omega, li_0⟩)) dX12_count_103
  by_cases c4461 : wh_i = 4
  · have hc4461 : wh.toInt = 4 := by rw [iz_wh]; exact c4461
    refine lv_tableIn (off := 101) (tgt := 104) hx hb dX12_count_3 (by rw [hc4461]; decide) (by rw [hc4461]; decide) (by rw [hc4461]; rfl) (by decide) ?_
    refine lv_aload_n hx hb dX12_count_104 rfl (lv_at hl 1 rfl) ?_
    refine th_get C hS.1 F.1 fl_RX12_375 (F.2.2.1 (10, 0) (by decide)) dX12_count_105 ?_
    exact th_reti C (Or.inr (Or.inl ⟨by omega, li_0⟩)) dX12_count_108
  by_cases c4462 : wh_i = 5
  · have hc4462 : wh.toInt = 5 := by rw [iz_wh]; exact c4462
    refine lv_tableIn (off := 106) (tgt := 109) hx hb dX12_count_3 (by rw [hc4462]; decide) (by rw [hc4462]; decide) (by rw [hc4462]; rfl) (by decide) ?_
    refine lv_aload_n hx hb dX12_count_109 rfl (lv_at hl 1 rfl) ?_
    refine th_get C hS.1 F.1 fl_RX12_535 (F.2.2.1 (47, 0) (by decide)) dX12_count_110 ?_
    exact th_reti C (Or.inr (Or.inl ⟨by omega, li_0⟩)) dX12_count_113
  by_cases c4463 : wh_i = 6
  · have hc4463 : wh.toInt = 6 := by rw [iz_wh]; exact c4463
    refine lv_tableIn (off := 111) (tgt := 114) hx hb dX12_count_3 (by rw [hc4463]; decide) (by rw [hc4463]; decide) (by rw [hc4463]; rfl) (by decide) ?_
    refine lv_aload_n hx hb dX12_count_114 rfl (lv_at hl 1 rfl) ?_
    refine th_get C hS.1 F.1 fl_RX12_547 (F.2.2.1 (48, 0) (by decide)) dX12_count_115 ?_
    exact th_reti C (Or.inr (Or.inl ⟨by omega, li_0⟩)) dX12_count_118
  by_cases c4464 : wh_i = 7
  · have hc4464 : wh.toInt = 7 := by rw [iz_wh]; exact c4464
    refine lv_tableIn (off := 116) (tgt := 119) hx hb dX12_count_3 (by rw [hc4464]; decide) (by rw [hc4464]; decide) (by rw [hc4464]; rfl) (by decide) ?_
    refine lv_aload_n hx hb dX12_count_119 rfl (lv_at hl 1 rfl) ?_
    refine th_get C hS.1 F.1 fl_RX12_378 (F.2.2.1 (66, 0) (by decide)) dX12_count_120 ?_
    exact th_reti C (Or.inr (Or.inl ⟨by omega, li_0⟩)) dX12_count_123
  by_cases c4465 : wh_i = 8
  · have hc4465 : wh.toInt = 8 := by rw [iz_wh]; exact c4465
    refine lv_tableIn (off := 121) (tgt := 124) hx hb dX12_count_3 (by rw [hc4465]; decide) (by rw [hc4465]; decide) (by rw [hc4465]; rfl) (by decide) ?_
    refine lv_aload_n hx hb dX12_count_124 rfl (lv_at hl 1 rfl) ?_
    refine th_get C hS.1 F.1 fl_RX12_612 (F.2.2.1 (91, 0) (by decide)) dX12_count_125 ?_
    exact th_reti C (Or.inr (Or.inl ⟨by omega, li_0⟩)) dX12_count_128
  by_cases c4466 : wh_i = 9
  · have hc4466 : wh.toInt = 9 := by rw [iz_wh]; exact c4466
    refine lv_tableIn (off := 126) (tgt := 129) hx hb dX12_count_3 (by rw [hc4466]; decide) (by rw [hc4466]; decide) (by rw [hc4466]; rfl) (by decide) ?_
    refine lv_iconst (v := 0) hx hb dX12_count_129 (by decide) ?_
    refine lv_istore_n (lv' := [(3, .int 0), (2, .int 0), (0, .ref x), (1, .int wh)]) hx hb dX12_count_130 rfl hl (by decide) rfl (fun ls hl => ?_)
    refine lv_iload_n hx hb dX12_count_131 rfl (lv_at hl 0 rfl) ?_
    refine lv_aload_n hx hb dX12_count_132 rfl (lv_at hl 2 rfl) ?_
    refine th_get C hS.1 F.1 fl_RX12_648 (F.2.2.1 (92, 0) (by decide)) dX12_count_133 ?_
    refine th_icmp_ge (X := 0) (Y := 0) (tgt := 162) hx hb dX12_count_136 (by decide) li_0 li_0 (fun c4467 => ?_) (fun c4467 => absurd c4467 (by omega))
    refine lv_iload_n hx hb dX12_count_162 rfl (lv_at hl 1 rfl) ?_
    exact th_reti C (Or.inr (Or.inl ⟨by omega, li_0⟩)) dX12_count_163
  by_cases c4468 : wh_i = 10
  · have hc4468 : wh.toInt = 10 := by rw [iz_wh]; exact c4468
    refine lv_tableIn (off := 161) (tgt := 164) hx hb dX12_count_3 (by rw [hc4468]; decide) (by rw [hc4468]; decide) (by rw [hc4468]; rfl) (by decide) ?_
    refine lv_aload_n hx hb dX12_count_164 rfl (lv_at hl 1 rfl) ?_
    refine th_get C hS.1 F.1 fl_RX12_660 (F.2.2.1 (93, 0) (by decide)) dX12_count_165 ?_
    exact th_reti C (Or.inr (Or.inl ⟨by omega, li_0⟩)) dX12_count_168
  by_cases c4469 : wh_i = 11
  · have hc4469 : wh.toInt = 11 := by rw [iz_wh]; exact c4469
    refine lv_tableIn (off := 166) (tgt := 169) hx hb dX12_count_3 (by rw [hc4469]; decide) (by rw [hc4469]; decide) (by rw [hc4469]; rfl) (by decide) ?_
    refine lv_aload_n hx hb dX12_count_169 rfl (lv_at hl 1 rfl) ?_
    refine th_get C hS.1 F.1 fl_RX12_667 (F.2.2.1 (118, 0) (by decide)) dX12_count_170 ?_
    exact th_reti C (Or.inr (Or.inl ⟨by omega, li_0⟩)) dX12_count_173
  by_cases c4470 : wh_i = 12
  · have hc4470 : wh.toInt = 12 := by rw [iz_wh]; exact c4470
    refine lv_tableIn (off := 171) (tgt := 174) hx hb dX12_count_3 (by rw [hc4470]; decide) (by rw [hc4470]; decide) (by rw [hc4470]; rfl) (by decide) ?_
    refine lv_aload_n hx hb dX12_count_174 rfl (lv_at hl 1 rfl) ?_
    refine th_get C hS.1 F.1 fl_RX12_709 (F.2.2.1 (120, 0) (by decide)) dX12_count_175 ?_
    exact th_reti C (Or.inr (Or.inl ⟨by omega, li_0⟩)) dX12_count_178
  by_cases c4471 : wh_i = 13
  · have hc4471 : wh.toInt = 13 := by rw [iz_wh]; exact c4471
    refine lv_tableIn (off := 176) (tgt := 179) hx hb dX12_count_3 (by rw [hc4471]; decide) (by rw [hc4471]; decide) (by rw [hc4471]; rfl) (by decide) ?_
    refine lv_aload_n hx hb dX12_count_179 rfl (lv_at hl 1 rfl) ?_
    refine th_get C hS.1 F.1 fl_RX12_718 (F.2.2.1 (133, 0) (by decide)) dX12_count_180 ?_
    exact th_reti C (Or.inr (Or.inl ⟨by omega, li_0⟩)) dX12_count_183
  by_cases c4472 : wh_i = 14
  · have hc4472 : wh.toInt = 14 := by rw [iz_wh]; exact c4472
    refine lv_tableIn (off := 181) (tgt := 184) hx hb dX12_count_3 (by rw [hc4472]; decide) (by rw [hc4472]; decide) (by rw [hc4472]; rfl) (by decide) ?_
    refine lv_aload_n hx hb dX12_count_184 rfl (lv_at hl 1 rfl) ?_
    refine th_get C hS.1 F.1 fl_RX12_736 (F.2.2.1 (137, 0) (by decide)) dX12_count_185 ?_
    exact th_reti C (Or.inr (Or.inl ⟨by omega, li_0⟩)) dX12_count_188
  by_cases c4473 : wh_i = 15
  · have hc4473 : wh.toInt = 15 := by rw [iz_wh]; exact c4473
    refine lv_tableIn (off := 186) (tgt := 189) hx hb dX12_count_3 (by rw [hc4473]; decide) (by rw [hc4473]; decide) (by rw [hc4473]; rfl) (by decide) ?_
    refine lv_aload_n hx hb dX12_count_189 rfl (lv_at hl 1 rfl) ?_
    refine th_get C hS.1 F.1 fl_RX12_761 (F.2.2.1 (145, 0) (by decide)) dX12_count_190 ?_
    exact th_reti C (Or.inr (Or.inl ⟨by omega, li_0⟩)) dX12_count_193
  by_cases c4474 : wh_i = 16
  · have hc4474 : wh.toInt = 16 := by rw [iz_wh]; exact c4474
    refine lv_tableIn (off := 191) (tgt := 194) hx hb dX12_count_3 (by rw [hc4474]; decide) (by rw [hc4474]; decide) (by rw [hc4474]; rfl) (by decide) ?_
    refine lv_aload_n hx hb dX12_count_194 rfl (lv_at hl 1 rfl) ?_
    refine th_get C hS.1 F.1 fl_RX12_436 (F.2.2.1 (30, 0) (by decide)) dX12_count_195 ?_
    exact th_reti C (Or.inr (Or.inl ⟨by omega, li_0⟩)) dX12_count_198
  have c4475 : wh_i < 0 ∨ 16 < wh_i := by omega
  refine lv_tableOut (tgt := 199) hx hb dX12_count_3 (by rw [iz_wh]; exact c4475) (by decide) ?_
  refine lv_iload_n hx hb dX12_count_199 rfl (lv_at hl 2 rfl) ?_
  refine lv_bipush (v := 20) hx hb dX12_count_200 (by decide) ?_
  refine lv_bipush (v := 19) hx hb dX12_count_202 (by decide) ?_
  refine lv_aload_n hx hb dX12_count_204 rfl (lv_at hl 1 rfl) ?_
  refine th_get C hS.1 F.1 fl_RX12_393 (F.2.2.1 (9, 0) (by decide)) dX12_count_205 ?_
  refine lv_iadd hx hb dX12_count_208 ?_
  refine th_is (w := .int 19) (by decide) ?_
  refine th_goi (th_runS (As := [.int wh, .int 20, .int 19]) (rest := []) C hS.1 gS_RX12_371 (t_X12_in iz_wh li_20 li_19) hl rfl rfl rfl rfl ⟨Nat.le_of_ble_eq_true rfl, Nat.le_of_ble_eq_true rfl⟩ (Nat.le_of_ble_eq_true rfl) ⟨Nat.le_of_ble_eq_true rfl, Nat.le_of_ble_eq_true rfl⟩ dX12_count_209) (fun r4476 hq4477 => ?_)
  refine th_if_eq (X := r4476.toInt) (tgt := 227) hx hb dX12_count_212 (by decide) rfl (fun c4478 => ?_) (fun c4478 => absurd c4478 (by omega))
  refine lv_iconst (v := (-1)) hx hb dX12_count_227 (by decide) ?_
  exact th_reti C (Or.inr (Or.inr (⟨by omega, li_n1⟩))) dX12_count_228
