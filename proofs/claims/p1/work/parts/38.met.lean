set_option maxHeartbeats 400000 in
set_option maxRecDepth 100000 in
theorem t_X12_drill {l : Launch} {D : va_G} {dA : Nat → ClassId} {K : Kmap} {V : Vmap} {sz : Nat} {x : Nat} {k w : Int32} {k_i w_i : Int} (iz_k : k.toInt = k_i) (iz_w : w.toInt = w_i) (F : FM K V x) : Met l yX12_drill (wsOf yX12_drill cX12_drill 3 (some .int)) { frames := 1, cells := 0, slots := 0, locals := 22 } (PC D dA K V sz [.ref x, .int k, .int w]) (PQi (fun r => (r.toInt = (-1)))) 0 0 noFree := by
  refine th_body (by decide +kernel) (Nat.le_of_ble_eq_true rfl) (fun pZ eZ sZ mZ belowZ methZ cZ C hR hsz hnm ls hl => ?_)
  have C : CX pZ sZ mZ [.ref x, .int k, .int w].toArray methZ cZ cX12_drill 3 (some .int) RX12 D dA := C
  have hx := C.1; have hb := C.2.1
  have hl : lv_has ls 3 [(0, .ref x), (1, .int k), (2, .int w)] := hl
  subst hsz
  have hS : ST D dA K sZ.heap K V sZ.heap [] := ST.rf hR
  have r_k := th_rng k; rw [iz_k] at r_k
  have r_w := th_rng w; rw [iz_w] at r_w
  have F0 := F
  refine lv_aload_n hx hb dX12_drill_0 rfl (lv_at hl 0 rfl) ?_
  refine lv_iload_n hx hb dX12_drill_1 rfl (lv_at hl 1 rfl) ?_
  refine lv_iconst (v := 4) hx hb dX12_drill_2 (by decide) ?_
  refine th_goi (th_runV (As := [.int k, .int 4]) (rest := []) C hS.1 (RX12, TX12, 151) rfl gV_RX12_399 F.1 (t_X12_isPlace iz_k li_4 F.1 (F.2.2.1 (10, 0) (by decide))) hl rfl rfl rfl rfl ⟨Nat.le_of_ble_eq_true rfl, Nat.le_of_ble_eq_true rfl⟩ (Nat.le_of_ble_eq_true rfl) ⟨Nat.le_of_ble_eq_true rfl, Nat.le_of_ble_eq_true rfl⟩ dX12_drill_3) (fun r4351 hq4352 => ?_)
  refine th_if_eq (X := r4351.toInt) (tgt := 51) hx hb dX12_drill_6 (by decide) rfl (fun c4353 => ?_) (fun c4353 => absurd c4353 (by omega))
  refine lv_iconst (v := (-1)) hx hb dX12_drill_51 (by decide) ?_
  exact th_reti C (by have hfin := li_n1; omega) dX12_drill_52

set_option maxHeartbeats 400000 in
set_option maxRecDepth 100000 in
theorem t_X12_speed {l : Launch} {D : va_G} {dA : Nat → ClassId} {K : Kmap} {V : Vmap} {sz : Nat} {x : Nat} {pt n : Int32} {pt_i n_i : Int} (iz_pt : pt.toInt = pt_i) (iz_n : n.toInt = n_i) (F : FM K V x) : Met l yX12_speed (wsOf yX12_speed cX12_speed 3 (some .boolean)) { frames := 1, cells := 0, slots := 0, locals := 22 } (PC D dA K V sz [.ref x, .int pt, .int n]) (HQi D dA K (fun r K1 V1 => ((((pt_i = (-1) ∧ (0 ≤ n_i ∧ n_i ≤ 1000)) ∨ ((0 ≤ pt_i ∧ pt_i ≤ 9) ∧ (1 ≤ n_i ∧ n_i ≤ 200))) ∧ r.toInt = 1) ∨ (((pt_i ≠ (-1) ∨ (0 > n_i ∨ n_i > 1000)) ∧ ((0 > pt_i ∨ pt_i > 9) ∨ (1 > n_i ∨ n_i > 200))) ∧ r.toInt = 0)))) 0 0 (AK K sz) := by
  refine th_body (by decide +kernel) (Nat.le_of_ble_eq_true rfl) (fun pZ eZ sZ mZ belowZ methZ cZ C hR hsz hnm ls hl => ?_)
  have C : CX pZ sZ mZ [.ref x, .int pt, .int n].toArray methZ cZ cX12_speed 3 (some .boolean) RX12 D dA := C
  have hx := C.1; have hb := C.2.1
  have hl : lv_has ls 3 [(0, .ref x), (1, .int pt), (2, .int n)] := hl
  subst hsz
  have hS : ST D dA K sZ.heap K V sZ.heap [] := ST.rf hR
  have r_pt := th_rng pt; rw [iz_pt] at r_pt
  have r_n := th_rng n; rw [iz_n] at r_n
  have F0 := F
  obtain ⟨f127, hv_f127, hk_f127⟩ := F.2.1 (127, (1, 10)) (by decide)
  refine lv_iload_n hx hb dX12_speed_0 rfl (lv_at hl 1 rfl) ?_
  refine lv_iconst (v := (-1)) hx hb dX12_speed_1 (by decide) ?_
  refine th_icmp_ne (X := pt_i) (Y := (-1)) (tgt := 23) hx hb dX12_speed_2 (by decide) iz_pt li_n1 (fun c4354 => ?_) (fun c4354 => ?_)
  · refine lv_iload_n hx hb dX12_speed_23 rfl (lv_at hl 1 rfl) ?_
    refine lv_iconst (v := 0) hx hb dX12_speed_24 (by decide) ?_
    refine lv_bipush (v := 9) hx hb dX12_speed_25 (by decide) ?_
    refine th_goi (th_runS (As := [.int pt, .int 0, .int 9]) (rest := []) C hS.1 gS_RX12_371 (t_X12_in iz_pt li_0 li_9) hl rfl rfl rfl rfl ⟨Nat.le_of_ble_eq_true rfl, Nat.le_of_ble_eq_true rfl⟩ (Nat.le_of_ble_eq_true rfl) ⟨Nat.le_of_ble_eq_true rfl, Nat.le_of_ble_eq_true rfl⟩ dX12_speed_27) (fun r4355 hq4356 => ?_)
    refine th_if_eq (X := r4355.toInt) (tgt := 44) hx hb dX12_speed_30 (by decide) rfl (fun c4357 => ?_) (fun c4357 => ?_)
    · replace hq4356 := Or.resolve_left hq4356 (fun h => absurd h.2 (by omega))
      refine lv_iconst (v := 0) hx hb dX12_speed_44 (by decide) ?_
      exact th_retzH (post := fun r K1 V1 => ((((pt_i = (-1) ∧ (0 ≤ n_i ∧ n_i ≤ 1000)) ∨ ((0 ≤ pt_i ∧ pt_i ≤ 9) ∧ (1 ≤ n_i ∧ n_i ≤ 200))) ∧ r.toInt = 1) ∨ (((pt_i ≠ (-1) ∨ (0 > n_i ∨ n_i > 1000)) ∧ ((0 > pt_i ∨ pt_i > 9) ∨ (1 > n_i ∨ n_i > 200))) ∧ r.toInt = 0))) (cells := 0) (slots := 0) (mc := 0) (ms := 0) C hS (by have hfin := li_0; omega) (Or.inr (⟨by omega, li_0⟩)) (Nat.le_of_ble_eq_true rfl) (Nat.le_of_ble_eq_true rfl) dX12_speed_45
    · replace hq4356 := Or.resolve_right hq4356 (fun h => absurd h.2 (by omega))
      refine lv_iload_n hx hb dX12_speed_33 rfl (lv_at hl 2 rfl) ?_
      refine lv_iconst (v := 1) hx hb dX12_speed_34 (by decide) ?_
      refine lv_sipush (v := 200) hx hb dX12_speed_35 (by decide) ?_
      refine th_goi (th_runS (As := [.int n, .int 1, .int 200]) (rest := []) C hS.1 gS_RX12_371 (t_X12_in iz_n li_1 li_200) hl rfl rfl rfl rfl ⟨Nat.le_of_ble_eq_true rfl, Nat.le_of_ble_eq_true rfl⟩ (Nat.le_of_ble_eq_true rfl) ⟨Nat.le_of_ble_eq_true rfl, Nat.le_of_ble_eq_true rfl⟩ dX12_speed_38) (fun r4358 hq4359 => ?_)
      refine th_if_ne (X := r4358.toInt) (tgt := 46) hx hb dX12_speed_41 (by decide) rfl (fun c4360 => ?_) (fun c4360 => ?_)
      · replace hq4359 := Or.resolve_right hq4359 (fun h => absurd h.2 (by omega))
        refine lv_aload_n hx hb dX12_speed_46 rfl (lv_at hl 0 rfl) ?_
        refine th_get C hS.1 F.1 fl_RX12_301 hv_f127 dX12_speed_47 ?_
        refine lv_iload_n hx hb dX12_speed_50 rfl (lv_at hl 1 rfl) ?_
        refine lv_iload_n hx hb dX12_speed_51 rfl (lv_at hl 2 rfl) ?_
        refine th_iast C hS hk_f127 (by rw [iz_pt]; omega) (by rw [iz_pt]; omega) dX12_speed_52 (fun V4361 H locs1 hV4362 hS => ?_)
        refine lv_iconst (v := 1) hx hb dX12_speed_53 (by decide) ?_
        exact th_retzH (post := fun r K1 V1 => ((((pt_i = (-1) ∧ (0 ≤ n_i ∧ n_i ≤ 1000)) ∨ ((0 ≤ pt_i ∧ pt_i ≤ 9) ∧ (1 ≤ n_i ∧ n_i ≤ 200))) ∧ r.toInt = 1) ∨ (((pt_i ≠ (-1) ∨ (0 > n_i ∨ n_i > 1000)) ∧ ((0 > pt_i ∨ pt_i > 9) ∨ (1 > n_i ∨ n_i > 200))) ∧ r.toInt = 0))) (cells := 0) (slots := 0) (mc := 0) (ms := 0) C hS (by have hfin := li_1; omega) (Or.inl ⟨by omega, li_1⟩) (Nat.le_of_ble_eq_true rfl) (Nat.le_of_ble_eq_true rfl) dX12_speed_54
      · replace hq4359 := Or.resolve_left hq4359 (fun h => absurd h.2 (by omega))
        refine lv_iconst (v := 0) hx hb dX12_speed_44 (by decide) ?_
        exact th_retzH (post := fun r K1 V1 => ((((pt_i = (-1) ∧ (0 ≤ n_i ∧ n_i ≤ 1000)) ∨ ((0 ≤ pt_i ∧ pt_i ≤ 9) ∧ (1 ≤ n_i ∧ n_i ≤ 200))) ∧ r.toInt = 1) ∨ (((pt_i ≠ (-1) ∨ (0 > n_i ∨ n_i > 1000)) ∧ ((0 > pt_i ∨ pt_i > 9) ∨ (1 > n_i ∨ n_i > 200))) ∧ r.toInt = 0))) (cells := 0) (slots := 0) (mc := 0) (ms := 0) C hS (by have hfin := li_0; omega) (Or.inr (⟨by omega, li_0⟩)) (Nat.le_of_ble_eq_true rfl) (Nat.le_of_ble_eq_true rfl) dX12_speed_45
  · refine lv_iload_n hx hb dX12_speed_5 rfl (lv_at hl 2 rfl) ?_
    refine lv_iconst (v := 0) hx hb dX12_speed_6 (by decide) ?_
    refine lv_sipush (v := 1000) hx hb dX12_speed_7 (by decide) ?_
    refine th_goi (th_runS (As := [.int n, .int 0, .int 1000]) (rest := []) C hS.1 gS_RX12_371 (t_X12_in iz_n li_0 li_1000) hl rfl rfl rfl rfl ⟨Nat.le_of_ble_eq_true rfl, Nat.le_of_ble_eq_true rfl⟩ (Nat.le_of_ble_eq_true rfl) ⟨Nat.le_of_ble_eq_true rfl, Nat.le_of_ble_eq_true rfl⟩ dX12_speed_10) (fun r4363 hq4364 => ?_)
    refine th_if_eq (X := r4363.toInt) (tgt := 23) hx hb dX12_speed_13 (by decide) rfl (fun c4365 => ?_) (fun c4365 => ?_)
    · replace hq4364 := Or.resolve_left hq4364 (fun h => absurd h.2 (by omega))
      refine lv_iload_n hx hb dX12_speed_23 rfl (lv_at hl 1 rfl) ?_
      refine lv_iconst (v := 0) hx hb dX12_speed_24 (by decide) ?_
      refine lv_bipush (v := 9) hx hb dX12_speed_25 (by decide) ?_
      refine th_goi (th_runS (As := [.int pt, .int 0, .int 9]) (rest := []) C hS.1 gS_RX12_371 (t_X12_in iz_pt li_0 li_9) hl rfl rfl rfl rfl ⟨Nat.le_of_ble_eq_true rfl, Nat.le_of_ble_eq_true rfl⟩ (Nat.le_of_ble_eq_true rfl) ⟨Nat.le_of_ble_eq_true rfl, Nat.le_of_ble_eq_true rfl⟩ dX12_speed_27) (fun r4366 hq4367 => ?_)
      refine th_if_eq (X := r4366.toInt) (tgt := 44) hx hb dX12_speed_30 (by decide) rfl (fun c4368 => ?_) (fun c4368 => absurd c4368 (by omega))
      refine lv_iconst (v := 0) hx hb dX12_speed_44 (by decide) ?_
      exact th_retzH (post := fun r K1 V1 => ((((pt_i = (-1) ∧ (0 ≤ n_i ∧ n_i ≤ 1000)) ∨ ((0 ≤ pt_i ∧ pt_i ≤ 9) ∧ (1 ≤ n_i ∧ n_i ≤ 200))) ∧ r.toInt = 1) ∨ (((pt_i ≠ (-1) ∨ (0 > n_i ∨ n_i > 1000)) ∧ ((0 > pt_i ∨ pt_i > 9) ∨ (1 > n_i ∨ n_i > 200))) ∧ r.toInt = 0))) (cells := 0) (slots := 0) (mc := 0) (ms := 0) C hS (by have hfin := li_0; omega) (Or.inr (⟨by omega, li_0⟩)) (Nat.le_of_ble_eq_true rfl) (Nat.le_of_ble_eq_true rfl) dX12_speed_45
    · replace hq4364 := Or.resolve_right hq4364 (fun h => absurd h.2 (by omega))
      refine lv_aload_n hx hb dX12_speed_16 rfl (lv_at hl 0 rfl) ?_
      refine lv_iload_n hx hb dX12_speed_17 rfl (lv_at hl 2 rfl) ?_
      refine th_put C hS F.1 fp_RX12_280 rfl rfl dX12_speed_18 (fun V4369 H locs1 hV4370 hS => ?_)
      refine lv_iconst (v := 1) hx hb dX12_speed_21 (by decide) ?_
      exact th_retzH (post := fun r K1 V1 => ((((pt_i = (-1) ∧ (0 ≤ n_i ∧ n_i ≤ 1000)) ∨ ((0 ≤ pt_i ∧ pt_i ≤ 9) ∧ (1 ≤ n_i ∧ n_i ≤ 200))) ∧ r.toInt = 1) ∨ (((pt_i ≠ (-1) ∨ (0 > n_i ∨ n_i > 1000)) ∧ ((0 > pt_i ∨ pt_i > 9) ∨ (1 > n_i ∨ n_i > 200))) ∧ r.toInt = 0))) (cells := 0) (slots := 0) (mc := 0) (ms := 0) C hS (by have hfin := li_1; omega) (Or.inl ⟨by omega, li_1⟩) (Nat.le_of_ble_eq_true rfl) (Nat.le_of_ble_eq_true rfl) dX12_speed_22

set_option maxHeartbeats 400000 in
set_option maxRecDepth 100000 in
theorem t_X12_birds {l : Launch} {D : va_G} {dA : Nat → ClassId} {K : Kmap} {V : Vmap} {sz : Nat} {x : Nat} {k yr n : Int32} {k_i yr_i n_i : Int} (iz_k : k.toInt = k_i) (iz_yr : yr.toInt = yr_i) (iz_n : n.toInt = n_i) (F : FM K V x) : Met l yX12_birds (wsOf yX12_birds cX12_birds 4 (some .boolean)) { frames := 1, cells := 0, slots := 0, locals := 22 } (PC D dA K V sz [.ref x, .int k, .int yr, .int n]) (PQi (fun r => (r.toInt = 0))) 0 0 noFree := by
  refine th_body (by decide +kernel) (Nat.le_of_ble_eq_true rfl) (fun pZ eZ sZ mZ belowZ methZ cZ C hR hsz hnm ls hl => ?_)
  have C : CX pZ sZ mZ [.ref x, .int k, .int yr, .int n].toArray methZ cZ cX12_birds 4 (some .boolean) RX12 D dA := C
  have hx := C.1; have hb := C.2.1
  have hl : lv_has ls 4 [(0, .ref x), (1, .int k), (2, .int yr), (3, .int n)] := hl
  subst hsz
  have hS : ST D dA K sZ.heap K V sZ.heap [] := ST.rf hR
  have r_k := th_rng k; rw [iz_k] at r_k
  have r_yr := th_rng yr; rw [iz_yr] at r_yr
  have r_n := th_rng n; rw [iz_n] at r_n
  have F0 := F
  refine lv_aload_n hx hb dX12_birds_0 rfl (lv_at hl 0 rfl) ?_
  refine lv_iload_n hx hb dX12_birds_1 rfl (lv_at hl 1 rfl) ?_
  refine lv_iconst (v := 5) hx hb dX12_birds_2 (by decide) ?_
  refine th_goi (th_runV (As := [.int k, .int 5]) (rest := []) C hS.1 (RX12, TX12, 151) rfl gV_RX12_399 F.1 (t_X12_isPlace iz_k li_5 F.1 (F.2.2.1 (10, 0) (by decide))) hl rfl rfl rfl rfl ⟨Nat.le_of_ble_eq_true rfl, Nat.le_of_ble_eq_true rfl⟩ (Nat.le_of_ble_eq_true rfl) ⟨Nat.le_of_ble_eq_true rfl, Nat.le_of_ble_eq_true rfl⟩ dX12_birds_3) (fun r4371 hq4372 => ?_)
  refine th_if_eq (X := r4371.toInt) (tgt := 30) hx hb dX12_birds_6 (by decide) rfl (fun c4373 => ?_) (fun c4373 => absurd c4373 (by omega))
  refine lv_iconst (v := 0) hx hb dX12_birds_30 (by decide) ?_
  exact th_retz C (by have hfin := li_0; omega) (by have hfin := li_0; omega) dX12_birds_31

set_option maxHeartbeats 400000 in
set_option maxRecDepth 100000 in
theorem t_X12_loss {l : Launch} {D : va_G} {dA : Nat → ClassId} {K : Kmap} {V : Vmap} {sz : Nat} {x : Nat} {k a b e1 wh : Int32} {k_i a_i b_i e1_i wh_i : Int} (iz_k : k.toInt = k_i) (iz_a : a.toInt = a_i) (iz_b : b.toInt = b_i) (iz_e1 : e1.toInt = e1_i) (iz_wh : wh.toInt = wh_i) (F : FM K V x) : Met l yX12_loss (wsOf yX12_loss cX12_loss 9 (some .int)) { frames := 1, cells := 0, slots := 0, locals := 22 } (PC D dA K V sz [.ref x, .int k, .int a, .int b, .int e1, .int wh]) (PQi (fun r => (r.toInt = (-1000000)))) 0 0 noFree := by
  refine th_body (by decide +kernel) (Nat.le_of_ble_eq_true rfl) (fun pZ eZ sZ mZ belowZ methZ cZ C hR hsz hnm ls hl => ?_)
  have C : CX pZ sZ mZ [.ref x, .int k, .int a, .int b, .int e1, .int wh].toArray methZ cZ cX12_loss 9 (some .int) RX12 D dA := C
  have hx := C.1; have hb := C.2.1
  have hl : lv_has ls 9 [(0, .ref x), (1, .int k), (2, .int a), (3, .int b), (4, .int e1), (5, .int wh)] := hl
  subst hsz
  have hS : ST D dA K sZ.heap K V sZ.heap [] := ST.rf hR
  have r_k := th_rng k; rw [iz_k] at r_k
  have r_a := th_rng a; rw [iz_a] at r_a
  have r_b := th_rng b; rw [iz_b] at r_b
  have r_e1 := th_rng e1; rw [iz_e1] at r_e1
  have r_wh := th_rng wh; rw [iz_wh] at r_wh
  have F0 := F
  refine lv_aload_n hx hb dX12_loss_0 rfl (lv_at hl 0 rfl) ?_
  refine lv_iload_n hx hb dX12_loss_1 rfl (lv_at hl 1 rfl) ?_
  refine lv_iconst (v := 5) hx hb dX12_loss_2 (by decide) ?_
  refine th_goi (th_runV (As := [.int k, .int 5]) (rest := []) C hS.1 (RX12, TX12, 151) rfl gV_RX12_399 F.1 (t_X12_isPlace iz_k li_5 F.1 (F.2.2.1 (10, 0) (by decide))) hl rfl rfl rfl rfl ⟨Nat.le_of_ble_eq_true rfl, Nat.le_of_ble_eq_true rfl⟩ (Nat.le_of_ble_eq_true rfl) ⟨Nat.le_of_ble_eq_true rfl, Nat.le_of_ble_eq_true rfl⟩ dX12_loss_3) (fun r4374 hq4375 => ?_)
  refine th_if_eq (X := r4374.toInt) (tgt := 52) hx hb dX12_loss_6 (by decide) rfl (fun c4376 => ?_) (fun c4376 => absurd c4376 (by omega))
  refine lv_ldcw (v := (-1000000)) hx hb C.2.2.2.2.2.1 (C.2.2.2.2.2.2.1 _ gw_2322) dX12_loss_52 ?_
  exact th_reti C (by have hfin := li_n1000000; omega) dX12_loss_55

set_option maxHeartbeats 400000 in
set_option maxRecDepth 100000 in
theorem t_X12_noise {l : Launch} {D : va_G} {dA : Nat → ClassId} {K : Kmap} {V : Vmap} {sz : Nat} {x : Nat} {k yr : Int32} {k_i yr_i : Int} (iz_k : k.toInt = k_i) (iz_yr : yr.toInt = yr_i) (F : FM K V x) : Met l yX12_noise (wsOf yX12_noise cX12_noise 3 (some .int)) { frames := 1, cells := 0, slots := 0, locals := 22 } (PC D dA K V sz [.ref x, .int k, .int yr]) (PQi (fun r => (r.toInt = (-1)))) 0 0 noFree := by
  refine th_body (by decide +kernel) (Nat.le_of_ble_eq_true rfl) (fun pZ eZ sZ mZ belowZ methZ cZ C hR hsz hnm ls hl => ?_)
  have C : CX pZ sZ mZ [.ref x, .int k, .int yr].toArray methZ cZ cX12_noise 3 (some .int) RX12 D dA := C
  have hx := C.1; have hb := C.2.1
  have hl : lv_has ls 3 [(0, .ref x), (1, .int k), (2, .int yr)] := hl
  subst hsz
  have hS : ST D dA K sZ.heap K V sZ.heap [] := ST.rf hR
  have r_k := th_rng k; rw [iz_k] at r_k
  have r_yr := th_rng yr; rw [iz_yr] at r_yr
  have F0 := F
  refine lv_aload_n hx hb dX12_noise_0 rfl (lv_at hl 0 rfl) ?_
  refine lv_iload_n hx hb dX12_noise_1 rfl (lv_at hl 1 rfl) ?_
  refine lv_iconst (v := 5) hx hb dX12_noise_2 (by decide) ?_
  refine th_goi (th_runV (As := [.int k, .int 5]) (rest := []) C hS.1 (RX12, TX12, 151) rfl gV_RX12_399 F.1 (t_X12_isPlace iz_k li_5 F.1 (F.2.2.1 (10, 0) (by decide))) hl rfl rfl rfl rfl ⟨Nat.le_of_ble_eq_true rfl, Nat.le_of_ble_eq_true rfl⟩ (Nat.le_of_ble_eq_true rfl) ⟨Nat.le_of_ble_eq_true rfl, Nat.le_of_ble_eq_true rfl⟩ dX12_noise_3) (fun r4377 hq4378 => ?_)
  refine th_if_eq (X := r4377.toInt) (tgt := 33) hx hb dX12_noise_6 (by decide) rfl (fun c4379 => ?_) (fun c4379 => absurd c4379 (by omega))
  refine lv_iconst (v := (-1)) hx hb dX12_noise_33 (by decide) ?_
  exact th_reti C (by have hfin := li_n1; omega) dX12_noise_34

set_option maxHeartbeats 400000 in
set_option maxRecDepth 100000 in
theorem t_X12_caught {l : Launch} {D : va_G} {dA : Nat → ClassId} {K : Kmap} {V : Vmap} {sz : Nat} {x : Nat} {sh1 kd se1 tn dy : Int32} {sh1_i kd_i se1_i tn_i dy_i : Int} (iz_sh1 : sh1.toInt = sh1_i) (iz_kd : kd.toInt = kd_i) (iz_se1 : se1.toInt = se1_i) (iz_tn : tn.toInt = tn_i) (iz_dy : dy.toInt = dy_i) (F : FM K V x) : Met l yX12_caught (wsOf yX12_caught cX12_caught 6 (some .int)) { frames := 1, cells := 0, slots := 0, locals := 21 } (PC D dA K V sz [.ref x, .int sh1, .int kd, .int se1, .int tn, .int dy]) (PQi (fun r => (r.toInt = (-1)))) 0 0 noFree := by
  refine th_body (by decide +kernel) (Nat.le_of_ble_eq_true rfl) (fun pZ eZ sZ mZ belowZ methZ cZ C hR hsz hnm ls hl => ?_)
  have C : CX pZ sZ mZ [.ref x, .int sh1, .int kd, .int se1, .int tn, .int dy].toArray methZ cZ cX12_caught 6 (some .int) RX12 D dA := C
  have hx := C.1; have hb := C.2.1
  have hl : lv_has ls 6 [(0, .ref x), (1, .int sh1), (2, .int kd), (3, .int se1), (4, .int tn), (5, .int dy)] := hl
  subst hsz
  have hS : ST D dA K sZ.heap K V sZ.heap [] := ST.rf hR
  have r_sh1 := th_rng sh1; rw [iz_sh1] at r_sh1
  have r_kd := th_rng kd; rw [iz_kd] at r_kd
  have r_se1 := th_rng se1; rw [iz_se1] at r_se1
  have r_tn := th_rng tn; rw [iz_tn] at r_tn
  have r_dy := th_rng dy; rw [iz_dy] at r_dy
  have F0 := F
  refine lv_aload_n hx hb dX12_caught_0 rfl (lv_at hl 0 rfl) ?_
  refine lv_iload_n hx hb dX12_caught_1 rfl (lv_at hl 1 rfl) ?_
  refine th_goi (th_runV (As := [.int sh1]) (rest := []) C hS.1 (RX12, TX12, 151) rfl gV_RX12_618 F.1 (t_X12_isShip iz_sh1 F.1 (F.2.2.1 (91, 0) (by decide))) hl rfl rfl rfl rfl ⟨Nat.le_of_ble_eq_true rfl, Nat.le_of_ble_eq_true rfl⟩ (Nat.le_of_ble_eq_true rfl) ⟨Nat.le_of_ble_eq_true rfl, Nat.le_of_ble_eq_true rfl⟩ dX12_caught_2) (fun r4380 hq4381 => ?_)
  refine th_if_eq (X := r4380.toInt) (tgt := 59) hx hb dX12_caught_5 (by decide) rfl (fun c4382 => ?_) (fun c4382 => absurd c4382 (by omega))
  refine lv_iconst (v := (-1)) hx hb dX12_caught_59 (by decide) ?_
  exact th_reti C (by have hfin := li_n1; omega) dX12_caught_60

set_option maxHeartbeats 400000 in
set_option maxRecDepth 100000 in
theorem t_X12_over {l : Launch} {D : va_G} {dA : Nat → ClassId} {K : Kmap} {V : Vmap} {sz : Nat} {x : Nat} (F : FM K V x) : Met l yX12_over (wsOf yX12_over cX12_over 7 (some .int)) { frames := 0, cells := 0, slots := 0, locals := 0 } (PC D dA K V sz [.ref x]) (PQi (fun r => (r.toInt = (-1)))) 0 0 noFree := by
  refine th_body (by decide +kernel) (Nat.le_of_ble_eq_true rfl) (fun pZ eZ sZ mZ belowZ methZ cZ C hR hsz hnm ls hl => ?_)
  have C : CX pZ sZ mZ [.ref x].toArray methZ cZ cX12_over 7 (some .int) RX12 D dA := C
  have hx := C.1; have hb := C.2.1
  have hl : lv_has ls 7 [(0, .ref x)] := hl
  subst hsz
  have hS : ST D dA K sZ.heap K V sZ.heap [] := ST.rf hR
  have F0 := F
  refine lv_iconst (v := (-1)) hx hb dX12_over_0 (by decide) ?_
  refine lv_istore_n (lv' := [(1, .int (-1)), (0, .ref x)]) hx hb dX12_over_1 rfl hl (by decide) rfl (fun ls hl => ?_)
  refine lv_iconst (v := 0) hx hb dX12_over_2 (by decide) ?_
  refine lv_istore_n (lv' := [(2, .int 0), (1, .int (-1)), (0, .ref x)]) hx hb dX12_over_3 rfl hl (by decide) rfl (fun ls hl => ?_)
  refine lv_iload_n hx hb dX12_over_4 rfl (lv_at hl 0 rfl) ?_
  refine lv_aload_n hx hb dX12_over_5 rfl (lv_at hl 2 rfl) ?_
  refine th_get C hS.1 F.1 fl_RX12_709 (F.2.2.1 (120, 0) (by decide)) dX12_over_6 ?_
  refine th_icmp_ge (X := 0) (Y := 0) (tgt := 199) hx hb dX12_over_9 (by decide) li_0 li_0 (fun c4383 => ?_) (fun c4383 => absurd c4383 (by omega))
  refine lv_iload_n hx hb dX12_over_199 rfl (lv_at hl 1 rfl) ?_
  exact th_reti C (by have hfin := li_n1; omega) dX12_over_200

set_option maxHeartbeats 400000 in
set_option maxRecDepth 100000 in
theorem t_X12_doubt {l : Launch} {D : va_G} {dA : Nat → ClassId} {K : Kmap} {V : Vmap} {sz : Nat} {x : Nat} {wh : Int32} {wh_i : Int} (iz_wh : wh.toInt = wh_i) (F : FM K V x) : Met l yX12_doubt (wsOf yX12_doubt cX12_doubt 4 (some .int)) { frames := 1, cells := 0, slots := 0, locals := 22 } (PC D dA K V sz [.ref x, .int wh]) (PQi (fun r => (r.toInt = (-1)))) 0 0 noFree := by
  refine th_body (by decide +kernel) (Nat.le_of_ble_eq_true rfl) (fun pZ eZ sZ mZ belowZ methZ cZ C hR hsz hnm ls hl => ?_)
  have C : CX pZ sZ mZ [.ref x, .int wh].toArray methZ cZ cX12_doubt 4 (some .int) RX12 D dA := C
  have hx := C.1; have hb := C.2.1
  have hl : lv_has ls 4 [(0, .ref x), (1, .int wh)] := hl
  subst hsz
  have hS : ST D dA K sZ.heap K V sZ.heap [] := ST.rf hR
  have r_wh := th_rng wh; rw [iz_wh] at r_wh
  have F0 := F
  refine lv_iload_n hx hb dX12_doubt_0 rfl (lv_at hl 1 rfl) ?_
  refine lv_iconst (v := 0) hx hb dX12_doubt_1 (by decide) ?_
  refine lv_iconst (v := 1) hx hb dX12_doubt_2 (by decide) ?_
  refine th_goi (th_runS (As := [.int wh, .int 0, .int 1]) (rest := []) C hS.1 gS_RX12_371 (t_X12_in iz_wh li_0 li_1) hl rfl rfl rfl rfl ⟨Nat.le_of_ble_eq_true rfl, Nat.le_of_ble_eq_true rfl⟩ (Nat.le_of_ble_eq_true rfl) ⟨Nat.le_of_ble_eq_true rfl, Nat.le_of_ble_eq_true rfl⟩ dX12_doubt_3) (fun r4384 hq4385 => ?_)
  refine th_if_ne (X := r4384.toInt) (tgt := 11) hx hb dX12_doubt_6 (by decide) rfl (fun c4386 => ?_) (fun c4386 => ?_)
  · replace hq4385 := Or.resolve_right hq4385 (fun h => absurd h.2 (by omega))
    refine lv_iconst (v := 0) hx hb dX12_doubt_11 (by decide) ?_
    refine lv_istore_n (lv' := [(2, .int 0), (0, .ref x), (1, .int wh)]) hx hb dX12_doubt_12 rfl hl (by decide) rfl (fun ls hl => ?_)
    refine lv_iload_n hx hb dX12_doubt_13 rfl (lv_at hl 0 rfl) ?_
    refine lv_aload_n hx hb dX12_doubt_14 rfl (lv_at hl 1 rfl) ?_
    refine th_get C hS.1 F.1 fl_RX12_709 (F.2.2.1 (120, 0) (by decide)) dX12_doubt_15 ?_
    refine th_icmp_ge (X := 0) (Y := 0) (tgt := 64) hx hb dX12_doubt_18 (by decide) li_0 li_0 (fun c4387 => ?_) (fun c4387 => absurd c4387 (by omega))
    refine lv_iconst (v := (-1)) hx hb dX12_doubt_64 (by decide) ?_
    exact th_reti C (by have hfin := li_n1; omega) dX12_doubt_65
  · replace hq4385 := Or.resolve_left hq4385 (fun h => absurd h.2 (by omega))
    refine lv_iconst (v := (-1)) hx hb dX12_doubt_9 (by decide) ?_
    exact th_reti C (by have hfin := li_n1; omega) dX12_doubt_10

set_option maxHeartbeats 400000 in
set_option maxRecDepth 100000 in
theorem t_X12_word {l : Launch} {D : va_G} {dA : Nat → ClassId} {K : Kmap} {V : Vmap} {sz : Nat} {x : Nat} {wo : Int32} {wo_i : Int} (iz_wo : wo.toInt = wo_i) (F : FM K V x) : Met l yX12_word (wsOf yX12_word cX12_word 2 (some .int)) { frames := 1, cells := 0, slots := 0, locals := 22 } (PC D dA K V sz [.ref x, .int wo]) (HQi D dA K (fun r K1 V1 => (((0 ≤ wo_i ∧ wo_i ≤ 1000) ∧ r.toInt = 0) ∨ ((0 > wo_i ∨ wo_i > 1000) ∧ r.toInt = (-1))))) 0 0 (AK K sz) := by
  refine th_body (by decide +kernel) (Nat.le_of_ble_eq_true rfl) (fun pZ eZ sZ mZ belowZ methZ cZ C hR hsz hnm ls hl => ?_)
  have C : CX pZ sZ mZ [.ref x, .int wo].toArray methZ cZ cX12_word 2 (some .int) RX12 D dA := C
  have hx := C.1; have hb := C.2.1
  have hl : lv_has ls 2 [(0, .ref x), (1, .int wo)] := hl
  subst hsz
  have hS : ST D dA K sZ.heap K V sZ.heap [] := ST.rf hR
  have r_wo := th_rng wo; rw [iz_wo] at r_wo
  have F0 := F
  obtain ⟨f134, hv_f134, hk_f134⟩ := F.2.1 (134, (1, 7)) (by decide)
  refine lv_iload_n hx hb dX12_word_0 rfl (lv_at hl 1 rfl) ?_
  refine lv_iconst (v := 0) hx hb dX12_word_1 (by decide) ?_
  refine lv_sipush (v := 1000) hx hb dX12_word_2 (by decide) ?_
  refine th_goi (th_runS (As := [.int wo, .int 0, .int 1000]) (rest := []) C hS.1 gS_RX12_371 (t_X12_in iz_wo li_0 li_1000) hl rfl rfl rfl rfl ⟨Nat.le_of_ble_eq_true rfl, Nat.le_of_ble_eq_true rfl⟩ (Nat.le_of_ble_eq_true rfl) ⟨Nat.le_of_ble_eq_true rfl, Nat.le_of_ble_eq_true rfl⟩ dX12_word_5) (fun r4388 hq4389 => ?_)
  refine th_if_eq (X := r4388.toInt) (tgt := 20) hx hb dX12_word_8 (by decide) rfl (fun c4390 => ?_) (fun c4390 => ?_)
  · replace hq4389 := Or.resolve_left hq4389 (fun h => absurd h.2 (by omega))
    refine lv_iconst (v := (-1)) hx hb dX12_word_20 (by decide) ?_
    exact th_retiH (post := fun r K1 V1 => (((0 ≤ wo_i ∧ wo_i ≤ 1000) ∧ r.toInt = 0) ∨ ((0 > wo_i ∨ wo_i > 1000) ∧ r.toInt = (-1)))) (cells := 0) (slots := 0) (mc := 0) (ms := 0) C hS (Or.inr (⟨by omega, li_n1⟩)) (Nat.le_of_ble_eq_true rfl) (Nat.le_of_ble_eq_true rfl) dX12_word_21
  · replace hq4389 := Or.resolve_right hq4389 (fun h => absurd h.2 (by omega))
    refine lv_aload_n hx hb dX12_word_11 rfl (lv_at hl 0 rfl) ?_
    refine th_get C hS.1 F.1 fl_RX12_718 (F.2.2.1 (133, 0) (by decide)) dX12_word_12 ?_
    refine lv_bipush (v := 7) hx hb dX12_word_15 (by decide) ?_
    refine th_icmp_ne (X := 0) (Y := 7) (tgt := 22) hx hb dX12_word_17 (by decide) li_0 li_7 (fun c4391 => ?_) (fun c4391 => absurd c4391 (by omega))
    refine lv_aload_n hx hb dX12_word_22 rfl (lv_at hl 0 rfl) ?_
    refine th_get C hS.1 F.1 fl_RX12_319 hv_f134 dX12_word_23 ?_
    refine lv_aload_n hx hb dX12_word_26 rfl (lv_at hl 0 rfl) ?_
    refine th_get C hS.1 F.1 fl_RX12_718 (F.2.2.1 (133, 0) (by decide)) dX12_word_27 ?_
    refine lv_iload_n hx hb dX12_word_30 rfl (lv_at hl 1 rfl) ?_
    refine th_iast C hS hk_f134 (by rw [li_0]; omega) (by rw [li_0]; omega) dX12_word_31 (fun V4392 H locs1 hV4393 hS => ?_)
    refine lv_aload_n hx hb dX12_word_32 rfl (lv_at hl 0 rfl) ?_
    refine lv_aload_n hx hb dX12_word_33 rfl (lv_at hl 0 rfl) ?_
    have hv4394 : V4392 x 133 = .int 0 := Eq.trans (uq_ne hV4393 (Or.inl (K_ne F.1 hk_f134 (by decide)))) (F.2.2.1 (133, 0) (by decide))
    refine th_get C hS.1 F.1 fl_RX12_718 hv4394 dX12_word_34 ?_
    refine lv_iconst (v := 1) hx hb dX12_word_37 (by decide) ?_
    refine lv_iadd hx hb dX12_word_38 ?_
    refine th_is (w := .int 1) (by decide) ?_
    refine th_put C hS F.1 fp_RX12_718 rfl rfl dX12_word_39 (fun V4395 H locs1 hV4396 hS => ?_)
    refine lv_aload_n hx hb dX12_word_42 rfl (lv_at hl 0 rfl) ?_
    refine th_get C hS.1 F.1 fl_RX12_718 (uq_same hV4396) dX12_word_43 ?_
    refine lv_iconst (v := 1) hx hb dX12_word_46 (by decide) ?_
    refine lv_isub hx hb dX12_word_47 ?_
    refine th_is (w := .int 0) (by decide) ?_
    exact th_retiH (post := fun r K1 V1 => (((0 ≤ wo_i ∧ wo_i ≤ 1000) ∧ r.toInt = 0) ∨ ((0 > wo_i ∨ wo_i > 1000) ∧ r.toInt = (-1)))) (cells := 0) (slots := 0) (mc := 0) (ms := 0) C hS (Or.inl ⟨by omega, li_0⟩) (Nat.le_of_ble_eq_true rfl) (Nat.le_of_ble_eq_true rfl) dX12_word_48

set_option maxHeartbeats 400000 in
set_option maxRecDepth 100000 in
theorem t_X12_asks {l : Launch} {D : va_G} {dA : Nat → ClassId} {K : Kmap} {V : Vmap} {sz : Nat} {x : Nat} {p w ot : Int32} {p_i w_i ot_i : Int} (iz_p : p.toInt = p_i) (iz_w : w.toInt = w_i) (iz_ot : ot.toInt = ot_i) (F : FM K V x) : Met l yX12_asks (wsOf yX12_asks cX12_asks 5 (some .boolean)) { frames := 1, cells := 0, slots := 0, locals := 21 } (PC D dA K V sz [.ref x, .int p, .int w, .int ot]) (PQi (fun r => (r.toInt = 0))) 0 0 noFree := by
  refine th_body (by decide +kernel) (Nat.le_of_ble_eq_true rfl) (fun pZ eZ sZ mZ belowZ methZ cZ C hR hsz hnm ls hl => ?_)
  have C : CX pZ sZ mZ [.ref x, .int p, .int w, .int ot].toArray methZ cZ cX12_asks 5 (some .boolean) RX12 D dA := C
  have hx := C.1; have hb := C.2.1
  have hl : lv_has ls 5 [(0, .ref x), (1, .int p), (2, .int w), (3, .int ot)] := hl
  subst hsz
  have hS : ST D dA K sZ.heap K V sZ.heap [] := ST.rf hR
  have r_p := th_rng p; rw [iz_p] at r_p
  have r_w := th_rng w; rw [iz_w] at r_w
  have r_ot := th_rng ot; rw [iz_ot] at r_ot
  have F0 := F
  refine lv_aload_n hx hb dX12_asks_0 rfl (lv_at hl 0 rfl) ?_
  refine lv_iload_n hx hb dX12_asks_1 rfl (lv_at hl 1 rfl) ?_
  refine th_goi (th_runV (As := [.int p]) (rest := []) C hS.1 (RX12, TX12, 151) rfl gV_RX12_406 F.1 (t_X12_isParty iz_p F.1 (F.2.2.1 (9, 0) (by decide))) hl rfl rfl rfl rfl ⟨Nat.le_of_ble_eq_true rfl, Nat.le_of_ble_eq_true rfl⟩ (Nat.le_of_ble_eq_true rfl) ⟨Nat.le_of_ble_eq_true rfl, Nat.le_of_ble_eq_true rfl⟩ dX12_asks_2) (fun r4397 hq4398 => ?_)
  refine th_if_eq (X := r4397.toInt) (tgt := 34) hx hb dX12_asks_5 (by decide) rfl (fun c4399 => ?_) (fun c4399 => absurd c4399 (by omega))
  refine lv_iconst (v := 0) hx hb dX12_asks_34 (by decide) ?_
  exact th_retz C (by have hfin := li_0; omega) (by have hfin := li_0; omega) dX12_asks_35

set_option maxHeartbeats 400000 in
set_option maxRecDepth 100000 in
theorem t_X12_blocks {l : Launch} {D : va_G} {dA : Nat → ClassId} {K : Kmap} {V : Vmap} {sz : Nat} {x : Nat} {set : Int32} {set_i : Int} (iz_set : set.toInt = set_i) (F : FM K V x) : Met l yX12_blocks (wsOf yX12_blocks cX12_blocks 4 (some .int)) { frames := 1, cells := 0, slots := 0, locals := 22 } (PC D dA K V sz [.ref x, .int set]) (PQi (fun r => (set_i = 0 ∧ r.toInt = 0) ∨ (set_i ≠ 0 ∧ r.toInt = (-1)))) 0 0 noFree := by
  refine th_body (by decide +kernel) (Nat.le_of_ble_eq_true rfl) (fun pZ eZ sZ mZ belowZ methZ cZ C hR hsz hnm ls hl => ?_)
  have C : CX pZ sZ mZ [.ref x, .int set].toArray methZ cZ cX12_blocks 4 (some .int) RX12 D dA := C
  have hx := C.1; have hb := C.2.1
  have hl : lv_has ls 4 [(0, .ref x), (1, .int set)] := hl
  subst hsz
  have hS : ST D dA K sZ.heap K V sZ.heap [] := ST.rf hR
  have r_set := th_rng set; rw [iz_set] at r_set
  have F0 := F
  refine lv_iload_n hx hb dX12_blocks_0 rfl (lv_at hl 1 rfl) ?_
  refine lv_iconst (v := 0) hx hb dX12_blocks_1 (by decide) ?_
  refine lv_iconst (v := 1) hx hb dX12_blocks_2 (by decide) ?_
  refine lv_aload_n hx hb dX12_blocks_3 rfl (lv_at hl 0 rfl) ?_
  refine th_get C hS.1 F.1 fl_RX12_718 (F.2.2.1 (133, 0) (by decide)) dX12_blocks_4 ?_
  refine lv_ishl hx hb dX12_blocks_7 ?_
  refine th_is (w := .int 1) (by decide) ?_
  refine lv_iconst (v := 1) hx hb dX12_blocks_8 (by decide) ?_
  refine lv_isub hx hb dX12_blocks_9 ?_
  refine th_is (w := .int 0) (by decide) ?_
  refine th_goi (th_runS (As := [.int set, .int 0, .int 0]) (rest := []) C hS.1 gS_RX12_371 (t_X12_in iz_set li_0 li_0) hl rfl rfl rfl rfl ⟨Nat.le_of_ble_eq_true rfl, Nat.le_of_ble_eq_true rfl⟩ (Nat.le_of_ble_eq_true rfl) ⟨Nat.le_of_ble_eq_true rfl, Nat.le_of_ble_eq_true rfl⟩ dX12_blocks_10) (fun r4400 hq4401 => ?_)
  refine th_if_ne (X := r4400.toInt) (tgt := 18) hx hb dX12_blocks_13 (by decide) rfl (fun c4402 => ?_) (fun c4402 => ?_)
  · replace hq4401 := Or.resolve_right hq4401 (fun h => absurd h.2 (by omega))
    refine lv_iconst (v := 0) hx hb dX12_blocks_18 (by decide) ?_
    refine lv_istore_n (lv' := [(2, .int 0), (0, .ref x), (1, .int set)]) hx hb dX12_blocks_19 rfl hl (by decide) rfl (fun ls hl => ?_)
    refine lv_iconst (v := 0) hx hb dX12_blocks_20 (by decide) ?_
    refine lv_istore_n (lv' := [(3, .int 0), (2, .int 0), (0, .ref x), (1, .int set)]) hx hb dX12_blocks_21 rfl hl (by decide) rfl (fun ls hl => ?_)
    refine lv_iload_n hx hb dX12_blocks_22 rfl (lv_at hl 0 rfl) ?_
    refine lv_aload_n hx hb dX12_blocks_23 rfl (lv_at hl 2 rfl) ?_
    refine th_get C hS.1 F.1 fl_RX12_393 (F.2.2.1 (9, 0) (by decide)) dX12_blocks_24 ?_
    refine th_icmp_ge (X := 0) (Y := 0) (tgt := 55) hx hb dX12_blocks_27 (by decide) li_0 li_0 (fun c4403 => ?_) (fun c4403 => absurd c4403 (by omega))
    refine lv_iload_n hx hb dX12_blocks_55 rfl (lv_at hl 1 rfl) ?_
    exact th_reti C (Or.inl ⟨by omega, li_0⟩) dX12_blocks_56
  · replace hq4401 := Or.resolve_left hq4401 (fun h => absurd h.2 (by omega))
    refine lv_iconst (v := (-1)) hx hb dX12_blocks_16 (by decide) ?_
    exact th_reti C (Or.inr (⟨by omega, li_n1⟩)) dX12_blocks_17
