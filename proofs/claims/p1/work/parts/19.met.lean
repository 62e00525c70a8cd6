set_option maxHeartbeats 400000 in
set_option maxRecDepth 100000 in
theorem t_X11_dark {l : Launch} {D : va_G} {dA : Nat → ClassId} {K : Kmap} {V : Vmap} {sz : Nat} {x : Nat} {a b : Int32} {a_i b_i : Int} (iz_a : a.toInt = a_i) (iz_b : b.toInt = b_i) (F : FX K V x) : Met l yX11_dark (wsOf yX11_dark cX11_dark 3 (some .boolean)) { frames := 1, cells := 0, slots := 0, locals := 21 } (PC D dA K V sz [.ref x, .int a, .int b]) (HQi D dA K (fun r K1 V1 => (∀ b, K b = some (0, 11) → V1 b = V b) ∧ (((0 ≤ a_i ∧ a_i ≤ b_i ∧ b_i < 360) ∧ r.toInt = 1) ∨ ((0 > a_i ∨ a_i > b_i ∨ b_i ≥ 360) ∧ r.toInt = 0)))) 0 0 (AK K sz) := by
  refine th_body (by decide +kernel) (Nat.le_of_ble_eq_true rfl) (fun pZ eZ sZ mZ belowZ methZ cZ C hR hsz hnm ls hl => ?_)
  have C : CX pZ sZ mZ [.ref x, .int a, .int b].toArray methZ cZ cX11_dark 3 (some .boolean) RX11 D dA := C
  have hx := C.1; have hb := C.2.1
  have hl : lv_has ls 3 [(0, .ref x), (1, .int a), (2, .int b)] := hl
  subst hsz
  have hS : ST D dA K sZ.heap K V sZ.heap [] := ST.rf hR
  have r_a := th_rng a; rw [iz_a] at r_a
  have r_b := th_rng b; rw [iz_b] at r_b
  have F0 := F
  obtain ⟨ad, hF⟩ := F
  refine lv_iload_n hx hb dX11_dark_0 rfl (lv_at hl 1 rfl) ?_
  refine lv_iload_n hx hb dX11_dark_1 rfl (lv_at hl 2 rfl) ?_
  refine th_goi (th_runS (As := [.int a, .int b]) (rest := []) C hS.1 gS_RX11_135 (t_X11_areYearDays iz_a iz_b) hl rfl rfl rfl rfl ⟨Nat.le_of_ble_eq_true rfl, Nat.le_of_ble_eq_true rfl⟩ (Nat.le_of_ble_eq_true rfl) ⟨Nat.le_of_ble_eq_true rfl, Nat.le_of_ble_eq_true rfl⟩ dX11_dark_2) (fun r3412 hq3413 => ?_)
  refine th_if_ne (X := r3412.toInt) (tgt := 10) hx hb dX11_dark_5 (by decide) rfl (fun c3414 => ?_) (fun c3414 => ?_)
  · replace hq3413 := Or.resolve_right hq3413 (fun h => absurd h.2 (by omega))
    refine lv_aload_n hx hb dX11_dark_10 rfl (lv_at hl 0 rfl) ?_
    refine th_get C hS.1 (FX.f0 hF) fl_RX11_12 (FX.f1 hF) dX11_dark_11 ?_
    refine lv_iload_n hx hb dX11_dark_14 rfl (lv_at hl 1 rfl) ?_
    refine th_put C hS (FX.f2 hF) fp_RX11_139 rfl rfl dX11_dark_15 (fun V3415 H locs1 hV3416 hS => ?_)
    refine lv_aload_n hx hb dX11_dark_18 rfl (lv_at hl 0 rfl) ?_
    have hv3417 : V3415 x 0 = .ref (ad 0) := Eq.trans (uq_ne hV3416 (Or.inl (K_ne (FX.f0 hF) (FX.f2 hF) (by decide)))) (FX.f1 hF)
    refine th_get C hS.1 (FX.f0 hF) fl_RX11_12 hv3417 dX11_dark_19 ?_
    refine lv_iload_n hx hb dX11_dark_22 rfl (lv_at hl 2 rfl) ?_
    refine th_put C hS (FX.f2 hF) fp_RX11_142 rfl rfl dX11_dark_23 (fun V3418 H locs1 hV3419 hS => ?_)
    refine lv_iconst (v := 1) hx hb dX11_dark_26 (by decide) ?_
    exact th_retzH (post := fun r K1 V1 => (∀ b, K b = some (0, 11) → V1 b = V b) ∧ (((0 ≤ a_i ∧ a_i ≤ b_i ∧ b_i < 360) ∧ r.toInt = 1) ∨ ((0 > a_i ∨ a_i > b_i ∨ b_i ≥ 360) ∧ r.toInt = 0))) (cells := 0) (slots := 0) (mc := 0) (ms := 0) C hS (by have hfin := li_1; omega) ⟨(fun b hb  => Eq.trans (uq_other hV3419 (K_ne hb (FX.f2 hF) (by decide))) ((uq_other hV3416 (K_ne hb (FX.f2 hF) (by decide))))), (Or.inl ⟨by omega, li_1⟩)⟩ (Nat.le_of_ble_eq_true rfl) (Nat.le_of_ble_eq_true rfl) dX11_dark_27
  · replace hq3413 := Or.resolve_left hq3413 (fun h => absurd h.2 (by omega))
    refine lv_iconst (v := 0) hx hb dX11_dark_8 (by decide) ?_
    exact th_retzH (post := fun r K1 V1 => (∀ b, K b = some (0, 11) → V1 b = V b) ∧ (((0 ≤ a_i ∧ a_i ≤ b_i ∧ b_i < 360) ∧ r.toInt = 1) ∨ ((0 > a_i ∨ a_i > b_i ∨ b_i ≥ 360) ∧ r.toInt = 0))) (cells := 0) (slots := 0) (mc := 0) (ms := 0) C hS (by have hfin := li_0; omega) ⟨(fun b hb => rfl), (Or.inr (⟨by omega, li_0⟩))⟩ (Nat.le_of_ble_eq_true rfl) (Nat.le_of_ble_eq_true rfl) dX11_dark_9

set_option maxHeartbeats 400000 in
set_option maxRecDepth 100000 in
theorem t_X11_party {l : Launch} {D : va_G} {dA : Nat → ClassId} {K : Kmap} {V : Vmap} {sz : Nat} {x : Nat} {dc : Int32} {dc_i : Int} (iz_dc : dc.toInt = dc_i) (F : FX K V x) : Met l yX11_party (wsOf yX11_party cX11_party 2 (some .int)) { frames := 2, cells := 3, slots := 32, locals := 43 } (PC D dA K V sz [.ref x, .int dc]) (HQi D dA K (fun r K1 V1 => (∀ b, K b = some (0, 11) → V1 b = V b) ∧ ((r.toInt = 0)))) 3 32 (AK K sz) := by
  refine th_body (by decide +kernel) (Nat.le_of_ble_eq_true rfl) (fun pZ eZ sZ mZ belowZ methZ cZ C hR hsz hnm ls hl => ?_)
  have C : CX pZ sZ mZ [.ref x, .int dc].toArray methZ cZ cX11_party 2 (some .int) RX11 D dA := C
  have hx := C.1; have hb := C.2.1
  have hl : lv_has ls 2 [(0, .ref x), (1, .int dc)] := hl
  subst hsz
  have hS : ST D dA K sZ.heap K V sZ.heap [] := ST.rf hR
  have r_dc := th_rng dc; rw [iz_dc] at r_dc
  have F0 := F
  obtain ⟨ad, hF⟩ := F
  refine lv_aload_n hx hb dX11_party_0 rfl (lv_at hl 0 rfl) ?_
  refine th_get C hS.1 (FX.f0 hF) fl_RX11_36 (FX.f31 hF) dX11_party_1 ?_
  refine lv_aload_n hx hb dX11_party_4 rfl (lv_at hl 0 rfl) ?_
  refine th_get C hS.1 (FX.f0 hF) fl_RX11_32 (FX.f29 hF) dX11_party_5 ?_
  refine th_alen C hS.1 (t := 4) (by decide) (FX.f30 hF) dX11_party_8 ?_
  refine th_is (w := .int 9) (by decide) ?_
  refine th_icmp_lt (X := 0) (Y := 9) (tgt := 14) hx hb dX11_party_9 (by decide) li_0 li_9 (fun c3420 => ?_) (fun c3420 => absurd c3420 (by omega))
  refine lv_aload_n hx hb dX11_party_14 rfl (lv_at hl 0 rfl) ?_
  refine th_get C hS.1 (FX.f0 hF) fl_RX11_32 (FX.f29 hF) dX11_party_15 ?_
  refine lv_aload_n hx hb dX11_party_18 rfl (lv_at hl 0 rfl) ?_
  refine th_get C hS.1 (FX.f0 hF) fl_RX11_36 (FX.f31 hF) dX11_party_19 ?_
  refine th_new (ci := 2) C hS (RX2, TX2, 5) tyX2 rfl lays_2 tyX2_ok gw_219 gw_325 gw_9 (Nat.le_of_ble_eq_true rfl) (Nat.le_of_ble_eq_true rfl) dX11_party_22 (fun q3421 K3422 V3423 H hq3424 hK3425 hVn3426 hVo3427 hS => ?_)
  have hE3428 : ∀ a k, K a = some k → K3422 a = some k := fun a k h => by rw [hK3425, updK_ne (K_old h hq3424)]; exact h
  have hK3429 : K3422 q3421 = some (0, 2) := by rw [hK3425]; exact updK_same
  refine W.widen (k := 1) (n := 5) (Nat.le_of_ble_eq_true rfl) (Nat.le_of_ble_eq_true rfl) ?_
  refine lv_dup hx hb dX11_party_25 rfl ?_
  refine lv_iload_n hx hb dX11_party_26 rfl (lv_at hl 1 rfl) ?_
  refine th_if_eq (X := dc_i) (tgt := 40) hx hb dX11_party_27 (by decide) iz_dc (fun c3430 => ?_) (fun c3430 => ?_)
  · refine lv_iconst (v := (-1)) hx hb dX11_party_40 (by decide) ?_
    refine th_govH hS rfl (th_runI (As := [.int (-1)]) (rest := [.ref q3421, .int 0, .ref (ad 11)]) C hS.1 gI_RX11_148 (t_X2_init li_n1 hK3429) hl rfl rfl rfl rfl ⟨Nat.le_of_ble_eq_true rfl, Nat.le_of_ble_eq_true rfl⟩ (Nat.le_of_ble_eq_true rfl) ⟨Nat.le_of_ble_eq_true rfl, Nat.le_of_ble_eq_true rfl⟩ dX11_party_41) (fun K3433 V3434 H locs1 hq3432 hE3435 hS => ?_)
    have hF3436 := hq3432
    refine W.widen (k := 3) (n := 32) (Nat.le_of_ble_eq_true rfl) (Nat.le_of_ble_eq_true rfl) ?_
    refine th_aast C hS (t := 4) (by decide) (RX2, TX2, 5) rfl rfl (hE3435 _ _ (hE3428 _ _ (FX.f30 hF))) (hE3435 _ _ hK3429) (by rw [li_0]; omega) (by rw [li_0]; omega) dX11_party_44 (fun V3438 H locs1 hV3439 hS => ?_)
    refine lv_aload_n hx hb dX11_party_45 rfl (lv_at hl 0 rfl) ?_
    refine lv_dup hx hb dX11_party_46 rfl ?_
    have hv3440 : V3423 x 4 = .int 0 := Eq.trans (congrFun (hVo3427 _ (K_ne (hE3435 _ _ (hE3428 _ _ (FX.f0 hF))) (hE3435 _ _ hK3429) (by decide))) 4) (FX.f31 hF)
    have hv3441 : V3434 x 4 = .int 0 := Eq.trans (congrFun (hF3436 _ (by rw [(hE3428 _ _ (FX.f0 hF))]; exact fun h => by cases h) (K_ne (hE3435 _ _ (hE3428 _ _ (FX.f0 hF))) (hE3435 _ _ hK3429) (by decide))) 4) hv3440
    have hv3442 : V3438 x 4 = .int 0 := Eq.trans (uq_ne hV3439 (Or.inl (K_ne (hE3435 _ _ (hE3428 _ _ (FX.f0 hF))) (hE3435 _ _ (hE3428 _ _ (FX.f30 hF))) (by decide)))) hv3441
    refine th_get C hS.1 (hE3435 _ _ (hE3428 _ _ (FX.f0 hF))) fl_RX11_36 hv3442 dX11_party_47 ?_
    refine lv_dup_x1 hx hb dX11_party_50 rfl rfl ?_
    refine lv_iconst (v := 1) hx hb dX11_party_51 (by decide) ?_
    refine lv_iadd hx hb dX11_party_52 ?_
    refine th_is (w := .int 1) (by decide) ?_
    refine th_put C hS (hE3435 _ _ (hE3428 _ _ (FX.f0 hF))) fp_RX11_36 rfl rfl dX11_party_53 (fun V3443 H locs1 hV3444 hS => ?_)
    exact th_retiH (post := fun r K1 V1 => (∀ b, K b = some (0, 11) → V1 b = V b) ∧ ((r.toInt = 0))) (cells := 3) (slots := 32) (mc := 3) (ms := 32) C hS ⟨(fun b hb  => Eq.trans (uq_other hV3444 (K_ne (hE3435 _ _ (hE3428 _ _ hb)) (hE3435 _ _ (hE3428 _ _ (FX.f0 hF))) (by decide))) (Eq.trans (uq_other hV3439 (K_ne (hE3435 _ _ (hE3428 _ _ hb)) (hE3435 _ _ (hE3428 _ _ (FX.f30 hF))) (by decide))) (Eq.trans (hF3436 _ (by rw [(hE3428 _ _ hb)]; exact fun h => by cases h) (K_ne (hE3428 _ _ hb) hK3429 (by decide))) ((hVo3427 _ (K_old hb hq3424)))))), (by have hfin := li_0; omega)⟩ (Nat.le_of_ble_eq_true rfl) (Nat.le_of_ble_eq_true rfl) dX11_party_56
  · refine lv_aload_n hx hb dX11_party_30 rfl (lv_at hl 0 rfl) ?_
    have hv3445 : V3423 x 0 = .ref (ad 0) := Eq.trans (congrFun (hVo3427 _ (K_ne (hE3428 _ _ (FX.f0 hF)) hK3429 (by decide))) 0) (FX.f1 hF)
    refine th_get C hS.1 (hE3428 _ _ (FX.f0 hF)) fl_RX11_12 hv3445 dX11_party_31 ?_
    have hv3446 : V3423 (ad 0) 0 = .int 0 := Eq.trans (congrFun (hVo3427 _ (K_ne (hE3428 _ _ (FX.f2 hF)) hK3429 (by decide))) 0) (FX.f3 hF)
    refine th_get C hS.1 (hE3428 _ _ (FX.f2 hF)) fl_RX11_145 hv3446 dX11_party_34 ?_
    refine lv_goto (tgt := 41) hx hb dX11_party_37 (by decide) ?_
    refine th_govH hS rfl (th_runI (As := [.int 0]) (rest := [.ref q3421, .int 0, .ref (ad 11)]) C hS.1 gI_RX11_148 (t_X2_init li_0 hK3429) hl rfl rfl rfl rfl ⟨Nat.le_of_ble_eq_true rfl, Nat.le_of_ble_eq_true rfl⟩ (Nat.le_of_ble_eq_true rfl) ⟨Nat.le_of_ble_eq_true rfl, Nat.le_of_ble_eq_true rfl⟩ dX11_party_41) (fun K3449 V3450 H locs1 hq3448 hE3451 hS => ?_)
    have hF3452 := hq3448
    refine W.widen (k := 3) (n := 32) (Nat.le_of_ble_eq_true rfl) (Nat.le_of_ble_eq_true rfl) ?_
    refine th_aast C hS (t := 4) (by decide) (RX2, TX2, 5) rfl rfl (hE3451 _ _ (hE3428 _ _ (FX.f30 hF))) (hE3451 _ _ hK3429) (by rw [li_0]; omega) (by rw [li_0]; omega) dX11_party_44 (fun V3454 H locs1 hV3455 hS => ?_)
    refine lv_aload_n hx hb dX11_party_45 rfl (lv_at hl 0 rfl) ?_
    refine lv_dup hx hb dX11_party_46 rfl ?_
    have hv3456 : V3423 x 4 = .int 0 := Eq.trans (congrFun (hVo3427 _ (K_ne (hE3451 _ _ (hE3428 _ _ (FX.f0 hF))) (hE3451 _ _ hK3429) (by decide))) 4) (FX.f31 hF)
    have hv3457 : V3450 x 4 = .int 0 := Eq.trans (congrFun (hF3452 _ (by rw [(hE3428 _ _ (FX.f0 hF))]; exact fun h => by cases h) (K_ne (hE3451 _ _ (hE3428 _ _ (FX.f0 hF))) (hE3451 _ _ hK3429) (by decide))) 4) hv3456
    have hv3458 : V3454 x 4 = .int 0 := Eq.trans (uq_ne hV3455 (Or.inl (K_ne (hE3451 _ _ (hE3428 _ _ (FX.f0 hF))) (hE3451 _ _ (hE3428 _ _ (FX.f30 hF))) (by decide)))) hv3457
    refine th_get C hS.1 (hE3451 _ _ (hE3428 _ _ (FX.f0 hF))) fl_RX11_36 hv3458 dX11_party_47 ?_
    refine lv_dup_x1 hx hb dX11_party_50 rfl rfl ?_
    refine lv_iconst (v := 1) hx hb dX11_party_51 (by decide) ?_
    refine lv_iadd hx hb dX11_party_52 ?_
    refine th_is (w := .int 1) (by decide) ?_
    refine th_put C hS (hE3451 _ _ (hE3428 _ _ (FX.f0 hF))) fp_RX11_36 rfl rfl dX11_party_53 (fun V3459 H locs1 hV3460 hS => ?_)
    exact th_retiH (post := fun r K1 V1 => (∀ b, K b = some (0, 11) → V1 b = V b) ∧ ((r.toInt = 0))) (cells := 3) (slots := 32) (mc := 3) (ms := 32) C hS ⟨(fun b hb  => Eq.trans (uq_other hV3460 (K_ne (hE3451 _ _ (hE3428 _ _ hb)) (hE3451 _ _ (hE3428 _ _ (FX.f0 hF))) (by decide))) (Eq.trans (uq_other hV3455 (K_ne (hE3451 _ _ (hE3428 _ _ hb)) (hE3451 _ _ (hE3428 _ _ (FX.f30 hF))) (by decide))) (Eq.trans (hF3452 _ (by rw [(hE3428 _ _ hb)]; exact fun h => by cases h) (K_ne (hE3428 _ _ hb) hK3429 (by decide))) ((hVo3427 _ (K_old hb hq3424)))))), (by have hfin := li_0; omega)⟩ (Nat.le_of_ble_eq_true rfl) (Nat.le_of_ble_eq_true rfl) dX11_party_56

set_option maxHeartbeats 400000 in
set_option maxRecDepth 100000 in
theorem t_X11_claim {l : Launch} {D : va_G} {dA : Nat → ClassId} {K : Kmap} {V : Vmap} {sz : Nat} {x : Nat} {p a b ti : Int32} {p_i a_i b_i ti_i : Int} (iz_p : p.toInt = p_i) (iz_a : a.toInt = a_i) (iz_b : b.toInt = b_i) (iz_ti : ti.toInt = ti_i) (F : FX K V x) : Met l yX11_claim (wsOf yX11_claim cX11_claim 6 (some .int)) { frames := 1, cells := 0, slots := 0, locals := 21 } (PC D dA K V sz [.ref x, .int p, .int a, .int b, .int ti]) (PQi (fun r => (r.toInt = (-1)))) 0 0 noFree := by
  refine th_body (by decide +kernel) (Nat.le_of_ble_eq_true rfl) (fun pZ eZ sZ mZ belowZ methZ cZ C hR hsz hnm ls hl => ?_)
  have C : CX pZ sZ mZ [.ref x, .int p, .int a, .int b, .int ti].toArray methZ cZ cX11_claim 6 (some .int) RX11 D dA := C
  have hx := C.1; have hb := C.2.1
  have hl : lv_has ls 6 [(0, .ref x), (1, .int p), (2, .int a), (3, .int b), (4, .int ti)] := hl
  subst hsz
  have hS : ST D dA K sZ.heap K V sZ.heap [] := ST.rf hR
  have r_p := th_rng p; rw [iz_p] at r_p
  have r_a := th_rng a; rw [iz_a] at r_a
  have r_b := th_rng b; rw [iz_b] at r_b
  have r_ti := th_rng ti; rw [iz_ti] at r_ti
  have F0 := F
  obtain ⟨ad, hF⟩ := F
  refine lv_aload_n hx hb dX11_claim_0 rfl (lv_at hl 0 rfl) ?_
  refine lv_iload_n hx hb dX11_claim_1 rfl (lv_at hl 1 rfl) ?_
  refine th_gor (th_runV (As := [.int p]) (rest := []) C hS.1 (RX11, TX11, 20) rfl gV_RX11_151 (FX.f0 hF) (t_X11_partyOf iz_p (FX.f0 hF) (FX.f31 hF)) hl rfl rfl rfl rfl ⟨Nat.le_of_ble_eq_true rfl, Nat.le_of_ble_eq_true rfl⟩ (Nat.le_of_ble_eq_true rfl) ⟨Nat.le_of_ble_eq_true rfl, Nat.le_of_ble_eq_true rfl⟩ dX11_claim_2) ?_
  refine lv_astoreN (lv' := [(5, .null), (0, .ref x), (1, .int p), (2, .int a), (3, .int b), (4, .int ti)]) hx hb dX11_claim_5 hl (by decide) rfl (fun ls hl => ?_)
  refine lv_aloadN hx hb dX11_claim_7 (lv_at hl 0 rfl) ?_
  refine lv_ifnullN hx hb (tgt := 46) dX11_claim_9 (by decide) ?_
  refine lv_iconst (v := (-1)) hx hb dX11_claim_46 (by decide) ?_
  exact th_reti C (by have hfin := li_n1; omega) dX11_claim_47

set_option maxHeartbeats 400000 in
set_option maxRecDepth 100000 in
theorem t_X11_title {l : Launch} {D : va_G} {dA : Nat → ClassId} {K : Kmap} {V : Vmap} {sz : Nat} {x : Nat} {k n : Int32} {k_i n_i : Int} (iz_k : k.toInt = k_i) (iz_n : n.toInt = n_i) (F : FX K V x) : Met l yX11_title (wsOf yX11_title cX11_title 5 (some .boolean)) { frames := 2, cells := 0, slots := 0, locals := 44 } (PC D dA K V sz [.ref x, .int k, .int n]) (PQi (fun r => (r.toInt = 0))) 0 0 noFree := by
  refine th_body (by decide +kernel) (Nat.le_of_ble_eq_true rfl) (fun pZ eZ sZ mZ belowZ methZ cZ C hR hsz hnm ls hl => ?_)
  have C : CX pZ sZ mZ [.ref x, .int k, .int n].toArray methZ cZ cX11_title 5 (some .boolean) RX11 D dA := C
  have hx := C.1; have hb := C.2.1
  have hl : lv_has ls 5 [(0, .ref x), (1, .int k), (2, .int n)] := hl
  subst hsz
  have hS : ST D dA K sZ.heap K V sZ.heap [] := ST.rf hR
  have r_k := th_rng k; rw [iz_k] at r_k
  have r_n := th_rng n; rw [iz_n] at r_n
  have F0 := F
  obtain ⟨ad, hF⟩ := F
  refine lv_aload_n hx hb dX11_title_0 rfl (lv_at hl 0 rfl) ?_
  refine lv_iload_n hx hb dX11_title_1 rfl (lv_at hl 1 rfl) ?_
  refine lv_iconst (v := 0) hx hb dX11_title_2 (by decide) ?_
  refine th_gor (th_runV (As := [.int k, .int 0]) (rest := []) C hS.1 (RX11, TX11, 20) rfl gV_RX11_169 (FX.f0 hF) (t_X11_placeOf iz_k li_0 (FX.f0 hF) (FX.f34 hF)) hl rfl rfl rfl rfl ⟨Nat.le_of_ble_eq_true rfl, Nat.le_of_ble_eq_true rfl⟩ (Nat.le_of_ble_eq_true rfl) ⟨Nat.le_of_ble_eq_true rfl, Nat.le_of_ble_eq_true rfl⟩ dX11_title_3) ?_
  refine lv_astore_nN (lv' := [(3, .null), (0, .ref x), (1, .int k), (2, .int n)]) hx hb dX11_title_6 rfl hl (by decide) rfl (fun ls hl => ?_)
  refine lv_aload_nN hx hb dX11_title_7 rfl (lv_at hl 0 rfl) ?_
  refine lv_ifnullN hx hb (tgt := 22) dX11_title_8 (by decide) ?_
  refine lv_iconst (v := 0) hx hb dX11_title_22 (by decide) ?_
  exact th_retz C (by have hfin := li_0; omega) (by have hfin := li_0; omega) dX11_title_23

set_option maxHeartbeats 400000 in
set_option maxRecDepth 100000 in
theorem t_X11_station {l : Launch} {D : va_G} {dA : Nat → ClassId} {K : Kmap} {V : Vmap} {sz : Nat} {x : Nat} {p c pe dr : Int32} {p_i c_i pe_i dr_i : Int} (iz_p : p.toInt = p_i) (iz_c : c.toInt = c_i) (iz_pe : pe.toInt = pe_i) (iz_dr : dr.toInt = dr_i) (F : FX K V x) : Met l yX11_station (wsOf yX11_station cX11_station 7 (some .int)) { frames := 1, cells := 0, slots := 0, locals := 21 } (PC D dA K V sz [.ref x, .int p, .int c, .int pe, .int dr]) (PQi (fun r => (r.toInt = (-1)))) 0 0 noFree := by
  refine th_body (by decide +kernel) (Nat.le_of_ble_eq_true rfl) (fun pZ eZ sZ mZ belowZ methZ cZ C hR hsz hnm ls hl => ?_)
  have C : CX pZ sZ mZ [.ref x, .int p, .int c, .int pe, .int dr].toArray methZ cZ cX11_station 7 (some .int) RX11 D dA := C
  have hx := C.1; have hb := C.2.1
  have hl : lv_has ls 7 [(0, .ref x), (1, .int p), (2, .int c), (3, .int pe), (4, .int dr)] := hl
  subst hsz
  have hS : ST D dA K sZ.heap K V sZ.heap [] := ST.rf hR
  have r_p := th_rng p; rw [iz_p] at r_p
  have r_c := th_rng c; rw [iz_c] at r_c
  have r_pe := th_rng pe; rw [iz_pe] at r_pe
  have r_dr := th_rng dr; rw [iz_dr] at r_dr
  have F0 := F
  obtain ⟨ad, hF⟩ := F
  refine lv_aload_n hx hb dX11_station_0 rfl (lv_at hl 0 rfl) ?_
  refine lv_iload_n hx hb dX11_station_1 rfl (lv_at hl 1 rfl) ?_
  refine th_gor (th_runV (As := [.int p]) (rest := []) C hS.1 (RX11, TX11, 20) rfl gV_RX11_151 (FX.f0 hF) (t_X11_partyOf iz_p (FX.f0 hF) (FX.f31 hF)) hl rfl rfl rfl rfl ⟨Nat.le_of_ble_eq_true rfl, Nat.le_of_ble_eq_true rfl⟩ (Nat.le_of_ble_eq_true rfl) ⟨Nat.le_of_ble_eq_true rfl, Nat.le_of_ble_eq_true rfl⟩ dX11_station_2) ?_
  refine lv_ifnullN hx hb (tgt := 41) dX11_station_5 (by decide) ?_
  refine lv_iconst (v := (-1)) hx hb dX11_station_41 (by decide) ?_
  exact th_reti C (by have hfin := li_n1; omega) dX11_station_42

set_option maxHeartbeats 400000 in
set_option maxRecDepth 100000 in
theorem t_X11_field {l : Launch} {D : va_G} {dA : Nat → ClassId} {K : Kmap} {V : Vmap} {sz : Nat} {x : Nat} {k c : Int32} {k_i c_i : Int} (iz_k : k.toInt = k_i) (iz_c : c.toInt = c_i) (F : FX K V x) : Met l yX11_field (wsOf yX11_field cX11_field 4 (some .int)) { frames := 3, cells := 0, slots := 0, locals := 66 } (PC D dA K V sz [.ref x, .int k, .int c]) (PQi (fun r => (r.toInt = (-1)))) 0 0 noFree := by
  refine th_body (by decide +kernel) (Nat.le_of_ble_eq_true rfl) (fun pZ eZ sZ mZ belowZ methZ cZ C hR hsz hnm ls hl => ?_)
  have C : CX pZ sZ mZ [.ref x, .int k, .int c].toArray methZ cZ cX11_field 4 (some .int) RX11 D dA := C
  have hx := C.1; have hb := C.2.1
  have hl : lv_has ls 4 [(0, .ref x), (1, .int k), (2, .int c)] := hl
  subst hsz
  have hS : ST D dA K sZ.heap K V sZ.heap [] := ST.rf hR
  have r_k := th_rng k; rw [iz_k] at r_k
  have r_c := th_rng c; rw [iz_c] at r_c
  have F0 := F
  obtain ⟨ad, hF⟩ := F
  refine lv_aload_n hx hb dX11_field_0 rfl (lv_at hl 0 rfl) ?_
  refine lv_iload_n hx hb dX11_field_1 rfl (lv_at hl 1 rfl) ?_
  refine th_gor (th_runV (As := [.int k]) (rest := []) C hS.1 (RX11, TX11, 20) rfl gV_RX11_195 (FX.f0 hF) (t_X11_standingStation iz_k (FX.f0 hF) (FX.f34 hF)) hl rfl rfl rfl rfl ⟨Nat.le_of_ble_eq_true rfl, Nat.le_of_ble_eq_true rfl⟩ (Nat.le_of_ble_eq_true rfl) ⟨Nat.le_of_ble_eq_true rfl, Nat.le_of_ble_eq_true rfl⟩ dX11_field_2) ?_
  refine lv_astore_nN (lv' := [(3, .null), (0, .ref x), (1, .int k), (2, .int c)]) hx hb dX11_field_5 rfl hl (by decide) rfl (fun ls hl => ?_)
  refine lv_aload_nN hx hb dX11_field_6 rfl (lv_at hl 0 rfl) ?_
  refine lv_ifnullN hx hb (tgt := 21) dX11_field_7 (by decide) ?_
  refine lv_iconst (v := (-1)) hx hb dX11_field_21 (by decide) ?_
  exact th_reti C (by have hfin := li_n1; omega) dX11_field_22

set_option maxHeartbeats 400000 in
set_option maxRecDepth 100000 in
theorem t_X11_reserve {l : Launch} {D : va_G} {dA : Nat → ClassId} {K : Kmap} {V : Vmap} {sz : Nat} {x : Nat} {a b rk : Int32} {a_i b_i rk_i : Int} (iz_a : a.toInt = a_i) (iz_b : b.toInt = b_i) (iz_rk : rk.toInt = rk_i) (F : FX K V x) : Met l yX11_reserve (wsOf yX11_reserve cX11_reserve 4 (some .int)) { frames := 2, cells := 1, slots := 16, locals := 43 } (PC D dA K V sz [.ref x, .int a, .int b, .int rk]) (HQi D dA K (fun r K1 V1 => (∀ b, K b = some (0, 11) → V1 b = V b) ∧ (((((0 ≤ a_i ∧ a_i ≤ 63) ∧ (0 ≤ b_i ∧ b_i ≤ 63) ∧ (a_i / 8) ≤ (b_i / 8) ∧ (a_i % 8) ≤ (b_i % 8)) ∧ (1 ≤ rk_i ∧ rk_i ≤ 9)) ∧ r.toInt = 0) ∨ ((((0 > a_i ∨ a_i > 63) ∨ (0 > b_i ∨ b_i > 63) ∨ (a_i / 8) > (b_i / 8) ∨ (a_i % 8) > (b_i % 8)) ∨ (1 > rk_i ∨ rk_i > 9)) ∧ r.toInt = (-1))))) 1 16 (AK K sz) := by
  refine th_body (by decide +kernel) (Nat.le_of_ble_eq_true rfl) (fun pZ eZ sZ mZ belowZ methZ cZ C hR hsz hnm ls hl => ?_)
  have C : CX pZ sZ mZ [.ref x, .int a, .int b, .int rk].toArray methZ cZ cX11_reserve 4 (some .int) RX11 D dA := C
  have hx := C.1; have hb := C.2.1
  have hl : lv_has ls 4 [(0, .ref x), (1, .int a), (2, .int b), (3, .int rk)] := hl
  subst hsz
  have hS : ST D dA K sZ.heap K V sZ.heap [] := ST.rf hR
  have r_a := th_rng a; rw [iz_a] at r_a
  have r_b := th_rng b; rw [iz_b] at r_b
  have r_rk := th_rng rk; rw [iz_rk] at r_rk
  have F0 := F
  obtain ⟨ad, hF⟩ := F
  refine lv_aload_n hx hb dX11_reserve_0 rfl (lv_at hl 0 rfl) ?_
  refine th_get C hS.1 (FX.f0 hF) fl_RX11_12 (FX.f1 hF) dX11_reserve_1 ?_
  refine lv_iload_n hx hb dX11_reserve_4 rfl (lv_at hl 1 rfl) ?_
  refine lv_iload_n hx hb dX11_reserve_5 rfl (lv_at hl 2 rfl) ?_
  refine th_goi (th_runV (As := [.int a, .int b]) (rest := []) C hS.1 (RX0, TX0, 13) rfl gV_RX11_155 (FX.f2 hF) (t_X0_isRectangle iz_a iz_b (FX.f2 hF) (FX.f4 hF) (FX.f5 hF)) hl rfl rfl rfl rfl ⟨Nat.le_of_ble_eq_true rfl, Nat.le_of_ble_eq_true rfl⟩ (Nat.le_of_ble_eq_true rfl) ⟨Nat.le_of_ble_eq_true rfl, Nat.le_of_ble_eq_true rfl⟩ dX11_reserve_6) (fun r3469 hq3470 => ?_)
  refine th_if_eq (X := r3469.toInt) (tgt := 22) hx hb dX11_reserve_9 (by decide) rfl (fun c3471 => ?_) (fun c3471 => ?_)
  · replace hq3470 := Or.resolve_left hq3470 (fun h => absurd h.2 (by omega))
    refine lv_iconst (v := (-1)) hx hb dX11_reserve_22 (by decide) ?_
    exact th_retiH (post := fun r K1 V1 => (∀ b, K b = some (0, 11) → V1 b = V b) ∧ (((((0 ≤ a_i ∧ a_i ≤ 63) ∧ (0 ≤ b_i ∧ b_i ≤ 63) ∧ (a_i / 8) ≤ (b_i / 8) ∧ (a_i % 8) ≤ (b_i % 8)) ∧ (1 ≤ rk_i ∧ rk_i ≤ 9)) ∧ r.toInt = 0) ∨ ((((0 > a_i ∨ a_i > 63) ∨ (0 > b_i ∨ b_i > 63) ∨ (a_i / 8) > (b_i / 8) ∨ (a_i % 8) > (b_i % 8)) ∨ (1 > rk_i ∨ rk_i > 9)) ∧ r.toInt = (-1)))) (cells := 0) (slots := 0) (mc := 1) (ms := 16) C hS ⟨(fun b hb => rfl), (Or.inr (⟨by omega, li_n1⟩))⟩ (Nat.le_of_ble_eq_true rfl) (Nat.le_of_ble_eq_true rfl) dX11_reserve_23
  · replace hq3470 := Or.resolve_right hq3470 (fun h => absurd h.2 (by omega))
    refine lv_iload_n hx hb dX11_reserve_12 rfl (lv_at hl 3 rfl) ?_
    refine lv_iconst (v := 1) hx hb dX11_reserve_13 (by decide) ?_
    refine lv_bipush (v := 9) hx hb dX11_reserve_14 (by decide) ?_
    refine th_goi (th_runS (As := [.int rk, .int 1, .int 9]) (rest := []) C hS.1 gS_RX11_112 (t_X11_between iz_rk li_1 li_9) hl rfl rfl rfl rfl ⟨Nat.le_of_ble_eq_true rfl, Nat.le_of_ble_eq_true rfl⟩ (Nat.le_of_ble_eq_true rfl) ⟨Nat.le_of_ble_eq_true rfl, Nat.le_of_ble_eq_true rfl⟩ dX11_reserve_16) (fun r3472 hq3473 => ?_)
    refine th_if_ne (X := r3472.toInt) (tgt := 24) hx hb dX11_reserve_19 (by decide) rfl (fun c3474 => ?_) (fun c3474 => ?_)
    · replace hq3473 := Or.resolve_right hq3473 (fun h => absurd h.2 (by omega))
      refine lv_aload_n hx hb dX11_reserve_24 rfl (lv_at hl 0 rfl) ?_
      refine th_new (ci := 3) C hS (RX3, TX3, 16) tyX3 rfl lays_3 tyX3_ok gw_221 gw_425 gw_10 (Nat.le_of_ble_eq_true rfl) (Nat.le_of_ble_eq_true rfl) dX11_reserve_25 (fun q3475 K3476 V3477 H hq3478 hK3479 hVn3480 hVo3481 hS => ?_)
      have hE3482 : ∀ a k, K a = some k → K3476 a = some k := fun a k h => by rw [hK3479, updK_ne (K_old h hq3478)]; exact h
      have hK3483 : K3476 q3475 = some (0, 3) := by rw [hK3479]; exact updK_same
      refine W.widen (k := 1) (n := 16) (Nat.le_of_ble_eq_true rfl) (Nat.le_of_ble_eq_true rfl) ?_
      refine lv_dup hx hb dX11_reserve_28 rfl ?_
      refine lv_iconst (v := 3) hx hb dX11_reserve_29 (by decide) ?_
      refine lv_iconst (v := (-1)) hx hb dX11_reserve_30 (by decide) ?_
      refine lv_iload_n hx hb dX11_reserve_31 rfl (lv_at hl 1 rfl) ?_
      refine lv_iload_n hx hb dX11_reserve_32 rfl (lv_at hl 2 rfl) ?_
      refine lv_iload_n hx hb dX11_reserve_33 rfl (lv_at hl 3 rfl) ?_
      refine th_govH hS rfl (th_runI (As := [.int 3, .int (-1), .int a, .int b, .int rk]) (rest := [.ref q3475, .ref x]) C hS.1 gI_RX11_162 (t_X3_init_3 li_n1 iz_a iz_b iz_rk hK3483) hl rfl rfl rfl rfl ⟨Nat.le_of_ble_eq_true rfl, Nat.le_of_ble_eq_true rfl⟩ (Nat.le_of_ble_eq_true rfl) ⟨Nat.le_of_ble_eq_true rfl, Nat.le_of_ble_eq_true rfl⟩ dX11_reserve_34) (fun K3486 V3487 H locs1 hq3485 hE3488 hS => ?_)
      have hF3489 := hq3485
      have hv3491 : V3477 x 6 = .int 0 := Eq.trans (congrFun (hVo3481 _ (K_ne (hE3488 _ _ (hE3482 _ _ (FX.f0 hF))) (hE3488 _ _ hK3483) (by decide))) 6) (FX.f34 hF)
      have hv3492 : V3487 x 6 = .int 0 := Eq.trans (congrFun (hF3489 _ (by rw [(hE3482 _ _ (FX.f0 hF))]; exact fun h => by cases h) (K_ne (hE3488 _ _ (hE3482 _ _ (FX.f0 hF))) (hE3488 _ _ hK3483) (by decide))) 6) hv3491
      have hv3493 : V3477 x 5 = .ref (ad 12) := Eq.trans (congrFun (hVo3481 _ (K_ne (hE3488 _ _ (hE3482 _ _ (FX.f0 hF))) (hE3488 _ _ hK3483) (by decide))) 5) (FX.f32 hF)
      have hv3494 : V3487 x 5 = .ref (ad 12) := Eq.trans (congrFun (hF3489 _ (by rw [(hE3482 _ _ (FX.f0 hF))]; exact fun h => by cases h) (K_ne (hE3488 _ _ (hE3482 _ _ (FX.f0 hF))) (hE3488 _ _ hK3483) (by decide))) 5) hv3493
      refine th_goiH hS rfl (th_runV (As := [.ref q3475]) (rest := []) C hS.1 (RX11, TX11, 20) rfl gV_RX11_165 (hE3488 _ _ (hE3482 _ _ (FX.f0 hF))) (t_X11_settle (hE3488 _ _ (hE3482 _ _ (FX.f0 hF))) hv3492 hv3494 (hE3488 _ _ (hE3482 _ _ (FX.f33 hF))) (hE3488 _ _ hK3483)) hl rfl rfl rfl rfl ⟨Nat.le_of_ble_eq_true rfl, Nat.le_of_ble_eq_true rfl⟩ (Nat.le_of_ble_eq_true rfl) ⟨Nat.le_of_ble_eq_true rfl, Nat.le_of_ble_eq_true rfl⟩ dX11_reserve_37) (fun r3495 K3497 V3498 H locs1 hq3496 hE3499 hS => ?_)
      obtain ⟨rfl, hF3500, hr3501⟩ := hq3496
      exact th_retiH (post := fun r K1 V1 => (∀ b, K b = some (0, 11) → V1 b = V b) ∧ (((((0 ≤ a_i ∧ a_i ≤ 63) ∧ (0 ≤ b_i ∧ b_i ≤ 63) ∧ (a_i / 8) ≤ (b_i / 8) ∧ (a_i % 8) ≤ (b_i % 8)) ∧ (1 ≤ rk_i ∧ rk_i ≤ 9)) ∧ r.toInt = 0) ∨ ((((0 > a_i ∨ a_i > 63) ∨ (0 > b_i ∨ b_i > 63) ∨ (a_i / 8) > (b_i / 8) ∨ (a_i % 8) > (b_i % 8)) ∨ (1 > rk_i ∨ rk_i > 9)) ∧ r.toInt = (-1)))) (cells := 1) (slots := 16) (mc := 1) (ms := 16) C hS ⟨(fun b hb  => Eq.trans (hF3500 _ (by rw [(hE3488 _ _ (hE3482 _ _ hb))]; exact fun h => by cases h) (K_ne (hE3488 _ _ (hE3482 _ _ hb)) (hE3488 _ _ (hE3482 _ _ (FX.f0 hF))) (by decide)) (K_ne (hE3488 _ _ (hE3482 _ _ hb)) (hE3488 _ _ (hE3482 _ _ (FX.f33 hF))) (by decide))) (Eq.trans (hF3489 _ (by rw [(hE3482 _ _ hb)]; exact fun h => by cases h) (K_ne (hE3482 _ _ hb) hK3483 (by decide))) ((hVo3481 _ (K_old hb hq3478))))), (Or.inl ⟨by omega, by omega⟩)⟩ (Nat.le_of_ble_eq_true rfl) (Nat.le_of_ble_eq_true rfl) dX11_reserve_40
    · replace hq3473 := Or.resolve_left hq3473 (fun h => absurd h.2 (by omega))
      refine lv_iconst (v := (-1)) hx hb dX11_reserve_22 (by decide) ?_
      exact th_retiH (post := fun r K1 V1 => (∀ b, K b = some (0, 11) → V1 b = V b) ∧ (((((0 ≤ a_i ∧ a_i ≤ 63) ∧ (0 ≤ b_i ∧ b_i ≤ 63) ∧ (a_i / 8) ≤ (b_i / 8) ∧ (a_i % 8) ≤ (b_i % 8)) ∧ (1 ≤ rk_i ∧ rk_i ≤ 9)) ∧ r.toInt = 0) ∨ ((((0 > a_i ∨ a_i > 63) ∨ (0 > b_i ∨ b_i > 63) ∨ (a_i / 8) > (b_i / 8) ∨ (a_i % 8) > (b_i % 8)) ∨ (1 > rk_i ∨ rk_i > 9)) ∧ r.toInt = (-1)))) (cells := 0) (slots := 0) (mc := 1) (ms := 16) C hS ⟨(fun b hb => rfl), (Or.inr (⟨by omega, li_n1⟩))⟩ (Nat.le_of_ble_eq_true rfl) (Nat.le_of_ble_eq_true rfl) dX11_reserve_23

set_option maxHeartbeats 400000 in
set_option maxRecDepth 100000 in
theorem t_X11_site {l : Launch} {D : va_G} {dA : Nat → ClassId} {K : Kmap} {V : Vmap} {sz : Nat} {x : Nat} {c ne : Int32} {c_i ne_i : Int} (iz_c : c.toInt = c_i) (iz_ne : ne.toInt = ne_i) (F : FX K V x) : Met l yX11_site (wsOf yX11_site cX11_site 3 (some .int)) { frames := 3, cells := 3, slots := 36, locals := 62 } (PC D dA K V sz [.ref x, .int c, .int ne]) (HQi D dA K (fun r K1 V1 => (∀ b, K b = some (0, 11) → V1 b = V b) ∧ (((0 ≤ c_i ∧ c_i ≤ 63) ∧ r.toInt = 0) ∨ ((0 > c_i ∨ c_i > 63) ∧ r.toInt = (-1))))) 3 36 (AK K sz) := by
  refine th_body (by decide +kernel) (Nat.le_of_ble_eq_true rfl) (fun pZ eZ sZ mZ belowZ methZ cZ C hR hsz hnm ls hl => ?_)
  have C : CX pZ sZ mZ [.ref x, .int c, .int ne].toArray methZ cZ cX11_site 3 (some .int) RX11 D dA := C
  have hx := C.1; have hb := C.2.1
  have hl : lv_has ls 3 [(0, .ref x), (1, .int c), (2, .int ne)] := hl
  subst hsz
  have hS : ST D dA K sZ.heap K V sZ.heap [] := ST.rf hR
  have r_c := th_rng c; rw [iz_c] at r_c
  have r_ne := th_rng ne; rw [iz_ne] at r_ne
  have F0 := F
  obtain ⟨ad, hF⟩ := F
  refine lv_aload_n hx hb dX11_site_0 rfl (lv_at hl 0 rfl) ?_
  refine th_get C hS.1 (FX.f0 hF) fl_RX11_12 (FX.f1 hF) dX11_site_1 ?_
  refine lv_iload_n hx hb dX11_site_4 rfl (lv_at hl 1 rfl) ?_
  refine th_goi (th_runV (As := [.int c]) (rest := []) C hS.1 (RX0, TX0, 13) rfl gV_RX11_119 (FX.f2 hF) (t_X0_isCell iz_c (FX.f2 hF) (FX.f4 hF) (FX.f5 hF)) hl rfl rfl rfl rfl ⟨Nat.le_of_ble_eq_true rfl, Nat.le_of_ble_eq_true rfl⟩ (Nat.le_of_ble_eq_true rfl) ⟨Nat.le_of_ble_eq_true rfl, Nat.le_of_ble_eq_true rfl⟩ dX11_site_5) (fun r3502 hq3503 => ?_)
  refine th_if_ne (X := r3502.toInt) (tgt := 13) hx hb dX11_site_8 (by decide) rfl (fun c3504 => ?_) (fun c3504 => ?_)
  · replace hq3503 := Or.resolve_right hq3503 (fun h => absurd h.2 (by omega))
    refine lv_aload_n hx hb dX11_site_13 rfl (lv_at hl 0 rfl) ?_
    refine th_new (ci := 3) C hS (RX3, TX3, 16) tyX3 rfl lays_3 tyX3_ok gw_221 gw_425 gw_10 (Nat.le_of_ble_eq_true rfl) (Nat.le_of_ble_eq_true rfl) dX11_site_14 (fun q3505 K3506 V3507 H hq3508 hK3509 hVn3510 hVo3511 hS => ?_)
    have hE3512 : ∀ a k, K a = some k → K3506 a = some k := fun a k h => by rw [hK3509, updK_ne (K_old h hq3508)]; exact h
    have hK3513 : K3506 q3505 = some (0, 3) := by rw [hK3509]; exact updK_same
    refine W.widen (k := 1) (n := 16) (Nat.le_of_ble_eq_true rfl) (Nat.le_of_ble_eq_true rfl) ?_
    refine lv_dup hx hb dX11_site_17 rfl ?_
    refine lv_iload_n hx hb dX11_site_18 rfl (lv_at hl 2 rfl) ?_
    refine th_if_eq (X := ne_i) (tgt := 26) hx hb dX11_site_19 (by decide) iz_ne (fun c3514 => ?_) (fun c3514 => ?_)
    · refine lv_iconst (v := 4) hx hb dX11_site_26 (by decide) ?_
      refine lv_iconst (v := (-1)) hx hb dX11_site_27 (by decide) ?_
      refine lv_iload_n hx hb dX11_site_28 rfl (lv_at hl 1 rfl) ?_
      refine lv_iconst (v := (-1)) hx hb dX11_site_29 (by decide) ?_
      refine lv_iconst (v := (-1)) hx hb dX11_site_30 (by decide) ?_
      refine th_govH hS rfl (th_runI (As := [.int 4, .int (-1), .int c, .int (-1), .int (-1)]) (rest := [.ref q3505, .ref x]) C hS.1 gI_RX11_162 (t_X3_init_4 li_n1 iz_c li_n1 li_n1 hK3513) hl rfl rfl rfl rfl ⟨Nat.le_of_ble_eq_true rfl, Nat.le_of_ble_eq_true rfl⟩ (Nat.le_of_ble_eq_true rfl) ⟨Nat.le_of_ble_eq_true rfl, Nat.le_of_ble_eq_true rfl⟩ dX11_site_31) (fun K3517 V3518 H locs1 hq3516 hE3519 hS => ?_)
      have hF3520 := hq3516
      refine W.widen (k := 3) (n := 36) (Nat.le_of_ble_eq_true rfl) (Nat.le_of_ble_eq_true rfl) ?_
      have hv3522 : V3507 x 6 = .int 0 := Eq.trans (congrFun (hVo3511 _ (K_ne (hE3519 _ _ (hE3512 _ _ (FX.f0 hF))) (hE3519 _ _ hK3513) (by decide))) 6) (FX.f34 hF)
      have hv3523 : V3518 x 6 = .int 0 := Eq.trans (congrFun (hF3520 _ (by rw [(hE3512 _ _ (FX.f0 hF))]; exact fun h => by cases h) (K_ne (hE3519 _ _ (hE3512 _ _ (FX.f0 hF))) (hE3519 _ _ hK3513) (by decide))) 6) hv3522
      have hv3524 : V3507 x 5 = .ref (ad 12) := Eq.trans (congrFun (hVo3511 _ (K_ne (hE3519 _ _ (hE3512 _ _ (FX.f0 hF))) (hE3519 _ _ hK3513) (by decide))) 5) (FX.f32 hF)
      have hv3525 : V3518 x 5 = .ref (ad 12) := Eq.trans (congrFun (hF3520 _ (by rw [(hE3512 _ _ (FX.f0 hF))]; exact fun h => by cases h) (K_ne (hE3519 _ _ (hE3512 _ _ (FX.f0 hF))) (hE3519 _ _ hK3513) (by decide))) 5) hv3524
      refine th_goiH hS rfl (th_runV (As := [.ref q3505]) (rest := []) C hS.1 (RX11, TX11, 20) rfl gV_RX11_165 (hE3519 _ _ (hE3512 _ _ (FX.f0 hF))) (t_X11_settle (hE3519 _ _ (hE3512 _ _ (FX.f0 hF))) hv3523 hv3525 (hE3519 _ _ (hE3512 _ _ (FX.f33 hF))) (hE3519 _ _ hK3513)) hl rfl rfl rfl rfl ⟨Nat.le_of_ble_eq_true rfl, Nat.le_of_ble_eq_true rfl⟩ (Nat.le_of_ble_eq_true rfl) ⟨Nat.le_of_ble_eq_true rfl, Nat.le_of_ble_eq_true rfl⟩ dX11_site_34) (fun r3526 K3528 V3529 H locs1 hq3527 hE3530 hS => ?_)
      obtain ⟨rfl, hF3531, hr3532⟩ := hq3527
      exact th_retiH (post := fun r K1 V1 => (∀ b, K b = some (0, 11) → V1 b = V b) ∧ (((0 ≤ c_i ∧ c_i ≤ 63) ∧ r.toInt = 0) ∨ ((0 > c_i ∨ c_i > 63) ∧ r.toInt = (-1)))) (cells := 3) (slots := 36) (mc := 3) (ms := 36) C hS ⟨(fun b hb  => Eq.trans (hF3531 _ (by rw [(hE3519 _ _ (hE3512 _ _ hb))]; exact fun h => by cases h) (K_ne (hE3519 _ _ (hE3512 _ _ hb)) (hE3519 _ _ (hE3512 _ _ (FX.f0 hF))) (by decide)) (K_ne (hE3519 _ _ (hE3512 _ _ hb)) (hE3519 _ _ (hE3512 _ _ (FX.f33 hF))) (by decide))) (Eq.trans (hF3520 _ (by rw [(hE3512 _ _ hb)]; exact fun h => by cases h) (K_ne (hE3512 _ _ hb) hK3513 (by decide))) ((hVo3511 _ (K_old hb hq3508))))), (Or.inl ⟨by omega, by omega⟩)⟩ (Nat.le_of_ble_eq_true rfl) (Nat.le_of_ble_eq_true rfl) dX11_site_37
    · refine lv_iconst (v := 5) hx hb dX11_site_22 (by decide) ?_
      refine lv_goto (tgt := 27) hx hb dX11_site_23 (by decide) ?_
      refine lv_iconst (v := (-1)) hx hb dX11_site_27 (by decide) ?_
      refine lv_iload_n hx hb dX11_site_28 rfl (lv_at hl 1 rfl) ?_
      refine lv_iconst (v := (-1)) hx hb dX11_site_29 (by decide) ?_
      refine lv_iconst (v := (-1)) hx hb dX11_site_30 (by decide) ?_
      refine th_govH hS rfl (th_runI (As := [.int 5, .int (-1), .int c, .int (-1), .int (-1)]) (rest := [.ref q3505, .ref x]) C hS.1 gI_RX11_162 (t_X3_init_5 li_n1 iz_c li_n1 li_n1 hK3513) hl rfl rfl rfl rfl ⟨Nat.le_of_ble_eq_true rfl, Nat.le_of_ble_eq_true rfl⟩ (Nat.le_of_ble_eq_true rfl) ⟨Nat.le_of_ble_eq_true rfl, Nat.le_of_ble_eq_true rfl⟩ dX11_site_31) (fun K3535 V3536 H locs1 hq3534 hE3537 hS => ?_)
      have hF3538 := hq3534
      refine W.widen (k := 3) (n := 36) (Nat.le_of_ble_eq_true rfl) (Nat.le_of_ble_eq_true rfl) ?_
      have hv3540 : V3507 x 6 = .int 0 := Eq.trans (congrFun (hVo3511 _ (K_ne (hE3537 _ _ (hE3512 _ _ (FX.f0 hF))) (hE3537 _ _ hK3513) (by decide))) 6) (FX.f34 hF)
      have hv3541 : V3536 x 6 = .int 0 := Eq.trans (congrFun (hF3538 _ (by rw [(hE3512 _ _ (FX.f0 hF))]; exact fun h => by cases h) (K_ne (hE3537 _ _ (hE3512 _ _ (FX.f0 hF))) (hE3537 _ _ hK3513) (by decide))) 6) hv3540
      have hv3542 : V3507 x 5 = .ref (ad 12) := Eq.trans (congrFun (hVo3511 _ (K_ne (hE3537 _ _ (hE3512 _ _ (FX.f0 hF))) (hE3537 _ _ hK3513) (by decide))) 5) (FX.f32 hF)
      have hv3543 : V3536 x 5 = .ref (ad 12) := Eq.trans (congrFun (hF3538 _ (by rw [(hE3512 _ _ (FX.f0 hF))]; exact fun h => by cases h) (K_ne (hE3537 _ _ (hE3512 _ _ (FX.f0 hF))) (hE3537 _ _ hK3513) (by decide))) 5) hv3542
      refine th_goiH hS rfl (th_runV (As := [.ref q3505]) (rest := []) C hS.1 (RX11, TX11, 20) rfl gV_RX11_165 (hE3537 _ _ (hE3512 _ _ (FX.f0 hF))) (t_X11_settle (hE3537 _ _ (hE3512 _ _ (FX.f0 hF))) hv3541 hv3543 (hE3537 _ _ (hE3512 _ _ (FX.f33 hF))) (hE3537 _ _ hK3513)) hl rfl rfl rfl rfl ⟨Nat.le_of_ble_eq_true rfl, Nat.le_of_ble_eq_true rfl⟩ (Nat.le_of_ble_eq_true rfl) ⟨Nat.le_of_ble_eq_true rfl, Nat.le_of_ble_eq_true rfl⟩ dX11_site_34) (fun r3544 K3546 V3547 H locs1 hq3545 hE3548 hS => ?_)
      obtain ⟨rfl, hF3549, hr3550⟩ := hq3545
      exact th_retiH (post := fun r K1 V1 => (∀ b, K b = some (0, 11) → V1 b = V b) ∧ (((0 ≤ c_i ∧ c_i ≤ 63) ∧ r.toInt = 0) ∨ ((0 > c_i ∨ c_i > 63) ∧ r.toInt = (-1)))) (cells := 3) (slots := 36) (mc := 3) (ms := 36) C hS ⟨(fun b hb  => Eq.trans (hF3549 _ (by rw [(hE3537 _ _ (hE3512 _ _ hb))]; exact fun h => by cases h) (K_ne (hE3537 _ _ (hE3512 _ _ hb)) (hE3537 _ _ (hE3512 _ _ (FX.f0 hF))) (by decide)) (K_ne (hE3537 _ _ (hE3512 _ _ hb)) (hE3537 _ _ (hE3512 _ _ (FX.f33 hF))) (by decide))) (Eq.trans (hF3538 _ (by rw [(hE3512 _ _ hb)]; exact fun h => by cases h) (K_ne (hE3512 _ _ hb) hK3513 (by decide))) ((hVo3511 _ (K_old hb hq3508))))), (Or.inl ⟨by omega, by omega⟩)⟩ (Nat.le_of_ble_eq_true rfl) (Nat.le_of_ble_eq_true rfl) dX11_site_37
  · replace hq3503 := Or.resolve_left hq3503 (fun h => absurd h.2 (by omega))
    refine lv_iconst (v := (-1)) hx hb dX11_site_11 (by decide) ?_
    exact th_retiH (post := fun r K1 V1 => (∀ b, K b = some (0, 11) → V1 b = V b) ∧ (((0 ≤ c_i ∧ c_i ≤ 63) ∧ r.toInt = 0) ∨ ((0 > c_i ∨ c_i > 63) ∧ r.toInt = (-1)))) (cells := 0) (slots := 0) (mc := 3) (ms := 36) C hS ⟨(fun b hb => rfl), (Or.inr (⟨by omega, li_n1⟩))⟩ (Nat.le_of_ble_eq_true rfl) (Nat.le_of_ble_eq_true rfl) dX11_site_12

set_option maxHeartbeats 400000 in
set_option maxRecDepth 100000 in
theorem t_X11_feed {l : Launch} {D : va_G} {dA : Nat → ClassId} {K : Kmap} {V : Vmap} {sz : Nat} {x : Nat} {a b c d e1 : Int32} {a_i b_i c_i d_i e1_i : Int} (iz_a : a.toInt = a_i) (iz_b : b.toInt = b_i) (iz_c : c.toInt = c_i) (iz_d : d.toInt = d_i) (iz_e1 : e1.toInt = e1_i) (F : FX K V x) : Met l yX11_feed (wsOf yX11_feed cX11_feed 6 (some .int)) { frames := 3, cells := 0, slots := 0, locals := 73 } (PC D dA K V sz [.ref x, .int a, .int b, .int c, .int d, .int e1]) (HQi D dA K (fun r K1 V1 => (∀ b, K b = some (0, 11) → V1 b = V b) ∧ ((r.toInt = 20)))) 0 0 (AK K sz) := by
  refine th_body (by decide +kernel) (Nat.le_of_ble_eq_true rfl) (fun pZ eZ sZ mZ belowZ methZ cZ C hR hsz hnm ls hl => ?_)
  have C : CX pZ sZ mZ [.ref x, .int a, .int b, .int c, .int d, .int e1].toArray methZ cZ cX11_feed 6 (some .int) RX11 D dA := C
  have hx := C.1; have hb := C.2.1
  have hl : lv_has ls 6 [(0, .ref x), (1, .int a), (2, .int b), (3, .int c), (4, .int d), (5, .int e1)] := hl
  subst hsz
  have hS : ST D dA K sZ.heap K V sZ.heap [] := ST.rf hR
  have r_a := th_rng a; rw [iz_a] at r_a
  have r_b := th_rng b; rw [iz_b] at r_b
  have r_c := th_rng c; rw [iz_c] at r_c
  have r_d := th_rng d; rw [iz_d] at r_d
  have r_e1 := th_rng e1; rw [iz_e1] at r_e1
  have F0 := F
  obtain ⟨ad, hF⟩ := F
  refine lv_aload_n hx hb dX11_feed_0 rfl (lv_at hl 0 rfl) ?_
  refine th_get C hS.1 (FX.f0 hF) fl_RX11_91 (FX.f59 hF) dX11_feed_1 ?_
  refine th_get C hS.1 (FX.f60 hF) fl_RX11_199 (FX.f65 hF) dX11_feed_4 ?_
  refine lv_bipush (v := 20) hx hb dX11_feed_7 (by decide) ?_
  refine lv_iadd hx hb dX11_feed_9 ?_
  refine th_is (w := .int 20) (by decide) ?_
  refine lv_sipush (v := 400) hx hb dX11_feed_10 (by decide) ?_
  refine th_icmp_le (X := 20) (Y := 400) (tgt := 18) hx hb dX11_feed_13 (by decide) li_20 li_400 (fun c3551 => ?_) (fun c3551 => absurd c3551 (by omega))
  refine lv_aload_n hx hb dX11_feed_18 rfl (lv_at hl 0 rfl) ?_
  refine lv_iload_n hx hb dX11_feed_19 rfl (lv_at hl 1 rfl) ?_
  refine th_govH hS rfl (th_runV (As := [.int a]) (rest := []) C hS.1 (RX11, TX11, 20) rfl gV_RX11_202 (FX.f0 hF) (t_X11_feedNumber iz_a li_0 (FX.f0 hF) (FX.f59 hF) (FX.f60 hF) (FX.f61 hF) (FX.f62 hF) (FX.f63 hF) (FX.f64 hF) (FX.f65 hF) (by omega) (by omega)) hl rfl rfl rfl rfl ⟨Nat.le_of_ble_eq_true rfl, Nat.le_of_ble_eq_true rfl⟩ (Nat.le_of_ble_eq_true rfl) ⟨Nat.le_of_ble_eq_true rfl, Nat.le_of_ble_eq_true rfl⟩ dX11_feed_20) (fun K3554 V3555 H locs1 hq3553 hE3556 hS => ?_)
  obtain ⟨rfl, hF3557, hA3558, hA3559, hA3560, ⟨z3562, hA3561, hz3562⟩⟩ := hq3553
  refine lv_aload_n hx hb dX11_feed_23 rfl (lv_at hl 0 rfl) ?_
  refine lv_iload_n hx hb dX11_feed_24 rfl (lv_at hl 2 rfl) ?_
  have hv3564 : V3555 x 17 = .ref (ad 20) := Eq.trans (congrFun (hF3557 _ (by rw [(FX.f0 hF)]; exact fun h => by cases h) (K_ne (FX.f0 hF) (FX.f60 hF) (by decide)) (K_ne (FX.f0 hF) (FX.f64 hF) (by decide))) 17) (FX.f59 hF)
  refine th_govH hS rfl (th_runV (As := [.int b]) (rest := []) C hS.1 (RX11, TX11, 20) rfl gV_RX11_202 (FX.f0 hF) (t_X11_feedNumber iz_b hz3562 (FX.f0 hF) hv3564 (FX.f60 hF) hA3558 hA3559 hA3560 (FX.f64 hF) hA3561 (by omega) (by omega)) hl rfl rfl rfl rfl ⟨Nat.le_of_ble_eq_true rfl, Nat.le_of_ble_eq_true rfl⟩ (Nat.le_of_ble_eq_true rfl) ⟨Nat.le_of_ble_eq_true rfl, Nat.le_of_ble_eq_true rfl⟩ dX11_feed_25) (fun K3567 V3568 H locs1 hq3566 hE3569 hS => ?_)
  obtain ⟨rfl, hF3570, hA3571, hA3572, hA3573, ⟨z3575, hA3574, hz3575⟩⟩ := hq3566
  refine lv_aload_n hx hb dX11_feed_28 rfl (lv_at hl 0 rfl) ?_
  refine lv_iload_n hx hb dX11_feed_29 rfl (lv_at hl 3 rfl) ?_
  have hv3577 : V3568 x 17 = .ref (ad 20) := Eq.trans (congrFun (hF3570 _ (by rw [(FX.f0 hF)]; exact fun h => by cases h) (K_ne (FX.f0 hF) (FX.f60 hF) (by decide)) (K_ne (FX.f0 hF) (FX.f64 hF) (by decide))) 17) hv3564
  refine th_govH hS rfl (th_runV (As := [.int c]) (rest := []) C hS.1 (RX11, TX11, 20) rfl gV_RX11_202 (FX.f0 hF) (t_X11_feedNumber iz_c hz3575 (FX.f0 hF) hv3577 (FX.f60 hF) hA3571 hA3572 hA3573 (FX.f64 hF) hA3574 (by omega) (by omega)) hl rfl rfl rfl rfl ⟨Nat.le_of_ble_eq_true rfl, Nat.le_of_ble_eq_true rfl⟩ (Nat.le_of_ble_eq_true rfl) ⟨Nat.le_of_ble_eq_true rfl, Nat.le_of_ble_eq_true rfl⟩ dX11_feed_30) (fun K3580 V3581 H locs1 hq3579 hE3582 hS => ?_)
  obtain ⟨rfl, hF3583, hA3584, hA3585, hA3586, ⟨z3588, hA3587, hz3588⟩⟩ := hq3579
  refine lv_aload_n hx hb dX11_feed_33 rfl (lv_at hl 0 rfl) ?_
  refine lv_iload hx hb dX11_feed_34 (lv_at hl 4 rfl) ?_
  have hv3590 : V3581 x 17 = .ref (ad 20) := Eq.trans (congrFun (hF3583 _ (by rw [(FX.f0 hF)]; exact fun h => by cases h) (K_ne (FX.f0 hF) (FX.f60 hF) (by decide)) (K_ne (FX.f0 hF) (FX.f64 hF) (by decide))) 17) hv3577
  refine th_govH hS rfl (th_runV (As := [.int d]) (rest := []) C hS.1 (RX11, TX11, 20) rfl gV_RX11_202 (FX.f0 hF) (t_X11_feedNumber iz_d hz3588 (FX.f0 hF) hv3590 (FX.f60 hF) hA3584 hA3585 hA3586 (FX.f64 hF) hA3587 (by omega) (by omega)) hl rfl rfl rfl rfl ⟨Nat.le_of_ble_eq_true rfl, Nat.le_of_ble_eq_true rfl⟩ (Nat.le_of_ble_eq_true rfl) ⟨Nat.le_of_ble_eq_true rfl, Nat.le_of_ble_eq_true rfl⟩ dX11_feed_36) (fun K3593 V3594 H locs1 hq3592 hE3595 hS => ?_)
  obtain ⟨rfl, hF3596, hA3597, hA3598, hA3599, ⟨z3601, hA3600, hz3601⟩⟩ := hq3592
  refine lv_aload_n hx hb dX11_feed_39 rfl (lv_at hl 0 rfl) ?_
  refine lv_iload hx hb dX11_feed_40 (lv_at hl 5 rfl) ?_
  have hv3603 : V3594 x 17 = .ref (ad 20) := Eq.trans (congrFun (hF3596 _ (by rw [(FX.f0 hF)]; exact fun h => by cases h) (K_ne (FX.f0 hF) (FX.f60 hF) (by decide)) (K_ne (FX.f0 hF) (FX.f64 hF) (by decide))) 17) hv3590
  refine th_govH hS rfl (th_runV (As := [.int e1]) (rest := []) C hS.1 (RX11, TX11, 20) rfl gV_RX11_202 (FX.f0 hF) (t_X11_feedNumber iz_e1 hz3601 (FX.f0 hF) hv3603 (FX.f60 hF) hA3597 hA3598 hA3599 (FX.f64 hF) hA3600 (by omega) (by omega)) hl rfl rfl rfl rfl ⟨Nat.le_of_ble_eq_true rfl, Nat.le_of_ble_eq_true rfl⟩ (Nat.le_of_ble_eq_true rfl) ⟨Nat.le_of_ble_eq_true rfl, Nat.le_of_ble_eq_true rfl⟩ dX11_feed_42) (fun K3606 V3607 H locs1 hq3605 hE3608 hS => ?_)
  obtain ⟨rfl, hF3609, hA3610, hA3611, hA3612, ⟨z3614, hA3613, hz3614⟩⟩ := hq3605
  refine lv_aload_n hx hb dX11_feed_45 rfl (lv_at hl 0 rfl) ?_
  have hv3616 : V3607 x 17 = .ref (ad 20) := Eq.trans (congrFun (hF3609 _ (by rw [(FX.f0 hF)]; exact fun h => by cases h) (K_ne (FX.f0 hF) (FX.f60 hF) (by decide)) (K_ne (FX.f0 hF) (FX.f64 hF) (by decide))) 17) hv3603
  refine th_get C hS.1 (FX.f0 hF) fl_RX11_91 hv3616 dX11_feed_46 ?_
  refine th_get C hS.1 (FX.f60 hF) fl_RX11_199 hA3613 dX11_feed_49 ?_
  exact th_retiH (post := fun r K1 V1 => (∀ b, K b = some (0, 11) → V1 b = V b) ∧ ((r.toInt = 20))) (cells := 0) (slots := 0) (mc := 0) (ms := 0) C hS ⟨(fun b hb  => Eq.trans (hF3609 _ (by rw [hb]; exact fun h => by cases h) (K_ne hb (FX.f60 hF) (by decide)) (K_ne hb (FX.f64 hF) (by decide))) (Eq.trans (hF3596 _ (by rw [hb]; exact fun h => by cases h) (K_ne hb (FX.f60 hF) (by decide)) (K_ne hb (FX.f64 hF) (by decide))) (Eq.trans (hF3583 _ (by rw [hb]; exact fun h => by cases h) (K_ne hb (FX.f60 hF) (by decide)) (K_ne hb (FX.f64 hF) (by decide))) (Eq.trans (hF3570 _ (by rw [hb]; exact fun h => by cases h) (K_ne hb (FX.f60 hF) (by decide)) (K_ne hb (FX.f64 hF) (by decide))) ((hF3557 _ (by rw [hb]; exact fun h => by cases h) (K_ne hb (FX.f60 hF) (by decide)) (K_ne hb (FX.f64 hF) (by decide)))))))), (by have hfin := hz3614; omega)⟩ (Nat.le_of_ble_eq_true rfl) (Nat.le_of_ble_eq_true rfl) dX11_feed_52

set_option maxHeartbeats 400000 in
set_option maxRecDepth 100000 in
theorem t_X11_text {l : Launch} {D : va_G} {dA : Nat → ClassId} {K : Kmap} {V : Vmap} {sz : Nat} {x : Nat} {fr to n : Int32} {fr_i to_i n_i : Int} (iz_fr : fr.toInt = fr_i) (iz_to : to.toInt = to_i) (iz_n : n.toInt = n_i) (F : FX K V x) : Met l yX11_text (wsOf yX11_text cX11_text 6 (some .int)) { frames := 1, cells := 0, slots := 0, locals := 22 } (PC D dA K V sz [.ref x, .int fr, .int to, .int n]) (PQi (fun r => (r.toInt = (-1)))) 0 0 noFree := by
  refine th_body (by decide +kernel) (Nat.le_of_ble_eq_true rfl) (fun pZ eZ sZ mZ belowZ methZ cZ C hR hsz hnm ls hl => ?_)
  have C : CX pZ sZ mZ [.ref x, .int fr, .int to, .int n].toArray methZ cZ cX11_text 6 (some .int) RX11 D dA := C
  have hx := C.1; have hb := C.2.1
  have hl : lv_has ls 6 [(0, .ref x), (1, .int fr), (2, .int to), (3, .int n)] := hl
  subst hsz
  have hS : ST D dA K sZ.heap K V sZ.heap [] := ST.rf hR
  have r_fr := th_rng fr; rw [iz_fr] at r_fr
  have r_to := th_rng to; rw [iz_to] at r_to
  have r_n := th_rng n; rw [iz_n] at r_n
  have F0 := F
  obtain ⟨ad, hF⟩ := F
  refine lv_iload_n hx hb dX11_text_0 rfl (lv_at hl 1 rfl) ?_
  refine lv_iload_n hx hb dX11_text_1 rfl (lv_at hl 2 rfl) ?_
  refine th_goi (th_runS (As := [.int fr, .int to]) (rest := []) C hS.1 gS_RX11_213 (t_X11_areDays iz_fr iz_to) hl rfl rfl rfl rfl ⟨Nat.le_of_ble_eq_true rfl, Nat.le_of_ble_eq_true rfl⟩ (Nat.le_of_ble_eq_true rfl) ⟨Nat.le_of_ble_eq_true rfl, Nat.le_of_ble_eq_true rfl⟩ dX11_text_2) (fun r3617 hq3618 => ?_)
  refine th_if_eq (X := r3617.toInt) (tgt := 42) hx hb dX11_text_5 (by decide) rfl (fun c3619 => ?_) (fun c3619 => ?_)
  · replace hq3618 := Or.resolve_left hq3618 (fun h => absurd h.2 (by omega))
    refine lv_iconst (v := (-1)) hx hb dX11_text_42 (by decide) ?_
    exact th_reti C (by have hfin := li_n1; omega) dX11_text_43
  · replace hq3618 := Or.resolve_right hq3618 (fun h => absurd h.2 (by omega))
    refine lv_iload_n hx hb dX11_text_8 rfl (lv_at hl 3 rfl) ?_
    refine lv_iconst (v := 1) hx hb dX11_text_9 (by decide) ?_
    refine lv_sipush (v := 200) hx hb dX11_text_10 (by decide) ?_
    refine th_goi (th_runS (As := [.int n, .int 1, .int 200]) (rest := []) C hS.1 gS_RX11_112 (t_X11_between iz_n li_1 li_200) hl rfl rfl rfl rfl ⟨Nat.le_of_ble_eq_true rfl, Nat.le_of_ble_eq_true rfl⟩ (Nat.le_of_ble_eq_true rfl) ⟨Nat.le_of_ble_eq_true rfl, Nat.le_of_ble_eq_true rfl⟩ dX11_text_13) (fun r3620 hq3621 => ?_)
    refine th_if_eq (X := r3620.toInt) (tgt := 42) hx hb dX11_text_16 (by decide) rfl (fun c3622 => ?_) (fun c3622 => ?_)
    · replace hq3621 := Or.resolve_left hq3621 (fun h => absurd h.2 (by omega))
      refine lv_iconst (v := (-1)) hx hb dX11_text_42 (by decide) ?_
      exact th_reti C (by have hfin := li_n1; omega) dX11_text_43
    · replace hq3621 := Or.resolve_right hq3621 (fun h => absurd h.2 (by omega))
      refine lv_aload_n hx hb dX11_text_19 rfl (lv_at hl 0 rfl) ?_
      refine th_get C hS.1 (FX.f0 hF) fl_RX11_19 (FX.f18 hF) dX11_text_20 ?_
      refine th_get C hS.1 (FX.f19 hF) fl_RX11_216 (FX.f20 hF) dX11_text_23 ?_
      refine lv_bipush (v := 20) hx hb dX11_text_26 (by decide) ?_
      refine th_icmp_ge (X := 0) (Y := 20) (tgt := 42) hx hb dX11_text_28 (by decide) li_0 li_20 (fun c3623 => absurd c3623 (by omega)) (fun c3623 => ?_)
      refine lv_iload_n hx hb dX11_text_31 rfl (lv_at hl 3 rfl) ?_
      refine lv_aload_n hx hb dX11_text_32 rfl (lv_at hl 0 rfl) ?_
      refine th_get C hS.1 (FX.f0 hF) fl_RX11_91 (FX.f59 hF) dX11_text_33 ?_
      refine th_get C hS.1 (FX.f60 hF) fl_RX11_199 (FX.f65 hF) dX11_text_36 ?_
      refine th_icmp_le (X := n_i) (Y := 0) (tgt := 44) hx hb dX11_text_39 (by decide) iz_n li_0 (fun c3624 => absurd c3624 (by omega)) (fun c3624 => ?_)
      refine lv_iconst (v := (-1)) hx hb dX11_text_42 (by decide) ?_
      exact th_reti C (by have hfin := li_n1; omega) dX11_text_43

set_option maxHeartbeats 400000 in
set_option maxRecDepth 100000 in
theorem t_X11_yes {l : Launch} {D : va_G} {dA : Nat → ClassId} {K : Kmap} {V : Vmap} {sz : Nat} {x : Nat} {p i : Int32} {p_i i_i : Int} (iz_p : p.toInt = p_i) (iz_i : i.toInt = i_i) (F : FX K V x) : Met l yX11_yes (wsOf yX11_yes cX11_yes 4 (some .boolean)) { frames := 1, cells := 0, slots := 0, locals := 21 } (PC D dA K V sz [.ref x, .int p, .int i]) (PQi (fun r => (r.toInt = 0))) 0 0 noFree := by
  refine th_body (by decide +kernel) (Nat.le_of_ble_eq_true rfl) (fun pZ eZ sZ mZ belowZ methZ cZ C hR hsz hnm ls hl => ?_)
  have C : CX pZ sZ mZ [.ref x, .int p, .int i].toArray methZ cZ cX11_yes 4 (some .boolean) RX11 D dA := C
  have hx := C.1; have hb := C.2.1
  have hl : lv_has ls 4 [(0, .ref x), (1, .int p), (2, .int i)] := hl
  subst hsz
  have hS : ST D dA K sZ.heap K V sZ.heap [] := ST.rf hR
  have r_p := th_rng p; rw [iz_p] at r_p
  have r_i := th_rng i; rw [iz_i] at r_i
  have F0 := F
  obtain ⟨ad, hF⟩ := F
  refine lv_aload_n hx hb dX11_yes_0 rfl (lv_at hl 0 rfl) ?_
  refine lv_iload_n hx hb dX11_yes_1 rfl (lv_at hl 1 rfl) ?_
  refine th_gor (th_runV (As := [.int p]) (rest := []) C hS.1 (RX11, TX11, 20) rfl gV_RX11_151 (FX.f0 hF) (t_X11_partyOf iz_p (FX.f0 hF) (FX.f31 hF)) hl rfl rfl rfl rfl ⟨Nat.le_of_ble_eq_true rfl, Nat.le_of_ble_eq_true rfl⟩ (Nat.le_of_ble_eq_true rfl) ⟨Nat.le_of_ble_eq_true rfl, Nat.le_of_ble_eq_true rfl⟩ dX11_yes_2) ?_
  refine lv_astore_nN (lv' := [(3, .null), (0, .ref x), (1, .int p), (2, .int i)]) hx hb dX11_yes_5 rfl hl (by decide) rfl (fun ls hl => ?_)
  refine lv_aload_nN hx hb dX11_yes_6 rfl (lv_at hl 0 rfl) ?_
  refine lv_ifnullN hx hb (tgt := 37) dX11_yes_7 (by decide) ?_
  refine lv_iconst (v := 0) hx hb dX11_yes_37 (by decide) ?_
  exact th_retz C (by have hfin := li_0; omega) (by have hfin := li_0; omega) dX11_yes_38

set_option maxHeartbeats 400000 in
set_option maxRecDepth 100000 in
theorem t_X11_reading {l : Launch} {D : va_G} {dA : Nat → ClassId} {K : Kmap} {V : Vmap} {sz : Nat} {x : Nat} {p i j n : Int32} {p_i i_i j_i n_i : Int} (iz_p : p.toInt = p_i) (iz_i : i.toInt = i_i) (iz_j : j.toInt = j_i) (iz_n : n.toInt = n_i) (F : FX K V x) : Met l yX11_reading (wsOf yX11_reading cX11_reading 8 (some .int)) { frames := 1, cells := 0, slots := 0, locals := 21 } (PC D dA K V sz [.ref x, .int p, .int i, .int j, .int n]) (PQi (fun r => (r.toInt = (-1)))) 0 0 noFree := by
  refine th_body (by decide +kernel) (Nat.le_of_ble_eq_true rfl) (fun pZ eZ sZ mZ belowZ methZ cZ C hR hsz hnm ls hl => ?_)
  have C : CX pZ sZ mZ [.ref x, .int p, .int i, .int j, .int n].toArray methZ cZ cX11_reading 8 (some .int) RX11 D dA := C
  have hx := C.1; have hb := C.2.1
  have hl : lv_has ls 8 [(0, .ref x), (1, .int p), (2, .int i), (3, .int j), (4, .int n)] := hl
  subst hsz
  have hS : ST D dA K sZ.heap K V sZ.heap [] := ST.rf hR
  have r_p := th_rng p; rw [iz_p] at r_p
  have r_i := th_rng i; rw [iz_i] at r_i
  have r_j := th_rng j; rw [iz_j] at r_j
  have r_n := th_rng n; rw [iz_n] at r_n
  have F0 := F
  obtain ⟨ad, hF⟩ := F
  refine lv_aload_n hx hb dX11_reading_0 rfl (lv_at hl 0 rfl) ?_
  refine th_get C hS.1 (FX.f0 hF) fl_RX11_19 (FX.f18 hF) dX11_reading_1 ?_
  refine lv_iload_n hx hb dX11_reading_4 rfl (lv_at hl 2 rfl) ?_
  refine th_gor (th_runV (As := [.int i]) (rest := []) C hS.1 (RX1, TX1, 13) rfl gV_RX11_246 (FX.f19 hF) (t_X1_textOf iz_i (FX.f19 hF) (FX.f20 hF)) hl rfl rfl rfl rfl ⟨Nat.le_of_ble_eq_true rfl, Nat.le_of_ble_eq_true rfl⟩ (Nat.le_of_ble_eq_true rfl) ⟨Nat.le_of_ble_eq_true rfl, Nat.le_of_ble_eq_true rfl⟩ dX11_reading_5) ?_
  refine lv_astoreN (lv' := [(5, .null), (0, .ref x), (1, .int p), (2, .int i), (3, .int j), (4, .int n)]) hx hb dX11_reading_8 hl (by decide) rfl (fun ls hl => ?_)
  refine lv_aload_n hx hb dX11_reading_10 rfl (lv_at hl 1 rfl) ?_
  refine lv_iload_n hx hb dX11_reading_11 rfl (lv_at hl 2 rfl) ?_
  refine th_gor (th_runV (As := [.int p]) (rest := []) C hS.1 (RX11, TX11, 20) rfl gV_RX11_151 (FX.f0 hF) (t_X11_partyOf iz_p (FX.f0 hF) (FX.f31 hF)) hl rfl rfl rfl rfl ⟨Nat.le_of_ble_eq_true rfl, Nat.le_of_ble_eq_true rfl⟩ (Nat.le_of_ble_eq_true rfl) ⟨Nat.le_of_ble_eq_true rfl, Nat.le_of_ble_eq_true rfl⟩ dX11_reading_12) ?_
  refine lv_ifnullN hx hb (tgt := 32) dX11_reading_15 (by decide) ?_
  refine lv_iconst (v := (-1)) hx hb dX11_reading_32 (by decide) ?_
  exact th_reti C (by have hfin := li_n1; omega) dX11_reading_33

set_option maxHeartbeats 400000 in
set_option maxRecDepth 100000 in
theorem t_X11_counts {l : Launch} {D : va_G} {dA : Nat → ClassId} {K : Kmap} {V : Vmap} {sz : Nat} {x : Nat} {i p dy : Int32} {i_i p_i dy_i : Int} (iz_i : i.toInt = i_i) (iz_p : p.toInt = p_i) (iz_dy : dy.toInt = dy_i) (F : FX K V x) : Met l yX11_counts (wsOf yX11_counts cX11_counts 5 (some .int)) { frames := 1, cells := 0, slots := 0, locals := 21 } (PC D dA K V sz [.ref x, .int i, .int p, .int dy]) (PQi (fun r => (r.toInt = (-1)))) 0 0 noFree := by
  refine th_body (by decide +kernel) (Nat.le_of_ble_eq_true rfl) (fun pZ eZ sZ mZ belowZ methZ cZ C hR hsz hnm ls hl => ?_)
  have C : CX pZ sZ mZ [.ref x, .int i, .int p, .int dy].toArray methZ cZ cX11_counts 5 (some .int) RX11 D dA := C
  have hx := C.1; have hb := C.2.1
  have hl : lv_has ls 5 [(0, .ref x), (1, .int i), (2, .int p), (3, .int dy)] := hl
  subst hsz
  have hS : ST D dA K sZ.heap K V sZ.heap [] := ST.rf hR
  have r_i := th_rng i; rw [iz_i] at r_i
  have r_p := th_rng p; rw [iz_p] at r_p
  have r_dy := th_rng dy; rw [iz_dy] at r_dy
  have F0 := F
  obtain ⟨ad, hF⟩ := F
  refine lv_aload_n hx hb dX11_counts_0 rfl (lv_at hl 0 rfl) ?_
  refine lv_iload_n hx hb dX11_counts_1 rfl (lv_at hl 2 rfl) ?_
  refine th_gor (th_runV (As := [.int p]) (rest := []) C hS.1 (RX11, TX11, 20) rfl gV_RX11_151 (FX.f0 hF) (t_X11_partyOf iz_p (FX.f0 hF) (FX.f31 hF)) hl rfl rfl rfl rfl ⟨Nat.le_of_ble_eq_true rfl, Nat.le_of_ble_eq_true rfl⟩ (Nat.le_of_ble_eq_true rfl) ⟨Nat.le_of_ble_eq_true rfl, Nat.le_of_ble_eq_true rfl⟩ dX11_counts_2) ?_
  refine lv_astoreN (lv' := [(4, .null), (0, .ref x), (1, .int i), (2, .int p), (3, .int dy)]) hx hb dX11_counts_5 hl (by decide) rfl (fun ls hl => ?_)
  refine lv_aloadN hx hb dX11_counts_7 (lv_at hl 0 rfl) ?_
  refine lv_ifnullN hx hb (tgt := 30) dX11_counts_9 (by decide) ?_
  refine lv_iconst (v := (-1)) hx hb dX11_counts_30 (by decide) ?_
  exact th_reti C (by have hfin := li_n1; omega) dX11_counts_31

set_option maxHeartbeats 400000 in
set_option maxRecDepth 100000 in
theorem t_X11_number {l : Launch} {D : va_G} {dA : Nat → ClassId} {K : Kmap} {V : Vmap} {sz : Nat} {x : Nat} {wh p dy : Int32} {wh_i p_i dy_i : Int} (iz_wh : wh.toInt = wh_i) (iz_p : p.toInt = p_i) (iz_dy : dy.toInt = dy_i) (F : FX K V x) : Met l yX11_number (wsOf yX11_number cX11_number 6 (some .int)) { frames := 1, cells := 0, slots := 0, locals := 22 } (PC D dA K V sz [.ref x, .int wh, .int p, .int dy]) (PQi (fun r => (r.toInt = (-1)))) 0 0 noFree := by
  refine th_body (by decide +kernel) (Nat.le_of_ble_eq_true rfl) (fun pZ eZ sZ mZ belowZ methZ cZ C hR hsz hnm ls hl => ?_)
  have C : CX pZ sZ mZ [.ref x, .int wh, .int p, .int dy].toArray methZ cZ cX11_number 6 (some .int) RX11 D dA := C
  have hx := C.1; have hb := C.2.1
  have hl : lv_has ls 6 [(0, .ref x), (1, .int wh), (2, .int p), (3, .int dy)] := hl
  subst hsz
  have hS : ST D dA K sZ.heap K V sZ.heap [] := ST.rf hR
  have r_wh := th_rng wh; rw [iz_wh] at r_wh
  have r_p := th_rng p; rw [iz_p] at r_p
  have r_dy := th_rng dy; rw [iz_dy] at r_dy
  have F0 := F
  obtain ⟨ad, hF⟩ := F
  refine lv_aload_n hx hb dX11_number_0 rfl (lv_at hl 0 rfl) ?_
  refine lv_iload_n hx hb dX11_number_1 rfl (lv_at hl 2 rfl) ?_
  refine th_gor (th_runV (As := [.int p]) (rest := []) C hS.1 (RX11, TX11, 20) rfl gV_RX11_151 (FX.f0 hF) (t_X11_partyOf iz_p (FX.f0 hF) (FX.f31 hF)) hl rfl rfl rfl rfl ⟨Nat.le_of_ble_eq_true rfl, Nat.le_of_ble_eq_true rfl⟩ (Nat.le_of_ble_eq_true rfl) ⟨Nat.le_of_ble_eq_true rfl, Nat.le_of_ble_eq_true rfl⟩ dX11_number_2) ?_
  refine lv_astoreN (lv' := [(4, .null), (0, .ref x), (1, .int wh), (2, .int p), (3, .int dy)]) hx hb dX11_number_5 hl (by decide) rfl (fun ls hl => ?_)
  refine lv_iload_n hx hb dX11_number_7 rfl (lv_at hl 2 rfl) ?_
  refine lv_bipush (v := 10) hx hb dX11_number_8 (by decide) ?_
  refine lv_bipush (v := 25) hx hb dX11_number_10 (by decide) ?_
  refine th_goi (th_runS (As := [.int wh, .int 10, .int 25]) (rest := []) C hS.1 gS_RX11_112 (t_X11_between iz_wh li_10 li_25) hl rfl rfl rfl rfl ⟨Nat.le_of_ble_eq_true rfl, Nat.le_of_ble_eq_true rfl⟩ (Nat.le_of_ble_eq_true rfl) ⟨Nat.le_of_ble_eq_true rfl, Nat.le_of_ble_eq_true rfl⟩ dX11_number_12) (fun r3635 hq3636 => ?_)
  refine lv_istore (lv' := [(5, .int r3635), (4, .null), (0, .ref x), (1, .int wh), (2, .int p), (3, .int dy)]) hx hb dX11_number_15 hl (by decide) rfl (fun ls hl => ?_)
  refine lv_aloadN hx hb dX11_number_17 (lv_at hl 1 rfl) ?_
  refine lv_ifnullN hx hb (tgt := 43) dX11_number_19 (by decide) ?_
  refine lv_iconst (v := (-1)) hx hb dX11_number_43 (by decide) ?_
  exact th_reti C (by have hfin := li_n1; omega) dX11_number_44

set_option maxHeartbeats 400000 in
set_option maxRecDepth 100000 in
theorem t_X11_decides {l : Launch} {D : va_G} {dA : Nat → ClassId} {K : Kmap} {V : Vmap} {sz : Nat} {x : Nat} {p dy : Int32} {p_i dy_i : Int} (iz_p : p.toInt = p_i) (iz_dy : dy.toInt = dy_i) (F : FX K V x) : Met l yX11_decides (wsOf yX11_decides cX11_decides 4 (some .int)) { frames := 1, cells := 0, slots := 0, locals := 21 } (PC D dA K V sz [.ref x, .int p, .int dy]) (PQi (fun r => (r.toInt = (-1)))) 0 0 noFree := by
  refine th_body (by decide +kernel) (Nat.le_of_ble_eq_true rfl) (fun pZ eZ sZ mZ belowZ methZ cZ C hR hsz hnm ls hl => ?_)
  have C : CX pZ sZ mZ [.ref x, .int p, .int dy].toArray methZ cZ cX11_decides 4 (some .int) RX11 D dA := C
  have hx := C.1; have hb := C.2.1
  have hl : lv_has ls 4 [(0, .ref x), (1, .int p), (2, .int dy)] := hl
  subst hsz
  have hS : ST D dA K sZ.heap K V sZ.heap [] := ST.rf hR
  have r_p := th_rng p; rw [iz_p] at r_p
  have r_dy := th_rng dy; rw [iz_dy] at r_dy
  have F0 := F
  obtain ⟨ad, hF⟩ := F
  refine lv_aload_n hx hb dX11_decides_0 rfl (lv_at hl 0 rfl) ?_
  refine lv_iload_n hx hb dX11_decides_1 rfl (lv_at hl 1 rfl) ?_
  refine th_gor (th_runV (As := [.int p]) (rest := []) C hS.1 (RX11, TX11, 20) rfl gV_RX11_151 (FX.f0 hF) (t_X11_partyOf iz_p (FX.f0 hF) (FX.f31 hF)) hl rfl rfl rfl rfl ⟨Nat.le_of_ble_eq_true rfl, Nat.le_of_ble_eq_true rfl⟩ (Nat.le_of_ble_eq_true rfl) ⟨Nat.le_of_ble_eq_true rfl, Nat.le_of_ble_eq_true rfl⟩ dX11_decides_2) ?_
  refine lv_astore_nN (lv' := [(3, .null), (0, .ref x), (1, .int p), (2, .int dy)]) hx hb dX11_decides_5 rfl hl (by decide) rfl (fun ls hl => ?_)
  refine lv_aload_nN hx hb dX11_decides_6 rfl (lv_at hl 0 rfl) ?_
  refine lv_ifnullN hx hb (tgt := 17) dX11_decides_7 (by decide) ?_
  refine lv_iconst (v := (-1)) hx hb dX11_decides_17 (by decide) ?_
  exact th_reti C (by have hfin := li_n1; omega) dX11_decides_18

set_option maxHeartbeats 400000 in
set_option maxRecDepth 100000 in
theorem t_X11_work {l : Launch} {D : va_G} {dA : Nat → ClassId} {K : Kmap} {V : Vmap} {sz : Nat} {x : Nat} {kd p c fr to pe noi : Int32} {kd_i p_i c_i fr_i to_i pe_i noi_i : Int} (iz_kd : kd.toInt = kd_i) (iz_p : p.toInt = p_i) (iz_c : c.toInt = c_i) (iz_fr : fr.toInt = fr_i) (iz_to : to.toInt = to_i) (iz_pe : pe.toInt = pe_i) (iz_noi : noi.toInt = noi_i) (F : FX K V x) : Met l yX11_work (wsOf yX11_work cX11_work 9 (some .int)) { frames := 1, cells := 0, slots := 0, locals := 22 } (PC D dA K V sz [.ref x, .int kd, .int p, .int c, .int fr, .int to, .int pe, .int noi]) (PQi (fun r => (r.toInt = (-1)))) 0 0 noFree := by
  refine th_body (by decide +kernel) (Nat.le_of_ble_eq_true rfl) (fun pZ eZ sZ mZ belowZ methZ cZ C hR hsz hnm ls hl => ?_)
  have C : CX pZ sZ mZ [.ref x, .int kd, .int p, .int c, .int fr, .int to, .int pe, .int noi].toArray methZ cZ cX11_work 9 (some .int) RX11 D dA := C
  have hx := C.1; have hb := C.2.1
  have hl : lv_has ls 9 [(0, .ref x), (1, .int kd), (2, .int p), (3, .int c), (4, .int fr), (5, .int to), (6, .int pe), (7, .int noi)] := hl
  subst hsz
  have hS : ST D dA K sZ.heap K V sZ.heap [] := ST.rf hR
  have r_kd := th_rng kd; rw [iz_kd] at r_kd
  have r_p := th_rng p; rw [iz_p] at r_p
  have r_c := th_rng c; rw [iz_c] at r_c
  have r_fr := th_rng fr; rw [iz_fr] at r_fr
  have r_to := th_rng to; rw [iz_to] at r_to
  have r_pe := th_rng pe; rw [iz_pe] at r_pe
  have r_noi := th_rng noi; rw [iz_noi] at r_noi
  have F0 := F
  obtain ⟨ad, hF⟩ := F
  refine lv_iload_n hx hb dX11_work_0 rfl (lv_at hl 1 rfl) ?_
  refine lv_iconst (v := 0) hx hb dX11_work_1 (by decide) ?_
  refine lv_bipush (v := 9) hx hb dX11_work_2 (by decide) ?_
  refine th_goi (th_runS (As := [.int kd, .int 0, .int 9]) (rest := []) C hS.1 gS_RX11_112 (t_X11_between iz_kd li_0 li_9) hl rfl rfl rfl rfl ⟨Nat.le_of_ble_eq_true rfl, Nat.le_of_ble_eq_true rfl⟩ (Nat.le_of_ble_eq_true rfl) ⟨Nat.le_of_ble_eq_true rfl, Nat.le_of_ble_eq_true rfl⟩ dX11_work_4) (fun r3639 hq3640 => ?_)
  refine th_if_eq (X := r3639.toInt) (tgt := 41) hx hb dX11_work_7 (by decide) rfl (fun c3641 => ?_) (fun c3641 => ?_)
  · replace hq3640 := Or.resolve_left hq3640 (fun h => absurd h.2 (by omega))
    refine lv_iconst (v := (-1)) hx hb dX11_work_41 (by decide) ?_
    exact th_reti C (by have hfin := li_n1; omega) dX11_work_42
  · replace hq3640 := Or.resolve_right hq3640 (fun h => absurd h.2 (by omega))
    refine lv_aload_n hx hb dX11_work_10 rfl (lv_at hl 0 rfl) ?_
    refine lv_iload_n hx hb dX11_work_11 rfl (lv_at hl 2 rfl) ?_
    refine th_gor (th_runV (As := [.int p]) (rest := []) C hS.1 (RX11, TX11, 20) rfl gV_RX11_151 (FX.f0 hF) (t_X11_partyOf iz_p (FX.f0 hF) (FX.f31 hF)) hl rfl rfl rfl rfl ⟨Nat.le_of_ble_eq_true rfl, Nat.le_of_ble_eq_true rfl⟩ (Nat.le_of_ble_eq_true rfl) ⟨Nat.le_of_ble_eq_true rfl, Nat.le_of_ble_eq_true rfl⟩ dX11_work_12) ?_
    refine lv_ifnullN hx hb (tgt := 41) dX11_work_15 (by decide) ?_
    refine lv_iconst (v := (-1)) hx hb dX11_work_41 (by decide) ?_
    exact th_reti C (by have hfin := li_n1; omega) dX11_work_42

set_option maxHeartbeats 400000 in
set_option maxRecDepth 100000 in
theorem t_X11_tell {l : Launch} {D : va_G} {dA : Nat → ClassId} {K : Kmap} {V : Vmap} {sz : Nat} {x : Nat} {w wh : Int32} {w_i wh_i : Int} (iz_w : w.toInt = w_i) (iz_wh : wh.toInt = wh_i) (F : FX K V x) : Met l yX11_tell (wsOf yX11_tell cX11_tell 4 (some .boolean)) { frames := 1, cells := 0, slots := 0, locals := 21 } (PC D dA K V sz [.ref x, .int w, .int wh]) (PQi (fun r => (r.toInt = 0))) 0 0 noFree := by
  refine th_body (by decide +kernel) (Nat.le_of_ble_eq_true rfl) (fun pZ eZ sZ mZ belowZ methZ cZ C hR hsz hnm ls hl => ?_)
  have C : CX pZ sZ mZ [.ref x, .int w, .int wh].toArray methZ cZ cX11_tell 4 (some .boolean) RX11 D dA := C
  have hx := C.1; have hb := C.2.1
  have hl : lv_has ls 4 [(0, .ref x), (1, .int w), (2, .int wh)] := hl
  subst hsz
  have hS : ST D dA K sZ.heap K V sZ.heap [] := ST.rf hR
  have r_w := th_rng w; rw [iz_w] at r_w
  have r_wh := th_rng wh; rw [iz_wh] at r_wh
  have F0 := F
  obtain ⟨ad, hF⟩ := F
  refine lv_aload_n hx hb dX11_tell_0 rfl (lv_at hl 0 rfl) ?_
  refine lv_iload_n hx hb dX11_tell_1 rfl (lv_at hl 1 rfl) ?_
  refine th_gor (th_runV (As := [.int w]) (rest := []) C hS.1 (RX11, TX11, 20) rfl gV_RX11_309 (FX.f0 hF) (t_X11_workOf iz_w (FX.f0 hF) (FX.f35 hF)) hl rfl rfl rfl rfl ⟨Nat.le_of_ble_eq_true rfl, Nat.le_of_ble_eq_true rfl⟩ (Nat.le_of_ble_eq_true rfl) ⟨Nat.le_of_ble_eq_true rfl, Nat.le_of_ble_eq_true rfl⟩ dX11_tell_2) ?_
  refine lv_astore_nN (lv' := [(3, .null), (0, .ref x), (1, .int w), (2, .int wh)]) hx hb dX11_tell_5 rfl hl (by decide) rfl (fun ls hl => ?_)
  refine lv_aload_nN hx hb dX11_tell_6 rfl (lv_at hl 0 rfl) ?_
  refine lv_ifnonnullN hx hb dX11_tell_7 ?_
  refine lv_iconst (v := 0) hx hb dX11_tell_10 (by decide) ?_
  exact th_retz C (by have hfin := li_0; omega) (by have hfin := li_0; omega) dX11_tell_11

set_option maxHeartbeats 400000 in
set_option maxRecDepth 100000 in
theorem t_X11_study {l : Launch} {D : va_G} {dA : Nat → ClassId} {K : Kmap} {V : Vmap} {sz : Nat} {x : Nat} {w ha : Int32} {w_i ha_i : Int} (iz_w : w.toInt = w_i) (iz_ha : ha.toInt = ha_i) (F : FX K V x) : Met l yX11_study (wsOf yX11_study cX11_study 4 (some .boolean)) { frames := 1, cells := 0, slots := 0, locals := 21 } (PC D dA K V sz [.ref x, .int w, .int ha]) (PQi (fun r => (r.toInt = 0))) 0 0 noFree := by
  refine th_body (by decide +kernel) (Nat.le_of_ble_eq_true rfl) (fun pZ eZ sZ mZ belowZ methZ cZ C hR hsz hnm ls hl => ?_)
  have C : CX pZ sZ mZ [.ref x, .int w, .int ha].toArray methZ cZ cX11_study 4 (some .boolean) RX11 D dA := C
  have hx := C.1; have hb := C.2.1
  have hl : lv_has ls 4 [(0, .ref x), (1, .int w), (2, .int ha)] := hl
  subst hsz
  have hS : ST D dA K sZ.heap K V sZ.heap [] := ST.rf hR
  have r_w := th_rng w; rw [iz_w] at r_w
  have r_ha := th_rng ha; rw [iz_ha] at r_ha
  have F0 := F
  obtain ⟨ad, hF⟩ := F
  refine lv_aload_n hx hb dX11_study_0 rfl (lv_at hl 0 rfl) ?_
  refine lv_iload_n hx hb dX11_study_1 rfl (lv_at hl 1 rfl) ?_
  refine th_gor (th_runV (As := [.int w]) (rest := []) C hS.1 (RX11, TX11, 20) rfl gV_RX11_309 (FX.f0 hF) (t_X11_workOf iz_w (FX.f0 hF) (FX.f35 hF)) hl rfl rfl rfl rfl ⟨Nat.le_of_ble_eq_true rfl, Nat.le_of_ble_eq_true rfl⟩ (Nat.le_of_ble_eq_true rfl) ⟨Nat.le_of_ble_eq_true rfl, Nat.le_of_ble_eq_true rfl⟩ dX11_study_2) ?_
  refine lv_astore_nN (lv' := [(3, .null), (0, .ref x), (1, .int w), (2, .int ha)]) hx hb dX11_study_5 rfl hl (by decide) rfl (fun ls hl => ?_)
  refine lv_aload_nN hx hb dX11_study_6 rfl (lv_at hl 0 rfl) ?_
  refine lv_ifnullN hx hb (tgt := 29) dX11_study_7 (by decide) ?_
  refine lv_iconst (v := 0) hx hb dX11_study_29 (by decide) ?_
  exact th_retz C (by have hfin := li_0; omega) (by have hfin := li_0; omega) dX11_study_30

set_option maxHeartbeats 400000 in
set_option maxRecDepth 100000 in
theorem t_X11_say {l : Launch} {D : va_G} {dA : Nat → ClassId} {K : Kmap} {V : Vmap} {sz : Nat} {x : Nat} {p w ye : Int32} {p_i w_i ye_i : Int} (iz_p : p.toInt = p_i) (iz_w : w.toInt = w_i) (iz_ye : ye.toInt = ye_i) (F : FX K V x) : Met l yX11_say (wsOf yX11_say cX11_say 6 (some .boolean)) { frames := 1, cells := 0, slots := 0, locals := 21 } (PC D dA K V sz [.ref x, .int p, .int w, .int ye]) (PQi (fun r => (r.toInt = 0))) 0 0 noFree := by
  refine th_body (by decide +kernel) (Nat.le_of_ble_eq_true rfl) (fun pZ eZ sZ mZ belowZ methZ cZ C hR hsz hnm ls hl => ?_)
  have C : CX pZ sZ mZ [.ref x, .int p, .int w, .int ye].toArray methZ cZ cX11_say 6 (some .boolean) RX11 D dA := C
  have hx := C.1; have hb := C.2.1
  have hl : lv_has ls 6 [(0, .ref x), (1, .int p), (2, .int w), (3, .int ye)] := hl
  subst hsz
  have hS : ST D dA K sZ.heap K V sZ.heap [] := ST.rf hR
  have r_p := th_rng p; rw [iz_p] at r_p
  have r_w := th_rng w; rw [iz_w] at r_w
  have r_ye := th_rng ye; rw [iz_ye] at r_ye
  have F0 := F
  obtain ⟨ad, hF⟩ := F
  refine lv_aload_n hx hb dX11_say_0 rfl (lv_at hl 0 rfl) ?_
  refine lv_iload_n hx hb dX11_say_1 rfl (lv_at hl 2 rfl) ?_
  refine th_gor (th_runV (As := [.int w]) (rest := []) C hS.1 (RX11, TX11, 20) rfl gV_RX11_309 (FX.f0 hF) (t_X11_workOf iz_w (FX.f0 hF) (FX.f35 hF)) hl rfl rfl rfl rfl ⟨Nat.le_of_ble_eq_true rfl, Nat.le_of_ble_eq_true rfl⟩ (Nat.le_of_ble_eq_true rfl) ⟨Nat.le_of_ble_eq_true rfl, Nat.le_of_ble_eq_true rfl⟩ dX11_say_2) ?_
  refine lv_astoreN (lv' := [(4, .null), (0, .ref x), (1, .int p), (2, .int w), (3, .int ye)]) hx hb dX11_say_5 hl (by decide) rfl (fun ls hl => ?_)
  refine lv_aload_n hx hb dX11_say_7 rfl (lv_at hl 1 rfl) ?_
  refine lv_iload_n hx hb dX11_say_8 rfl (lv_at hl 2 rfl) ?_
  refine th_gor (th_runV (As := [.int p]) (rest := []) C hS.1 (RX11, TX11, 20) rfl gV_RX11_151 (FX.f0 hF) (t_X11_partyOf iz_p (FX.f0 hF) (FX.f31 hF)) hl rfl rfl rfl rfl ⟨Nat.le_of_ble_eq_true rfl, Nat.le_of_ble_eq_true rfl⟩ (Nat.le_of_ble_eq_true rfl) ⟨Nat.le_of_ble_eq_true rfl, Nat.le_of_ble_eq_true rfl⟩ dX11_say_9) ?_
  refine lv_ifnullN hx hb (tgt := 20) dX11_say_12 (by decide) ?_
  refine lv_iconst (v := 0) hx hb dX11_say_20 (by decide) ?_
  exact th_retz C (by have hfin := li_0; omega) (by have hfin := li_0; omega) dX11_say_21

set_option maxHeartbeats 400000 in
set_option maxRecDepth 100000 in
theorem t_X11_may {l : Launch} {D : va_G} {dA : Nat → ClassId} {K : Kmap} {V : Vmap} {sz : Nat} {x : Nat} {w dy ow : Int32} {w_i dy_i ow_i : Int} (iz_w : w.toInt = w_i) (iz_dy : dy.toInt = dy_i) (iz_ow : ow.toInt = ow_i) (F : FX K V x) : Met l yX11_may (wsOf yX11_may cX11_may 5 (some .int)) { frames := 1, cells := 0, slots := 0, locals := 21 } (PC D dA K V sz [.ref x, .int w, .int dy, .int ow]) (PQi (fun r => (r.toInt = (-1)))) 0 0 noFree := by
  refine th_body (by decide +kernel) (Nat.le_of_ble_eq_true rfl) (fun pZ eZ sZ mZ belowZ methZ cZ C hR hsz hnm ls hl => ?_)
  have C : CX pZ sZ mZ [.ref x, .int w, .int dy, .int ow].toArray methZ cZ cX11_may 5 (some .int) RX11 D dA := C
  have hx := C.1; have hb := C.2.1
  have hl : lv_has ls 5 [(0, .ref x), (1, .int w), (2, .int dy), (3, .int ow)] := hl
  subst hsz
  have hS : ST D dA K sZ.heap K V sZ.heap [] := ST.rf hR
  have r_w := th_rng w; rw [iz_w] at r_w
  have r_dy := th_rng dy; rw [iz_dy] at r_dy
  have r_ow := th_rng ow; rw [iz_ow] at r_ow
  have F0 := F
  obtain ⟨ad, hF⟩ := F
  refine lv_aload_n hx hb dX11_may_0 rfl (lv_at hl 0 rfl) ?_
  refine lv_iload_n hx hb dX11_may_1 rfl (lv_at hl 1 rfl) ?_
  refine th_gor (th_runV (As := [.int w]) (rest := []) C hS.1 (RX11, TX11, 20) rfl gV_RX11_309 (FX.f0 hF) (t_X11_workOf iz_w (FX.f0 hF) (FX.f35 hF)) hl rfl rfl rfl rfl ⟨Nat.le_of_ble_eq_true rfl, Nat.le_of_ble_eq_true rfl⟩ (Nat.le_of_ble_eq_true rfl) ⟨Nat.le_of_ble_eq_true rfl, Nat.le_of_ble_eq_true rfl⟩ dX11_may_2) ?_
  refine lv_astoreN (lv' := [(4, .null), (0, .ref x), (1, .int w), (2, .int dy), (3, .int ow)]) hx hb dX11_may_5 hl (by decide) rfl (fun ls hl => ?_)
  refine lv_aloadN hx hb dX11_may_7 (lv_at hl 0 rfl) ?_
  refine lv_ifnullN hx hb (tgt := 19) dX11_may_9 (by decide) ?_
  refine lv_iconst (v := (-1)) hx hb dX11_may_19 (by decide) ?_
  exact th_reti C (by have hfin := li_n1; omega) dX11_may_20

set_option maxHeartbeats 400000 in
set_option maxRecDepth 100000 in
theorem t_X11_why {l : Launch} {D : va_G} {dA : Nat → ClassId} {K : Kmap} {V : Vmap} {sz : Nat} {x : Nat} {w dy ow wh : Int32} {w_i dy_i ow_i wh_i : Int} (iz_w : w.toInt = w_i) (iz_dy : dy.toInt = dy_i) (iz_ow : ow.toInt = ow_i) (iz_wh : wh.toInt = wh_i) (F : FX K V x) : Met l yX11_why (wsOf yX11_why cX11_why 6 (some .int)) { frames := 1, cells := 0, slots := 0, locals := 21 } (PC D dA K V sz [.ref x, .int w, .int dy, .int ow, .int wh]) (PQi (fun r => (r.toInt = (-1)))) 0 0 noFree := by
  refine th_body (by decide +kernel) (Nat.le_of_ble_eq_true rfl) (fun pZ eZ sZ mZ belowZ methZ cZ C hR hsz hnm ls hl => ?_)
  have C : CX pZ sZ mZ [.ref x, .int w, .int dy, .int ow, .int wh].toArray methZ cZ cX11_why 6 (some .int) RX11 D dA := C
  have hx := C.1; have hb := C.2.1
  have hl : lv_has ls 6 [(0, .ref x), (1, .int w), (2, .int dy), (3, .int ow), (4, .int wh)] := hl
  subst hsz
  have hS : ST D dA K sZ.heap K V sZ.heap [] := ST.rf hR
  have r_w := th_rng w; rw [iz_w] at r_w
  have r_dy := th_rng dy; rw [iz_dy] at r_dy
  have r_ow := th_rng ow; rw [iz_ow] at r_ow
  have r_wh := th_rng wh; rw [iz_wh] at r_wh
  have F0 := F
  obtain ⟨ad, hF⟩ := F
  refine lv_aload_n hx hb dX11_why_0 rfl (lv_at hl 0 rfl) ?_
  refine lv_iload_n hx hb dX11_why_1 rfl (lv_at hl 1 rfl) ?_
  refine th_gor (th_runV (As := [.int w]) (rest := []) C hS.1 (RX11, TX11, 20) rfl gV_RX11_309 (FX.f0 hF) (t_X11_workOf iz_w (FX.f0 hF) (FX.f35 hF)) hl rfl rfl rfl rfl ⟨Nat.le_of_ble_eq_true rfl, Nat.le_of_ble_eq_true rfl⟩ (Nat.le_of_ble_eq_true rfl) ⟨Nat.le_of_ble_eq_true rfl, Nat.le_of_ble_eq_true rfl⟩ dX11_why_2) ?_
  refine lv_astoreN (lv' := [(5, .null), (0, .ref x), (1, .int w), (2, .int dy), (3, .int ow), (4, .int wh)]) hx hb dX11_why_5 hl (by decide) rfl (fun ls hl => ?_)
  refine lv_aloadN hx hb dX11_why_7 (lv_at hl 0 rfl) ?_
  refine lv_ifnullN hx hb (tgt := 29) dX11_why_9 (by decide) ?_
  refine lv_iconst (v := (-1)) hx hb dX11_why_29 (by decide) ?_
  exact th_reti C (by have hfin := li_n1; omega) dX11_why_30

set_option maxHeartbeats 400000 in
set_option maxRecDepth 100000 in
theorem t_X11_whose {l : Launch} {D : va_G} {dA : Nat → ClassId} {K : Kmap} {V : Vmap} {sz : Nat} {x : Nat} {p c : Int32} {p_i c_i : Int} (iz_p : p.toInt = p_i) (iz_c : c.toInt = c_i) (F : FX K V x) : Met l yX11_whose (wsOf yX11_whose cX11_whose 9 (some .int)) { frames := 1, cells := 0, slots := 0, locals := 21 } (PC D dA K V sz [.ref x, .int p, .int c]) (PQi (fun r => (r.toInt = (-1)))) 0 0 noFree := by
  refine th_body (by decide +kernel) (Nat.le_of_ble_eq_true rfl) (fun pZ eZ sZ mZ belowZ methZ cZ C hR hsz hnm ls hl => ?_)
  have C : CX pZ sZ mZ [.ref x, .int p, .int c].toArray methZ cZ cX11_whose 9 (some .int) RX11 D dA := C
  have hx := C.1; have hb := C.2.1
  have hl : lv_has ls 9 [(0, .ref x), (1, .int p), (2, .int c)] := hl
  subst hsz
  have hS : ST D dA K sZ.heap K V sZ.heap [] := ST.rf hR
  have r_p := th_rng p; rw [iz_p] at r_p
  have r_c := th_rng c; rw [iz_c] at r_c
  have F0 := F
  obtain ⟨ad, hF⟩ := F
  refine lv_aload_n hx hb dX11_whose_0 rfl (lv_at hl 0 rfl) ?_
  refine lv_iload_n hx hb dX11_whose_1 rfl (lv_at hl 1 rfl) ?_
  refine th_gor (th_runV (As := [.int p]) (rest := []) C hS.1 (RX11, TX11, 20) rfl gV_RX11_151 (FX.f0 hF) (t_X11_partyOf iz_p (FX.f0 hF) (FX.f31 hF)) hl rfl rfl rfl rfl ⟨Nat.le_of_ble_eq_true rfl, Nat.le_of_ble_eq_true rfl⟩ (Nat.le_of_ble_eq_true rfl) ⟨Nat.le_of_ble_eq_true rfl, Nat.le_of_ble_eq_true rfl⟩ dX11_whose_2) ?_
  refine lv_astore_nN (lv' := [(3, .null), (0, .ref x), (1, .int p), (2, .int c)]) hx hb dX11_whose_5 rfl hl (by decide) rfl (fun ls hl => ?_)
  refine lv_aload_nN hx hb dX11_whose_6 rfl (lv_at hl 0 rfl) ?_
  refine lv_ifnullN hx hb (tgt := 21) dX11_whose_7 (by decide) ?_
  refine lv_iconst (v := (-1)) hx hb dX11_whose_21 (by decide) ?_
  exact th_reti C (by have hfin := li_n1; omega) dX11_whose_22

set_option maxHeartbeats 400000 in
set_option maxRecDepth 100000 in
theorem t_X11_ship {l : Launch} {D : va_G} {dA : Nat → ClassId} {K : Kmap} {V : Vmap} {sz : Nat} {x : Nat} {p ro stg : Int32} {p_i ro_i stg_i : Int} (iz_p : p.toInt = p_i) (iz_ro : ro.toInt = ro_i) (iz_stg : stg.toInt = stg_i) (F : FX K V x) : Met l yX11_ship (wsOf yX11_ship cX11_ship 4 (some .int)) { frames := 1, cells := 0, slots := 0, locals := 21 } (PC D dA K V sz [.ref x, .int p, .int ro, .int stg]) (PQi (fun r => (r.toInt = (-1)))) 0 0 noFree := by
  refine th_body (by decide +kernel) (Nat.le_of_ble_eq_true rfl) (fun pZ eZ sZ mZ belowZ methZ cZ C hR hsz hnm ls hl => ?_)
  have C : CX pZ sZ mZ [.ref x, .int p, .int ro, .int stg].toArray methZ cZ cX11_ship 4 (some .int) RX11 D dA := C
  have hx := C.1; have hb := C.2.1
  have hl : lv_has ls 4 [(0, .ref x), (1, .int p), (2, .int ro), (3, .int stg)] := hl
  subst hsz
  have hS : ST D dA K sZ.heap K V sZ.heap [] := ST.rf hR
  have r_p := th_rng p; rw [iz_p] at r_p
  have r_ro := th_rng ro; rw [iz_ro] at r_ro
  have r_stg := th_rng stg; rw [iz_stg] at r_stg
  have F0 := F
  obtain ⟨ad, hF⟩ := F
  refine lv_aload_n hx hb dX11_ship_0 rfl (lv_at hl 0 rfl) ?_
  refine lv_iload_n hx hb dX11_ship_1 rfl (lv_at hl 1 rfl) ?_
  refine th_gor (th_runV (As := [.int p]) (rest := []) C hS.1 (RX11, TX11, 20) rfl gV_RX11_151 (FX.f0 hF) (t_X11_partyOf iz_p (FX.f0 hF) (FX.f31 hF)) hl rfl rfl rfl rfl ⟨Nat.le_of_ble_eq_true rfl, Nat.le_of_ble_eq_true rfl⟩ (Nat.le_of_ble_eq_true rfl) ⟨Nat.le_of_ble_eq_true rfl, Nat.le_of_ble_eq_true rfl⟩ dX11_ship_2) ?_
  refine lv_ifnullN hx hb (tgt := 29) dX11_ship_5 (by decide) ?_
  refine lv_iconst (v := (-1)) hx hb dX11_ship_29 (by decide) ?_
  exact th_reti C (by have hfin := li_n1; omega) dX11_ship_30

set_option maxHeartbeats 400000 in
set_option maxRecDepth 100000 in
theorem t_X11_cover {l : Launch} {D : va_G} {dA : Nat → ClassId} {K : Kmap} {V : Vmap} {sz : Nat} {x : Nat} {se1 mo n : Int32} {se1_i mo_i n_i : Int} (iz_se1 : se1.toInt = se1_i) (iz_mo : mo.toInt = mo_i) (iz_n : n.toInt = n_i) (F : FX K V x) : Met l yX11_cover (wsOf yX11_cover cX11_cover 4 (some .boolean)) { frames := 2, cells := 0, slots := 0, locals := 42 } (PC D dA K V sz [.ref x, .int se1, .int mo, .int n]) (HQi D dA K (fun r K1 V1 => (∀ b, K b = some (0, 11) → V1 b = V b) ∧ ((((0 ≤ se1_i ∧ se1_i ≤ 3) ∧ (0 ≤ mo_i ∧ mo_i ≤ 11) ∧ (0 ≤ n_i ∧ n_i ≤ 100)) ∧ r.toInt = 1) ∨ (((0 > se1_i ∨ se1_i > 3) ∨ (0 > mo_i ∨ mo_i > 11) ∨ (0 > n_i ∨ n_i > 100)) ∧ r.toInt = 0)))) 0 0 (AK K sz) := by
  refine th_body (by decide +kernel) (Nat.le_of_ble_eq_true rfl) (fun pZ eZ sZ mZ belowZ methZ cZ C hR hsz hnm ls hl => ?_)
  have C : CX pZ sZ mZ [.ref x, .int se1, .int mo, .int n].toArray methZ cZ cX11_cover 4 (some .boolean) RX11 D dA := C
  have hx := C.1; have hb := C.2.1
  have hl : lv_has ls 4 [(0, .ref x), (1, .int se1), (2, .int mo), (3, .int n)] := hl
  subst hsz
  have hS : ST D dA K sZ.heap K V sZ.heap [] := ST.rf hR
  have r_se1 := th_rng se1; rw [iz_se1] at r_se1
  have r_mo := th_rng mo; rw [iz_mo] at r_mo
  have r_n := th_rng n; rw [iz_n] at r_n
  have F0 := F
  obtain ⟨ad, hF⟩ := F
  refine lv_iload_n hx hb dX11_cover_0 rfl (lv_at hl 1 rfl) ?_
  refine th_goi (th_runS (As := [.int se1]) (rest := []) C hS.1 gS_RX11_394 (t_X11_isSea iz_se1) hl rfl rfl rfl rfl ⟨Nat.le_of_ble_eq_true rfl, Nat.le_of_ble_eq_true rfl⟩ (Nat.le_of_ble_eq_true rfl) ⟨Nat.le_of_ble_eq_true rfl, Nat.le_of_ble_eq_true rfl⟩ dX11_cover_1) (fun r3660 hq3661 => ?_)
  refine th_if_eq (X := r3660.toInt) (tgt := 27) hx hb dX11_cover_4 (by decide) rfl (fun c3662 => ?_) (fun c3662 => ?_)
  · replace hq3661 := Or.resolve_left hq3661 (fun h => absurd h.2 (by omega))
    refine lv_iconst (v := 0) hx hb dX11_cover_27 (by decide) ?_
    exact th_retzH (post := fun r K1 V1 => (∀ b, K b = some (0, 11) → V1 b = V b) ∧ ((((0 ≤ se1_i ∧ se1_i ≤ 3) ∧ (0 ≤ mo_i ∧ mo_i ≤ 11) ∧ (0 ≤ n_i ∧ n_i ≤ 100)) ∧ r.toInt = 1) ∨ (((0 > se1_i ∨ se1_i > 3) ∨ (0 > mo_i ∨ mo_i > 11) ∨ (0 > n_i ∨ n_i > 100)) ∧ r.toInt = 0))) (cells := 0) (slots := 0) (mc := 0) (ms := 0) C hS (by have hfin := li_0; omega) ⟨(fun b hb => rfl), (Or.inr (⟨by omega, li_0⟩))⟩ (Nat.le_of_ble_eq_true rfl) (Nat.le_of_ble_eq_true rfl) dX11_cover_28
  · replace hq3661 := Or.resolve_right hq3661 (fun h => absurd h.2 (by omega))
    refine lv_iload_n hx hb dX11_cover_7 rfl (lv_at hl 2 rfl) ?_
    refine lv_iconst (v := 0) hx hb dX11_cover_8 (by decide) ?_
    refine lv_bipush (v := 11) hx hb dX11_cover_9 (by decide) ?_
    refine th_goi (th_runS (As := [.int mo, .int 0, .int 11]) (rest := []) C hS.1 gS_RX11_112 (t_X11_between iz_mo li_0 li_11) hl rfl rfl rfl rfl ⟨Nat.le_of_ble_eq_true rfl, Nat.le_of_ble_eq_true rfl⟩ (Nat.le_of_ble_eq_true rfl) ⟨Nat.le_of_ble_eq_true rfl, Nat.le_of_ble_eq_true rfl⟩ dX11_cover_11) (fun r3663 hq3664 => ?_)
    refine th_if_eq (X := r3663.toInt) (tgt := 27) hx hb dX11_cover_14 (by decide) rfl (fun c3665 => ?_) (fun c3665 => ?_)
    · replace hq3664 := Or.resolve_left hq3664 (fun h => absurd h.2 (by omega))
      refine lv_iconst (v := 0) hx hb dX11_cover_27 (by decide) ?_
      exact th_retzH (post := fun r K1 V1 => (∀ b, K b = some (0, 11) → V1 b = V b) ∧ ((((0 ≤ se1_i ∧ se1_i ≤ 3) ∧ (0 ≤ mo_i ∧ mo_i ≤ 11) ∧ (0 ≤ n_i ∧ n_i ≤ 100)) ∧ r.toInt = 1) ∨ (((0 > se1_i ∨ se1_i > 3) ∨ (0 > mo_i ∨ mo_i > 11) ∨ (0 > n_i ∨ n_i > 100)) ∧ r.toInt = 0))) (cells := 0) (slots := 0) (mc := 0) (ms := 0) C hS (by have hfin := li_0; omega) ⟨(fun b hb => rfl), (Or.inr (⟨by omega, li_0⟩))⟩ (Nat.le_of_ble_eq_true rfl) (Nat.le_of_ble_eq_true rfl) dX11_cover_28
    · replace hq3664 := Or.resolve_right hq3664 (fun h => absurd h.2 (by omega))
      refine lv_iload_n hx hb dX11_cover_17 rfl (lv_at hl 3 rfl) ?_
      refine lv_iconst (v := 0) hx hb dX11_cover_18 (by decide) ?_
      refine lv_bipush (v := 100) hx hb dX11_cover_19 (by decide) ?_
      refine th_goi (th_runS (As := [.int n, .int 0, .int 100]) (rest := []) C hS.1 gS_RX11_112 (t_X11_between iz_n li_0 li_100) hl rfl rfl rfl rfl ⟨Nat.le_of_ble_eq_true rfl, Nat.le_of_ble_eq_true rfl⟩ (Nat.le_of_ble_eq_true rfl) ⟨Nat.le_of_ble_eq_true rfl, Nat.le_of_ble_eq_true rfl⟩ dX11_cover_21) (fun r3666 hq3667 => ?_)
      refine th_if_ne (X := r3666.toInt) (tgt := 29) hx hb dX11_cover_24 (by decide) rfl (fun c3668 => ?_) (fun c3668 => ?_)
      · replace hq3667 := Or.resolve_right hq3667 (fun h => absurd h.2 (by omega))
        refine lv_aload_n hx hb dX11_cover_29 rfl (lv_at hl 0 rfl) ?_
        refine th_get C hS.1 (FX.f0 hF) fl_RX11_12 (FX.f1 hF) dX11_cover_30 ?_
        refine th_get C hS.1 (FX.f2 hF) fl_RX11_397 (FX.f14 hF) dX11_cover_33 ?_
        refine lv_iload_n hx hb dX11_cover_36 rfl (lv_at hl 1 rfl) ?_
        refine lv_bipush (v := 12) hx hb dX11_cover_37 (by decide) ?_
        refine lv_imul hx hb dX11_cover_39 ?_
        refine th_top (X := (se1_i * 12)) (th_mul iz_se1 li_12 (by omega) (by omega)) (fun z3669 hz3669 => ?_)
        refine lv_iload_n hx hb dX11_cover_40 rfl (lv_at hl 2 rfl) ?_
        refine lv_iadd hx hb dX11_cover_41 ?_
        refine th_top (X := ((se1_i * 12) + mo_i)) (th_add hz3669 iz_mo (by omega) (by omega)) (fun z3670 hz3670 => ?_)
        refine lv_iload_n hx hb dX11_cover_42 rfl (lv_at hl 3 rfl) ?_
        refine th_govH hS rfl (th_runS (As := [.ref (ad 5), .int z3670, .int n]) (rest := []) C hS.1 gS_RX11_108 (t_X4_put hz3670 iz_n (FX.f15 hF) (by decide)) hl rfl rfl rfl rfl ⟨Nat.le_of_ble_eq_true rfl, Nat.le_of_ble_eq_true rfl⟩ (Nat.le_of_ble_eq_true rfl) ⟨Nat.le_of_ble_eq_true rfl, Nat.le_of_ble_eq_true rfl⟩ dX11_cover_43) (fun K3673 V3674 H locs1 hq3672 hE3675 hS => ?_)
        obtain ⟨rfl, hF3676⟩ := hq3672
        refine lv_iconst (v := 1) hx hb dX11_cover_46 (by decide) ?_
        exact th_retzH (post := fun r K1 V1 => (∀ b, K b = some (0, 11) → V1 b = V b) ∧ ((((0 ≤ se1_i ∧ se1_i ≤ 3) ∧ (0 ≤ mo_i ∧ mo_i ≤ 11) ∧ (0 ≤ n_i ∧ n_i ≤ 100)) ∧ r.toInt = 1) ∨ (((0 > se1_i ∨ se1_i > 3) ∨ (0 > mo_i ∨ mo_i > 11) ∨ (0 > n_i ∨ n_i > 100)) ∧ r.toInt = 0))) (cells := 0) (slots := 0) (mc := 0) (ms := 0) C hS (by have hfin := li_1; omega) ⟨(fun b hb  => (hF3676 _ (by rw [hb]; exact fun h => by cases h) (K_ne hb (FX.f15 hF) (by decide)))), (Or.inl ⟨by omega, li_1⟩)⟩ (Nat.le_of_ble_eq_true rfl) (Nat.le_of_ble_eq_true rfl) dX11_cover_47
      · replace hq3667 := Or.resolve_left hq3667 (fun h => absurd h.2 (by omega))
        refine lv_iconst (v := 0) hx hb dX11_cover_27 (by decide) ?_
        exact th_retzH (post := fun r K1 V1 => (∀ b, K b = some (0, 11) → V1 b = V b) ∧ ((((0 ≤ se1_i ∧ se1_i ≤ 3) ∧ (0 ≤ mo_i ∧ mo_i ≤ 11) ∧ (0 ≤ n_i ∧ n_i ≤ 100)) ∧ r.toInt = 1) ∨ (((0 > se1_i ∨ se1_i > 3) ∨ (0 > mo_i ∨ mo_i > 11) ∨ (0 > n_i ∨ n_i > 100)) ∧ r.toInt = 0))) (cells := 0) (slots := 0) (mc := 0) (ms := 0) C hS (by have hfin := li_0; omega) ⟨(fun b hb => rfl), (Or.inr (⟨by omega, li_0⟩))⟩ (Nat.le_of_ble_eq_true rfl) (Nat.le_of_ble_eq_true rfl) dX11_cover_28
