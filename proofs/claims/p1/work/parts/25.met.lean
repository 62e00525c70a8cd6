set_option maxHeartbeats 400000 in
set_option maxRecDepth 100000 in
theorem t_X11_reserve {l : Launch} {D : va_G} {dA : Nat → ClassId} {K : Kmap} {V : Vmap} {sz : Nat} {x : Nat} {a b rk : Int32} {a_i b_i rk_i : Int} (iz_a : a.toInt = a_i) (iz_b : b.toInt = b_i) (iz_rk : rk.toInt = rk_i) (F : FX K V x) : Met l yX11_reserve (wsOf yX11_reserve cX11_reserve 4 (some .int)) { frames := 2, cells := 1, slots := 16, locals := 43 } (PC D dA K V sz [.ref x, .int a, .int b, .int rk]) (HQi D dA K (fun r K1 V1 => (∀ b, K b = some (0, 11) → V1 b = V b) ∧ (((((0 ≤ a_i ∧ a_i ≤ 63) ∧ (0 ≤ b_i ∧ b_i ≤ 63) ∧ (a_i / 8) ≤ (b_i / 8) ∧ (a_i % 8) ≤ (b_i % 8)) ∧ (1 ≤ rk_i ∧ rk_i ≤ 9)) ∧ r.toInt = 0) ∨ ((((0 > a_i ∨ a_i > 63) ∨ (0 > b_i ∨ b_i > 63) ∨ (a_i / 8) > (b_i / 8) ∨ (a_i % 8) > (b_i % 8)) ∨ (1 > rk_i ∨ rk_i > 9)) ∧ r.toInt = (-1))))) 1 16 (AK K sz) := by
  refine th_body (by decide +kernel) (Nat.le_of_ble_eq_true rfl) (fun pZ eZ sZ mZ belowZ methZ cZ C hR hsz hnm ls hl => ?_)
  have C : CX pZ sZ mZ [.ref x, .int a, .int b, .int rk].toArray methZ cZ cX11_reserve 4 (some .int) RX11 D dA := C
  have hx := C.1; have hb := C.2.1
  have hl : lv_has ls 4 [(0, .ref x), (1, .int a), (2, .int b), (3, .int rk)] := hl
  subst hsz
  have hS : ST D dA K sZ.heap K V sZ.heap [] := ST.rf hR
  have r_a := th_rng a; rw [iz_a] at r_a
  have r_b := th_rng b; rw [iz_b] at r_b
  have r_rk := th_rng rk; rw [iz_rk] at r_rk
  have F0 := F
  obtain ⟨la, he, gr, wa, fd, co, sd, lw, rd, se, st, pa, pl, t1, t2, t3, t4, t5, t6, c6, t7, c7, sp, su, hp0, hp1, hp2, hp3, hp4, hp5, hp6, hp7, hp8, hp9, hp10, hp11, hp12, hp13, hp14, hp15, hp16, hp17, hp18, hp19, hp20, hp21, hp22, hp23, hp24, hp25, hp26, hp27, hp28, hp29, hp30, hp31, hp32, hp33, hp34, hp35, hp36, hp37, hp38, hp39, hp40, hp41, hp42, hp43, hp44, hp45, hp46, hp47, hp48, hp49, hp50, hp51, hp52, hp53, hp54, hp55, hp56, hp57, hp58, hp59, hp60, hp61, hp62, hp63, hp64, hp65, hp66, hp67, hp68, hp69, hp70⟩ := F
  refine lv_aload_n hx hb dX11_reserve_0 rfl (lv_at hl 0 rfl) ?_
  refine th_get C hS.1 hp0 fl_RX11_12 hp1 dX11_reserve_1 ?_
  refine lv_iload_n hx hb dX11_reserve_4 rfl (lv_at hl 1 rfl) ?_
  refine lv_iload_n hx hb dX11_reserve_5 rfl (lv_at hl 2 rfl) ?_
  refine th_goi (th_runV (As := [.int a, .int b]) (rest := []) C hS.1 (RX0, TX0, 13) rfl gV_RX11_155 hp2 (t_X0_isRectangle iz_a iz_b hp2 hp4 hp5) hl rfl rfl rfl rfl ⟨Nat.le_of_ble_eq_true rfl, Nat.le_of_ble_eq_true rfl⟩ (Nat.le_of_ble_eq_true rfl) ⟨Nat.le_of_ble_eq_true rfl, Nat.le_of_ble_eq_true rfl⟩ dX11_reserve_6) (fun r3469 hq3470 => ?_)
  refine th_if_eq (X := r3469.toInt) (tgt := 22) hx hb dX11_reserve_9 (by decide) rfl (fun c3471 => ?_) (fun c3471 => ?_)
  · replace hq3470 := Or.resolve_left hq3470 (fun h => absurd h.2 (by omega))
    refine lv_iconst (v := (-1)) hx hb dX11_reserve_22 (by decide) ?_
    exact th_retiH (post := fun r K1 V1 => (∀ b, K b = some (0, 11) → V1 b = V b) ∧ (((((0 ≤ a_i ∧ a_i ≤ 63) ∧ (0 ≤ b_i ∧ b_i ≤ 63) ∧ (a_i / 8) ≤ (b_i / 8) ∧ (a_i % 8) ≤ (b_i % 8)) ∧ (1 ≤ rk_i ∧ rk_i ≤ 9)) ∧ r.toInt = 0) ∨ ((((0 > a_i ∨ a_i > 63) ∨ (0 > b_i ∨ b_i > 63) ∨ (a_i / 8) > (b_i / 8) ∨ (a_i % 8) > (b_i % 8)) ∨ (1 > rk_i ∨ rk_i > 9)) ∧ r.toInt = (-1)))) (cells := 0) (slots := 0) (mc := 1) (ms := 16) C hS ⟨(fun b hb => rfl), (Or.inr (⟨by omega, li_n1⟩))⟩ (Nat.le_of_ble_eq_true rfl) (Nat.le_of_ble_eq_true rfl) dX11_reserve_23
  · replace hq3470 := Or.resolve_right hq3470 (fun h => absurd h.2 (by omega))
    refine lv_iload_n hx hb dX11_reserve_12 rfl (lv_at hl 3 rfl) ?_
    refine lv_iconst (v := 1) hx hb dX11_reserve_13 (by decide) ?_
    refine lv_bipush (v := 9) hx hb dX11_reserve_14 (by decide) ?_
    refine th_goi (th_runS (As := [.int rk, .int 1, .int 9]) (rest := []) C hS.1 gS_RX11_112 (t_X11_between iz_rk li_1 li_9) hl rfl rfl rfl rfl ⟨Nat.le_of_ble_eq_true rfl, Nat.le_of_ble_eq_true rfl⟩ (Nat.le_of_ble_eq_true rfl) ⟨Nat.le_of_ble_eq_true rfl, Nat.le_of_ble_eq_true rfl⟩ dX11_reserve_16) (fun r3472 hq3473 => ?_)
    refine th_if_ne (X := r3472.toInt) (tgt := 24) hx hb dX11_reserve_19 (by decide) rfl (fun c3474 => ?_) (fun c3474 => ?_)
    · replace hq3473 := Or.resolve_right hq3473 (fun h => absurd h.2 (by omega))
      refine lv_aload_n hx hb dX11_reserve_24 rfl (lv_at hl 0 rfl) ?_
      refine th_new (ci := 3) C hS (RX3, TX3, 16) tyX3 rfl lays_3 tyX3_ok gw_221 gw_425 gw_10 (Nat.le_of_ble_eq_true rfl) (Nat.le_of_ble_eq_true rfl) dX11_reserve_25 (fun q3475 K3476 V3477 H hq3478 hK3479 hVn3480 hVo3481 hS => ?_)
      have hE3482 : ∀ a k, K a = some k → K3476 a = some k := fun a k h => by rw [hK3479, updK_ne (K_old h hq3478)]; exact h
      have hK3483 : K3476 q3475 = some (0, 3) := by rw [hK3479]; exact updK_same
      refine W.widen (k := 1) (n := 16) (Nat.le_of_ble_eq_true rfl) (Nat.le_of_ble_eq_true rfl) ?_
      refine lv_dup hx hb dX11_reserve_28 rfl ?_
      refine lv_iconst (v := 3) hx hb dX11_reserve_29 (by decide) ?_
      refine lv_iconst (v := (-1)) hx hb dX11_reserve_30 (by decide) ?_
      refine lv_iload_n hx hb dX11_reserve_31 rfl (lv_at hl 1 rfl) ?_
      refine lv_iload_n hx hb dX11_reserve_32 rfl (lv_at hl 2 rfl) ?_
      refine lv_iload_n hx hb dX11_reserve_33 rfl (lv_at hl 3 rfl) ?_
      refine th_govH hS rfl (th_runI (As := [.int 3, .int (-1), .int a, .int b, .int rk]) (rest := [.ref q3475, .ref x]) C hS.1 gI_RX11_162 (t_X3_init_3 li_n1 iz_a iz_b iz_rk hK3483) hl rfl rfl rfl rfl ⟨Nat.le_of_ble_eq_true rfl, Nat.le_of_ble_eq_true rfl⟩ (Nat.le_of_ble_eq_true rfl) ⟨Nat.le_of_ble_eq_true rfl, Nat.le_of_ble_eq_true rfl⟩ dX11_reserve_34) (fun K3486 V3487 H locs1 hq3485 hE3488 hS => ?_)
      have hF3489 := hq3485
      have hv3491 : V3477 x 6 = .int 0 := Eq.trans (congrFun (hVo3481 _ (K_ne (hE3488 _ _ (hE3482 _ _ hp0)) (hE3488 _ _ hK3483) (by decide))) 6) hp34
      have hv3492 : V3487 x 6 = .int 0 := Eq.trans (congrFun (hF3489 _ (by rw [(hE3482 _ _ hp0)]; exact fun h => by cases h) (K_ne (hE3488 _ _ (hE3482 _ _ hp0)) (hE3488 _ _ hK3483) (by decide))) 6) hv3491
      have hv3493 : V3477 x 5 = .ref pl := Eq.trans (congrFun (hVo3481 _ (K_ne (hE3488 _ _ (hE3482 _ _ hp0)) (hE3488 _ _ hK3483) (by decide))) 5) hp32
      have hv3494 : V3487 x 5 = .ref pl := Eq.trans (congrFun (hF3489 _ (by rw [(hE3482 _ _ hp0)]; exact fun h => by cases h) (K_ne (hE3488 _ _ (hE3482 _ _ hp0)) (hE3488 _ _ hK3483) (by decide))) 5) hv3493
      refine th_goiH hS rfl (th_runV (As := [.ref q3475]) (rest := []) C hS.1 (RX11, TX11, 20) rfl gV_RX11_165 (hE3488 _ _ (hE3482 _ _ hp0)) (t_X11_settle (hE3488 _ _ (hE3482 _ _ hp0)) hv3492 hv3494 (hE3488 _ _ (hE3482 _ _ hp33)) (hE3488 _ _ hK3483)) hl rfl rfl rfl rfl ⟨Nat.le_of_ble_eq_true rfl, Nat.le_of_ble_eq_true rfl⟩ (Nat.le_of_ble_eq_true rfl) ⟨Nat.le_of_ble_eq_true rfl, Nat.le_of_ble_eq_true rfl⟩ dX11_reserve_37) (fun r3495 K3497 V3498 H locs1 hq3496 hE3499 hS => ?_)
      obtain ⟨rfl, hF3500, hr3501⟩ := hq3496
      exact th_retiH (post := fun r K1 V1 => (∀ b, K b = some (0, 11) → V1 b = V b) ∧ (((((0 ≤ a_i ∧ a_i ≤ 63) ∧ (0 ≤ b_i ∧ b_i ≤ 63) ∧ (a_i / 8) ≤ (b_i / 8) ∧ (a_i % 8) ≤ (b_i % 8)) ∧ (1 ≤ rk_i ∧ rk_i ≤ 9)) ∧ r.toInt = 0) ∨ ((((0 > a_i ∨ a_i > 63) ∨ (0 > b_i ∨ b_i > 63) ∨ (a_i / 8) > (b_i / 8) ∨ (a_i % 8) > (b_i % 8)) ∨ (1 > rk_i ∨ rk_i > 9)) ∧ r.toInt = (-1)))) (cells := 1) (slots := 16) (mc := 1) (ms := 16) C hS ⟨(fun b hb  => Eq.trans (hF3500 _ (by rw [(hE3488 _ _ (hE3482 _ _ hb))]; exact fun h => by cases h) (K_ne (hE3488 _ _ (hE3482 _ _ hb)) (hE3488 _ _ (hE3482 _ _ hp0)) (by decide)) (K_ne (hE3488 _ _ (hE3482 _ _ hb)) (hE3488 _ _ (hE3482 _ _ hp33)) (by decide))) (Eq.trans (hF3489 _ (by rw [(hE3482 _ _ hb)]; exact fun h => by cases h) (K_ne (hE3482 _ _ hb) hK3483 (by decide))) ((hVo3481 _ (K_old hb hq3478))))), (Or.inl ⟨by omega, by omega⟩)⟩ (Nat.le_of_ble_eq_true rfl) (Nat.le_of_ble_eq_true rfl) dX11_reserve_40
    · replace hq3473 := Or.resolve_left hq3473 (fun h => absurd h.2 (by omega))
      refine lv_iconst (v := (-1)) hx hb dX11_reserve_22 (by decide) ?_
      exact th_retiH (post := fun r K1 V1 => (∀ b, K b = some (0, 11) → V1 b = V b) ∧ (((((0 ≤ a_i ∧ a_i ≤ 63) ∧ (0 ≤ b_i ∧ b_i ≤ 63) ∧ (a_i / 8) ≤ (b_i / 8) ∧ (a_i % 8) ≤ (b_i % 8)) ∧ (1 ≤ rk_i ∧ rk_i ≤ 9)) ∧ r.toInt = 0) ∨ ((((0 > a_i ∨ a_i > 63) ∨ (0 > b_i ∨ b_i > 63) ∨ (a_i / 8) > (b_i / 8) ∨ (a_i % 8) > (b_i % 8)) ∨ (1 > rk_i ∨ rk_i > 9)) ∧ r.toInt = (-1)))) (cells := 0) (slots := 0) (mc := 1) (ms := 16) C hS ⟨(fun b hb => rfl), (Or.inr (⟨by omega, li_n1⟩))⟩ (Nat.le_of_ble_eq_true rfl) (Nat.le_of_ble_eq_true rfl) dX11_reserve_23
