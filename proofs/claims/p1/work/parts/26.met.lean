set_option maxHeartbeats 400000 in
set_option maxRecDepth 100000 in
theorem t_X11_site {l : Launch} {D : va_G} {dA : Nat → ClassId} {K : Kmap} {V : Vmap} {sz : Nat} {x : Nat} {c ne : Int32} {c_i ne_i : Int} (iz_c : c.toInt = c_i) (iz_ne : ne.toInt = ne_i) (F : FX K V x) : Met l yX11_site (wsOf yX11_site cX11_site 3 (some .int)) { frames := 3, cells := 3, slots := 36, locals := 62 } (PC D dA K V sz [.ref x, .int c, .int ne]) (HQi D dA K (fun r K1 V1 => (∀ b, K b = some (0, 11) → V1 b = V b) ∧ (((0 ≤ c_i ∧ c_i ≤ 63) ∧ r.toInt = 0) ∨ ((0 > c_i ∨ c_i > 63) ∧ r.toInt = (-1))))) 3 36 (AK K sz) := by
  refine th_body (by decide +kernel) (Nat.le_of_ble_eq_true rfl) (fun pZ eZ sZ mZ belowZ methZ cZ C hR hsz hnm ls hl => ?_)
  have C : CX pZ sZ mZ [.ref x, .int c, .int ne].toArray methZ cZ cX11_site 3 (some .int) RX11 D dA := C
  have hx := C.1; have hb := C.2.1
  have hl : lv_has ls 3 [(0, .ref x), (1, .int c), (2, .int ne)] := hl
  subst hsz
  have hS : ST D dA K sZ.heap K V sZ.heap [] := ST.rf hR
  have r_c := th_rng c; rw [iz_c] at r_c
  have r_ne := th_rng ne; rw [iz_ne] at r_ne
  have F0 := F
  obtain ⟨la, he, gr, wa, fd, co, sd, lw, rd, se, st, pa, pl, t1, t2, t3, t4, t5, t6, c6, t7, c7, sp, su, hp0, hp1, hp2, hp3, hp4, hp5, hp6, hp7, hp8, hp9, hp10, hp11, hp12, hp13, hp14, hp15, hp16, hp17, hp18, hp19, hp20, hp21, hp22, hp23, hp24, hp25, hp26, hp27, hp28, hp29, hp30, hp31, hp32, hp33, hp34, hp35, hp36, hp37, hp38, hp39, hp40, hp41, hp42, hp43, hp44, hp45, hp46, hp47, hp48, hp49, hp50, hp51, hp52, hp53, hp54, hp55, hp56, hp57, hp58, hp59, hp60, hp61, hp62, hp63, hp64, hp65, hp66, hp67, hp68, hp69, hp70⟩ := F
  refine lv_aload_n hx hb dX11_site_0 rfl (lv_at hl 0 rfl) ?_
  refine th_get C hS.1 hp0 fl_RX11_12 hp1 dX11_site_1 ?_
  refine lv_iload_n hx hb dX11_site_4 rfl (lv_at hl 1 rfl) ?_
  refine th_goi (th_runV (As := [.int c]) (rest := []) C hS.1 (RX0, TX0, 13) rfl gV_RX11_119 hp2 (t_X0_isCell iz_c hp2 hp4 hp5) hl rfl rfl rfl rfl ⟨Nat.le_of_ble_eq_true rfl, Nat.le_of_ble_eq_true rfl⟩ (Nat.le_of_ble_eq_true rfl) ⟨Nat.le_of_ble_eq_true rfl, Nat.le_of_ble_eq_true rfl⟩ dX11_site_5) (fun r3502 hq3503 => ?_)
  refine th_if_ne (X := r3502.toInt) (tgt := 13) hx hb dX11_site_8 (by decide) rfl (fun c3504 => ?_) (fun c3504 => ?_)
  · replace hq3503 := Or.resolve_right hq3503 (fun h => absurd h.2 (by omega))
    refine lv_aload_n hx hb dX11_site_13 rfl (lv_at hl 0 rfl) ?_
    refine th_new (ci := 3) C hS (RX3, TX3, 16) tyX3 rfl lays_3 tyX3_ok gw_221 gw_425 gw_10 (Nat.le_of_ble_eq_true rfl) (Nat.le_of_ble_eq_true rfl) dX11_site_14 (fun q3505 K3506 V3507 H hq3508 hK3509 hVn3510 hVo3511 hS => ?_)
    have hE3512 : ∀ a k, K a = some k → K3506 a = some k := fun a k h => by rw [hK3509, updK_ne (K_old h hq3508)]; exact h
    have hK3513 : K3506 q3505 = some (0, 3) := by rw [hK3509]; exact updK_same
    refine W.widen (k := 1) (n := 16) (Nat.le_of_ble_eq_true rfl) (Nat.le_of_ble_eq_true rfl) ?_
    refine lv_dup hx hb dX11_site_17 rfl ?_
    refine lv_iload_n hx hb dX11_site_18 rfl (lv_at hl 2 rfl) ?_
    refine th_if_eq (X := ne_i) (tgt := 26) hx hb dX11_site_19 (by decide) iz_ne (fun c3514 => ?_) (fun c3514 => ?_)
    · refine lv_iconst (v := 4) hx hb dX11_site_26 (by decide) ?_
      refine lv_iconst (v := (-1)) hx hb dX11_site_27 (by decide) ?_
      refine lv_iload_n hx hb dX11_site_28 rfl (lv_at hl 1 rfl) ?_
      refine lv_iconst (v := (-1)) hx hb dX11_site_29 (by decide) ?_
      refine lv_iconst (v := (-1)) hx hb dX11_site_30 (by decide) ?_
      refine th_govH hS rfl (th_runI (As := [.int 4, .int (-1), .int c, .int (-1), .int (-1)]) (rest := [.ref q3505, .ref x]) C hS.1 gI_RX11_162 (t_X3_init_4 li_n1 iz_c li_n1 li_n1 hK3513) hl rfl rfl rfl rfl ⟨Nat.le_of_ble_eq_true rfl, Nat.le_of_ble_eq_true rfl⟩ (Nat.le_of_ble_eq_true rfl) ⟨Nat.le_of_ble_eq_true rfl, Nat.le_of_ble_eq_true rfl⟩ dX11_site_31) (fun K3517 V3518 H locs1 hq3516 hE3519 hS => ?_)
      have hF3520 := hq3516
      refine W.widen (k := 3) (n := 36) (Nat.le_of_ble_eq_true rfl) (Nat.le_of_ble_eq_true rfl) ?_
      have hv3522 : V3507 x 6 = .int 0 := Eq.trans (congrFun (hVo3511 _ (K_ne (hE3519 _ _ (hE3512 _ _ hp0)) (hE3519 _ _ hK3513) (by decide))) 6) hp34
      have hv3523 : V3518 x 6 = .int 0 := Eq.trans (congrFun (hF3520 _ (by rw [(hE3512 _ _ hp0)]; exact fun h => by cases h) (K_ne (hE3519 _ _ (hE3512 _ _ hp0)) (hE3519 _ _ hK3513) (by decide))) 6) hv3522
      have hv3524 : V3507 x 5 = .ref pl := Eq.trans (congrFun (hVo3511 _ (K_ne (hE3519 _ _ (hE3512 _ _ hp0)) (hE3519 _ _ hK3513) (by decide))) 5) hp32
      have hv3525 : V3518 x 5 = .ref pl := Eq.trans (congrFun (hF3520 _ (by rw [(hE3512 _ _ hp0)]; exact fun h => by cases h) (K_ne (hE3519 _ _ (hE3512 _ _ hp0)) (hE3519 _ _ hK3513) (by decide))) 5) hv3524
      refine th_goiH hS rfl (th_runV (As := [.ref q3505]) (rest := []) C hS.1 (RX11, TX11, 20) rfl gV_RX11_165 (hE3519 _ _ (hE3512 _ _ hp0)) (t_X11_settle (hE3519 _ _ (hE3512 _ _ hp0)) hv3523 hv3525 (hE3519 _ _ (hE3512 _ _ hp33)) (hE3519 _ _ hK3513)) hl rfl rfl rfl rfl ⟨Nat.le_of_ble_eq_true rfl, Nat.le_of_ble_eq_true rfl⟩ (Nat.le_of_ble_eq_true rfl) ⟨Nat.le_of_ble_eq_true rfl, Nat.le_of_ble_eq_true rfl⟩ dX11_site_34) (fun r3526 K3528 V3529 H locs1 hq3527 hE3530 hS => ?_)
      obtain ⟨rfl, hF3531, hr3532⟩ := hq3527
      exact th_retiH (post := fun r K1 V1 => (∀ b, K b = some (0, 11) → V1 b = V b) ∧ (((0 ≤ c_i ∧ c_i ≤ 63) ∧ r.toInt = 0) ∨ ((0 > c_i ∨ c_i > 63) ∧ r.toInt = (-1)))) (cells := 3) (slots := 36) (mc := 3) (ms := 36) C hS ⟨(fun b hb  => Eq.trans (hF3531 _ (by rw [(hE3519 _ _ (hE3512 _ _ hb))]; exact fun h => by cases h) (K_ne (hE3519 _ _ (hE3512 _ _ hb)) (hE3519 _ _ (hE3512 _ _ hp0)) (by decide)) (K_ne (hE3519 _ _ (hE3512 _ _ hb)) (hE3519 _ _ (hE3512 _ _ hp33)) (by decide))) (Eq.trans (hF3520 _ (by rw [(hE3512 _ _ hb)]; exact fun h => by cases h) (K_ne (hE3512 _ _ hb) hK3513 (by decide))) ((hVo3511 _ (K_old hb hq3508))))), (Or.inl ⟨by omega, by omega⟩)⟩ (Nat.le_of_ble_eq_true rfl) (Nat.le_of_ble_eq_true rfl) dX11_site_37
    · refine lv_iconst (v := 5) hx hb dX11_site_22 (by decide) ?_
      refine lv_goto (tgt := 27) hx hb dX11_site_23 (by decide) ?_
      refine lv_iconst (v := (-1)) hx hb dX11_site_27 (by decide) ?_
      refine lv_iload_n hx hb dX11_site_28 rfl (lv_at hl 1 rfl) ?_
      refine lv_iconst (v := (-1)) hx hb dX11_site_29 (by decide) ?_
      refine lv_iconst (v := (-1)) hx hb dX11_site_30 (by decide) ?_
      refine th_govH hS rfl (th_runI (As := [.int 5, .int (-1), .int c, .int (-1), .int (-1)]) (rest := [.ref q3505, .ref x]) C hS.1 gI_RX11_162 (t_X3_init_5 li_n1 iz_c li_n1 li_n1 hK3513) hl rfl rfl rfl rfl ⟨Nat.le_of_ble_eq_true rfl, Nat.le_of_ble_eq_true rfl⟩ (Nat.le_of_ble_eq_true rfl) ⟨Nat.le_of_ble_eq_true rfl, Nat.le_of_ble_eq_true rfl⟩ dX11_site_31) (fun K3535 V3536 H locs1 hq3534 hE3537 hS => ?_)
      have hF3538 := hq3534
      refine W.widen (k := 3) (n := 36) (Nat.le_of_ble_eq_true rfl) (Nat.le_of_ble_eq_true rfl) ?_
      have hv3540 : V3507 x 6 = .int 0 := Eq.trans (congrFun (hVo3511 _ (K_ne (hE3537 _ _ (hE3512 _ _ hp0)) (hE3537 _ _ hK3513) (by decide))) 6) hp34
      have hv3541 : V3536 x 6 = .int 0 := Eq.trans (congrFun (hF3538 _ (by rw [(hE3512 _ _ hp0)]; exact fun h => by cases h) (K_ne (hE3537 _ _ (hE3512 _ _ hp0)) (hE3537 _ _ hK3513) (by decide))) 6) hv3540
      have hv3542 : V3507 x 5 = .ref pl := Eq.trans (congrFun (hVo3511 _ (K_ne (hE3537 _ _ (hE3512 _ _ hp0)) (hE3537 _ _ hK3513) (by decide))) 5) hp32
      have hv3543 : V3536 x 5 = .ref pl := Eq.trans (congrFun (hF3538 _ (by rw [(hE3512 _ _ hp0)]; exact fun h => by cases h) (K_ne (hE3537 _ _ (hE3512 _ _ hp0)) (hE3537 _ _ hK3513) (by decide))) 5) hv3542
      refine th_goiH hS rfl (th_runV (As := [.ref q3505]) (rest := []) C hS.1 (RX11, TX11, 20) rfl gV_RX11_165 (hE3537 _ _ (hE3512 _ _ hp0)) (t_X11_settle (hE3537 _ _ (hE3512 _ _ hp0)) hv3541 hv3543 (hE3537 _ _ (hE3512 _ _ hp33)) (hE3537 _ _ hK3513)) hl rfl rfl rfl rfl ⟨Nat.le_of_ble_eq_true rfl, Nat.le_of_ble_eq_true rfl⟩ (Nat.le_of_ble_eq_true rfl) ⟨Nat.le_of_ble_eq_true rfl, Nat.le_of_ble_eq_true rfl⟩ dX11_site_34) (fun r3544 K3546 V3547 H locs1 hq3545 hE3548 hS => ?_)
      obtain ⟨rfl, hF3549, hr3550⟩ := hq3545
      exact th_retiH (post := fun r K1 V1 => (∀ b, K b = some (0, 11) → V1 b = V b) ∧ (((0 ≤ c_i ∧ c_i ≤ 63) ∧ r.toInt = 0) ∨ ((0 > c_i ∨ c_i > 63) ∧ r.toInt = (-1)))) (cells := 3) (slots := 36) (mc := 3) (ms := 36) C hS ⟨(fun b hb  => Eq.trans (hF3549 _ (by rw [(hE3537 _ _ (hE3512 _ _ hb))]; exact fun h => by cases h) (K_ne (hE3537 _ _ (hE3512 _ _ hb)) (hE3537 _ _ (hE3512 _ _ hp0)) (by decide)) (K_ne (hE3537 _ _ (hE3512 _ _ hb)) (hE3537 _ _ (hE3512 _ _ hp33)) (by decide))) (Eq.trans (hF3538 _ (by rw [(hE3512 _ _ hb)]; exact fun h => by cases h) (K_ne (hE3512 _ _ hb) hK3513 (by decide))) ((hVo3511 _ (K_old hb hq3508))))), (Or.inl ⟨by omega, by omega⟩)⟩ (Nat.le_of_ble_eq_true rfl) (Nat.le_of_ble_eq_true rfl) dX11_site_37
  · replace hq3503 := Or.resolve_left hq3503 (fun h => absurd h.2 (by omega))
    refine lv_iconst (v := (-1)) hx hb dX11_site_11 (by decide) ?_
    exact th_retiH (post := fun r K1 V1 => (∀ b, K b = some (0, 11) → V1 b = V b) ∧ (((0 ≤ c_i ∧ c_i ≤ 63) ∧ r.toInt = 0) ∨ ((0 > c_i ∨ c_i > 63) ∧ r.toInt = (-1)))) (cells := 0) (slots := 0) (mc := 3) (ms := 36) C hS ⟨(fun b hb => rfl), (Or.inr (⟨by omega, li_n1⟩))⟩ (Nat.le_of_ble_eq_true rfl) (Nat.le_of_ble_eq_true rfl) dX11_site_12
