set_option maxHeartbeats 400000 in
set_option maxRecDepth 100000 in
theorem t_X11_party {l : Launch} {D : va_G} {dA : Nat → ClassId} {K : Kmap} {V : Vmap} {sz : Nat} {x : Nat} {dc : Int32} {dc_i : Int} (iz_dc : dc.toInt = dc_i) (F : FX K V x) : Met l yX11_party (wsOf yX11_party cX11_party 2 (some .int)) { frames := 2, cells := 3, slots := 32, locals := 43 } (PC D dA K V sz [.ref x, .int dc]) (HQi D dA K (fun r K1 V1 => (∀ b, K b = some (0, 11) → V1 b = V b) ∧ ((r.toInt = 0)))) 3 32 (AK K sz) := by
  refine th_body (by decide +kernel) (Nat.le_of_ble_eq_true rfl) (fun pZ eZ sZ mZ belowZ methZ cZ C hR hsz hnm ls hl => ?_)
  have C : CX pZ sZ mZ [.ref x, .int dc].toArray methZ cZ cX11_party 2 (some .int) RX11 D dA := C
  have hx := C.1; have hb := C.2.1
  have hl : lv_has ls 2 [(0, .ref x), (1, .int dc)] := hl
  subst hsz
  have hS : ST D dA K sZ.heap K V sZ.heap [] := ST.rf hR
  have r_dc := th_rng dc; rw [iz_dc] at r_dc
  have F0 := F
  obtain ⟨la, he, gr, wa, fd, co, sd, lw, rd, se, st, pa, pl, t1, t2, t3, t4, t5, t6, c6, t7, c7, sp, su, hp0, hp1, hp2, hp3, hp4, hp5, hp6, hp7, hp8, hp9, hp10, hp11, hp12, hp13, hp14, hp15, hp16, hp17, hp18, hp19, hp20, hp21, hp22, hp23, hp24, hp25, hp26, hp27, hp28, hp29, hp30, hp31, hp32, hp33, hp34, hp35, hp36, hp37, hp38, hp39, hp40, hp41, hp42, hp43, hp44, hp45, hp46, hp47, hp48, hp49, hp50, hp51, hp52, hp53, hp54, hp55, hp56, hp57, hp58, hp59, hp60, hp61, hp62, hp63, hp64, hp65, hp66, hp67, hp68, hp69, hp70⟩ := F
  refine lv_aload_n hx hb dX11_party_0 rfl (lv_at hl 0 rfl) ?_
  refine th_get C hS.1 hp0 fl_RX11_36 hp31 dX11_party_1 ?_
  refine lv_aload_n hx hb dX11_party_4 rfl (lv_at hl 0 rfl) ?_
  refine th_get C hS.1 hp0 fl_RX11_32 hp29 dX11_party_5 ?_
  refine th_alen C hS.1 (t := 4) (by decide) hp30 dX11_party_8 ?_
  refine th_is (w := .int 9) (by decide) ?_
  refine th_icmp_lt (X := 0) (Y := 9) (tgt := 14) hx hb dX11_party_9 (by decide) li_0 li_9 (fun c3420 => ?_) (fun c3420 => absurd c3420 (by omega))
  refine lv_aload_n hx hb dX11_party_14 rfl (lv_at hl 0 rfl) ?_
  refine th_get C hS.1 hp0 fl_RX11_32 hp29 dX11_party_15 ?_
  refine lv_aload_n hx hb dX11_party_18 rfl (lv_at hl 0 rfl) ?_
  refine th_get C hS.1 hp0 fl_RX11_36 hp31 dX11_party_19 ?_
  refine th_new (ci := 2) C hS (RX2, TX2, 5) tyX2 rfl lays_2 tyX2_ok gw_219 gw_325 gw_9 (Nat.le_of_ble_eq_true rfl) (Nat.le_of_ble_eq_true rfl) dX11_party_22 (fun q3421 K3422 V3423 H hq3424 hK3425 hVn3426 hVo3427 hS => ?_)
  have hE3428 : ∀ a k, K a = some k → K3422 a = some k := fun a k h => by rw [hK3425, updK_ne (K_old h hq3424)]; exact h
  have hK3429 : K3422 q3421 = some (0, 2) := by rw [hK3425]; exact updK_same
  refine W.widen (k := 1) (n := 5) (Nat.le_of_ble_eq_true rfl) (Nat.le_of_ble_eq_true rfl) ?_
  refine lv_dup hx hb dX11_party_25 rfl ?_
  refine lv_iload_n hx hb dX11_party_26 rfl (lv_at hl 1 rfl) ?_
  refine th_if_eq (X := dc_i) (tgt := 40) hx hb dX11_party_27 (by decide) iz_dc (fun c3430 => ?_) (fun c3430 => ?_)
  · refine lv_iconst (v := (-1)) hx hb dX11_party_40 (by decide) ?_
    refine th_govH hS rfl (th_runI (As := [.int (-1)]) (rest := [.ref q3421, .int 0, .ref pa]) C hS.1 gI_RX11_148 (t_X2_init li_n1 hK3429) hl rfl rfl rfl rfl ⟨Nat.le_of_ble_eq_true rfl, Nat.le_of_ble_eq_true rfl⟩ (Nat.le_of_ble_eq_true rfl) ⟨Nat.le_of_ble_eq_true rfl, Nat.le_of_ble_eq_true rfl⟩ dX11_party_41) (fun K3433 V3434 H locs1 hq3432 hE3435 hS => ?_)
    have hF3436 := hq3432
    refine W.widen (k := 3) (n := 32) (Nat.le_of_ble_eq_true rfl) (Nat.le_of_ble_eq_true rfl) ?_
    refine th_aast C hS (t := 4) (by decide) (RX2, TX2, 5) rfl rfl (hE3435 _ _ (hE3428 _ _ hp30)) (hE3435 _ _ hK3429) (by rw [li_0]; omega) (by rw [li_0]; omega) dX11_party_44 (fun V3438 H locs1 hV3439 hS => ?_)
    refine lv_aload_n hx hb dX11_party_45 rfl (lv_at hl 0 rfl) ?_
    refine lv_dup hx hb dX11_party_46 rfl ?_
    have hv3440 : V3423 x 4 = .int 0 := Eq.trans (congrFun (hVo3427 _ (K_ne (hE3435 _ _ (hE3428 _ _ hp0)) (hE3435 _ _ hK3429) (by decide))) 4) hp31
    have hv3441 : V3434 x 4 = .int 0 := Eq.trans (congrFun (hF3436 _ (by rw [(hE3428 _ _ hp0)]; exact fun h => by cases h) (K_ne (hE3435 _ _ (hE3428 _ _ hp0)) (hE3435 _ _ hK3429) (by decide))) 4) hv3440
    have hv3442 : V3438 x 4 = .int 0 := Eq.trans (uq_ne hV3439 (Or.inl (K_ne (hE3435 _ _ (hE3428 _ _ hp0)) (hE3435 _ _ (hE3428 _ _ hp30)) (by decide)))) hv3441
    refine th_get C hS.1 (hE3435 _ _ (hE3428 _ _ hp0)) fl_RX11_36 hv3442 dX11_party_47 ?_
    refine lv_dup_x1 hx hb dX11_party_50 rfl rfl ?_
    refine lv_iconst (v := 1) hx hb dX11_party_51 (by decide) ?_
    refine lv_iadd hx hb dX11_party_52 ?_
    refine th_is (w := .int 1) (by decide) ?_
    refine th_put C hS (hE3435 _ _ (hE3428 _ _ hp0)) fp_RX11_36 rfl rfl dX11_party_53 (fun V3443 H locs1 hV3444 hS => ?_)
    exact th_retiH (post := fun r K1 V1 => (∀ b, K b = some (0, 11) → V1 b = V b) ∧ ((r.toInt = 0))) (cells := 3) (slots := 32) (mc := 3) (ms := 32) C hS ⟨(fun b hb  => Eq.trans (uq_other hV3444 (K_ne (hE3435 _ _ (hE3428 _ _ hb)) (hE3435 _ _ (hE3428 _ _ hp0)) (by decide))) (Eq.trans (uq_other hV3439 (K_ne (hE3435 _ _ (hE3428 _ _ hb)) (hE3435 _ _ (hE3428 _ _ hp30)) (by decide))) (Eq.trans (hF3436 _ (by rw [(hE3428 _ _ hb)]; exact fun h => by cases h) (K_ne (hE3428 _ _ hb) hK3429 (by decide))) ((hVo3427 _ (K_old hb hq3424)))))), (by have hfin := li_0; omega)⟩ (Nat.le_of_ble_eq_true rfl) (Nat.le_of_ble_eq_true rfl) dX11_party_56
  · refine lv_aload_n hx hb dX11_party_30 rfl (lv_at hl 0 rfl) ?_
    have hv3445 : V3423 x 0 = .ref la := Eq.trans (congrFun (hVo3427 _ (K_ne (hE3428 _ _ hp0) hK3429 (by decide))) 0) hp1
    refine th_get C hS.1 (hE3428 _ _ hp0) fl_RX11_12 hv3445 dX11_party_31 ?_
    have hv3446 : V3423 la 0 = .int 0 := Eq.trans (congrFun (hVo3427 _ (K_ne (hE3428 _ _ hp2) hK3429 (by decide))) 0) hp3
    refine th_get C hS.1 (hE3428 _ _ hp2) fl_RX11_145 hv3446 dX11_party_34 ?_
    refine lv_goto (tgt := 41) hx hb dX11_party_37 (by decide) ?_
    refine th_govH hS rfl (th_runI (As := [.int 0]) (rest := [.ref q3421, .int 0, .ref pa]) C hS.1 gI_RX11_148 (t_X2_init li_0 hK3429) hl rfl rfl rfl rfl ⟨Nat.le_of_ble_eq_true rfl, Nat.le_of_ble_eq_true rfl⟩ (Nat.le_of_ble_eq_true rfl) ⟨Nat.le_of_ble_eq_true rfl, Nat.le_of_ble_eq_true rfl⟩ dX11_party_41) (fun K3449 V3450 H locs1 hq3448 hE3451 hS => ?_)
    have hF3452 := hq3448
    refine W.widen (k := 3) (n := 32) (Nat.le_of_ble_eq_true rfl) (Nat.le_of_ble_eq_true rfl) ?_
    refine th_aast C hS (t := 4) (by decide) (RX2, TX2, 5) rfl rfl (hE3451 _ _ (hE3428 _ _ hp30)) (hE3451 _ _ hK3429) (by rw [li_0]; omega) (by rw [li_0]; omega) dX11_party_44 (fun V3454 H locs1 hV3455 hS => ?_)
    refine lv_aload_n hx hb dX11_party_45 rfl (lv_at hl 0 rfl) ?_
    refine lv_dup hx hb dX11_party_46 rfl ?_
    have hv3456 : V3423 x 4 = .int 0 := Eq.trans (congrFun (hVo3427 _ (K_ne (hE3451 _ _ (hE3428 _ _ hp0)) (hE3451 _ _ hK3429) (by decide))) 4) hp31
    have hv3457 : V3450 x 4 = .int 0 := Eq.trans (congrFun (hF3452 _ (by rw [(hE3428 _ _ hp0)]; exact fun h => by cases h) (K_ne (hE3451 _ _ (hE3428 _ _ hp0)) (hE3451 _ _ hK3429) (by decide))) 4) hv3456
    have hv3458 : V3454 x 4 = .int 0 := Eq.trans (uq_ne hV3455 (Or.inl (K_ne (hE3451 _ _ (hE3428 _ _ hp0)) (hE3451 _ _ (hE3428 _ _ hp30)) (by decide)))) hv3457
    refine th_get C hS.1 (hE3451 _ _ (hE3428 _ _ hp0)) fl_RX11_36 hv3458 dX11_party_47 ?_
    refine lv_dup_x1 hx hb dX11_party_50 rfl rfl ?_
    refine lv_iconst (v := 1) hx hb dX11_party_51 (by decide) ?_
    refine lv_iadd hx hb dX11_party_52 ?_
    refine th_is (w := .int 1) (by decide) ?_
    refine th_put C hS (hE3451 _ _ (hE3428 _ _ hp0)) fp_RX11_36 rfl rfl dX11_party_53 (fun V3459 H locs1 hV3460 hS => ?_)
    exact th_retiH (post := fun r K1 V1 => (∀ b, K b = some (0, 11) → V1 b = V b) ∧ ((r.toInt = 0))) (cells := 3) (slots := 32) (mc := 3) (ms := 32) C hS ⟨(fun b hb  => Eq.trans (uq_other hV3460 (K_ne (hE3451 _ _ (hE3428 _ _ hb)) (hE3451 _ _ (hE3428 _ _ hp0)) (by decide))) (Eq.trans (uq_other hV3455 (K_ne (hE3451 _ _ (hE3428 _ _ hb)) (hE3451 _ _ (hE3428 _ _ hp30)) (by decide))) (Eq.trans (hF3452 _ (by rw [(hE3428 _ _ hb)]; exact fun h => by cases h) (K_ne (hE3428 _ _ hb) hK3429 (by decide))) ((hVo3427 _ (K_old hb hq3424)))))), (by have hfin := li_0; omega)⟩ (Nat.le_of_ble_eq_true rfl) (Nat.le_of_ble_eq_true rfl) dX11_party_56
