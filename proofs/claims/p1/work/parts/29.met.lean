set_option maxHeartbeats 400000 in
set_option maxRecDepth 100000 in
theorem t_X11_whose {l : Launch} {D : va_G} {dA : Nat → ClassId} {K : Kmap} {V : Vmap} {sz : Nat} {x : Nat} {p c : Int32} {p_i c_i : Int} (iz_p : p.toInt = p_i) (iz_c : c.toInt = c_i) (F : FX K V x) : Met l yX11_whose (wsOf yX11_whose cX11_whose 9 (some .int)) { frames := 1, cells := 0, slots := 0, locals := 21 } (PC D dA K V sz [.ref x, .int p, .int c]) (PQi (fun r => (r.toInt = (-1)))) 0 0 noFree := by
  refine th_body (by decide +kernel) (Nat.le_of_ble_eq_true rfl) (fun pZ eZ sZ mZ belowZ methZ cZ C hR hsz hnm ls hl => ?_)
  have C : CX pZ sZ mZ [.ref x, .int p, .int c].toArray methZ cZ cX11_whose 9 (some .int) RX11 D dA := C
  have hx := C.1; have hb := C.2.1
  have hl : lv_has ls 9 [(0, .ref x), (1, .int p), (2, .int c)] := hl
  subst hsz
  have hS : ST D dA K sZ.heap K V sZ.heap [] := ST.rf hR
  have r_p := th_rng p; rw [iz_p] at r_p
  have r_c := th_rng c; rw [iz_c] at r_c
  have F0 := F
  obtain ⟨la, he, gr, wa, fd, co, sd, lw, rd, se, st, pa, pl, t1, t2, t3, t4, t5, t6, c6, t7, c7, sp, su, hp0, hp1, hp2, hp3, hp4, hp5, hp6, hp7, hp8, hp9, hp10, hp11, hp12, hp13, hp14, hp15, hp16, hp17, hp18, hp19, hp20, hp21, hp22, hp23, hp24, hp25, hp26, hp27, hp28, hp29, hp30, hp31, hp32, hp33, hp34, hp35, hp36, hp37, hp38, hp39, hp40, hp41, hp42, hp43, hp44, hp45, hp46, hp47, hp48, hp49, hp50, hp51, hp52, hp53, hp54, hp55, hp56, hp57, hp58, hp59, hp60, hp61, hp62, hp63, hp64, hp65, hp66, hp67, hp68, hp69, hp70⟩ := F
  refine lv_aload_n hx hb dX11_whose_0 rfl (lv_at hl 0 rfl) ?_
  refine lv_iload_n hx hb dX11_whose_1 rfl (lv_at hl 1 rfl) ?_
  refine th_gor (th_runV (As := [.int p]) (rest := []) C hS.1 (RX11, TX11, 20) rfl gV_RX11_151 hp0 (t_X11_partyOf iz_p hp0 hp31) hl rfl rfl rfl rfl ⟨Nat.le_of_ble_eq_true rfl, Nat.le_of_ble_eq_true rfl⟩ (Nat.le_of_ble_eq_true rfl) ⟨Nat.le_of_ble_eq_true rfl, Nat.le_of_ble_eq_true rfl⟩ dX11_whose_2) ?_
  refine lv_astore_nN (lv' := [(3, .null), (0, .ref x), (1, .int p), (2, .int c)]) hx hb dX11_whose_5 rfl hl (by decide) rfl (fun ls hl => ?_)
  refine lv_aload_nN hx hb dX11_whose_6 rfl (lv_at hl 0 rfl) ?_
  refine lv_ifnullN hx hb (tgt := 21) dX11_whose_7 (by decide) ?_
  refine lv_iconst (v := (-1)) hx hb dX11_whose_21 (by decide) ?_
  exact th_reti C (by have hfin := li_n1; omega) dX11_whose_22

set_option maxHeartbeats 400000 in
set_option maxRecDepth 100000 in
theorem t_X11_ship {l : Launch} {D : va_G} {dA : Nat → ClassId} {K : Kmap} {V : Vmap} {sz : Nat} {x : Nat} {p ro stg : Int32} {p_i ro_i stg_i : Int} (iz_p : p.toInt = p_i) (iz_ro : ro.toInt = ro_i) (iz_stg : stg.toInt = stg_i) (F : FX K V x) : Met l yX11_ship (wsOf yX11_ship cX11_ship 4 (some .int)) { frames := 1, cells := 0, slots := 0, locals := 21 } (PC D dA K V sz [.ref x, .int p, .int ro, .int stg]) (PQi (fun r => (r.toInt = (-1)))) 0 0 noFree := by
  refine th_body (by decide +kernel) (Nat.le_of_ble_eq_true rfl) (fun pZ eZ sZ mZ belowZ methZ cZ C hR hsz hnm ls hl => ?_)
  have C : CX pZ sZ mZ [.ref x, .int p, .int ro, .int stg].toArray methZ cZ cX11_ship 4 (some .int) RX11 D dA := C
  have hx := C.1; have hb := C.2.1
  have hl : lv_has ls 4 [(0, .ref x), (1, .int p), (2, .int ro), (3, .int stg)] := hl
  subst hsz
  have hS : ST D dA K sZ.heap K V sZ.heap [] := ST.rf hR
  have r_p := th_rng p; rw [iz_p] at r_p
  have r_ro := th_rng ro; rw [iz_ro] at r_ro
  have r_stg := th_rng stg; rw [iz_stg] at r_stg
  have F0 := F
  obtain ⟨la, he, gr, wa, fd, co, sd, lw, rd, se, st, pa, pl, t1, t2, t3, t4, t5, t6, c6, t7, c7, sp, su, hp0, hp1, hp2, hp3, hp4, hp5, hp6, hp7, hp8, hp9, hp10, hp11, hp12, hp13, hp14, hp15, hp16, hp17, hp18, hp19, hp20, hp21, hp22, hp23, hp24, hp25, hp26, hp27, hp28, hp29, hp30, hp31, hp32, hp33, hp34, hp35, hp36, hp37, hp38, hp39, hp40, hp41, hp42, hp43, hp44, hp45, hp46, hp47, hp48, hp49, hp50, hp51, hp52, hp53, hp54, hp55, hp56, hp57, hp58, hp59, hp60, hp61, hp62, hp63, hp64, hp65, hp66, hp67, hp68, hp69, hp70⟩ := F
  refine lv_aload_n hx hb dX11_ship_0 rfl (lv_at hl 0 rfl) ?_
  refine lv_iload_n hx hb dX11_ship_1 rfl (lv_at hl 1 rfl) ?_
  refine th_gor (th_runV (As := [.int p]) (rest := []) C hS.1 (RX11, TX11, 20) rfl gV_RX11_151 hp0 (t_X11_partyOf iz_p hp0 hp31) hl rfl rfl rfl rfl ⟨Nat.le_of_ble_eq_true rfl, Nat.le_of_ble_eq_true rfl⟩ (Nat.le_of_ble_eq_true rfl) ⟨Nat.le_of_ble_eq_true rfl, Nat.le_of_ble_eq_true rfl⟩ dX11_ship_2) ?_
  refine lv_ifnullN hx hb (tgt := 29) dX11_ship_5 (by decide) ?_
  refine lv_iconst (v := (-1)) hx hb dX11_ship_29 (by decide) ?_
  exact th_reti C (by have hfin := li_n1; omega) dX11_ship_30

set_option maxHeartbeats 400000 in
set_option maxRecDepth 100000 in
theorem t_X11_cover {l : Launch} {D : va_G} {dA : Nat → ClassId} {K : Kmap} {V : Vmap} {sz : Nat} {x : Nat} {se1 mo n : Int32} {se1_i mo_i n_i : Int} (iz_se1 : se1.toInt = se1_i) (iz_mo : mo.toInt = mo_i) (iz_n : n.toInt = n_i) (F : FX K V x) : Met l yX11_cover (wsOf yX11_cover cX11_cover 4 (some .boolean)) { frames := 2, cells := 0, slots := 0, locals := 42 } (PC D dA K V sz [.ref x, .int se1, .int mo, .int n]) (HQi D dA K (fun r K1 V1 => (∀ b, K b = some (0, 11) → V1 b = V b) ∧ ((((0 ≤ se1_i ∧ se1_i ≤ 3) ∧ (0 ≤ mo_i ∧ mo_i ≤ 11) ∧ (0 ≤ n_i ∧ n_i ≤ 100)) ∧ r.toInt = 1) ∨ (((0 > se1_i ∨ se1_i > 3) ∨ (0 > mo_i ∨ mo_i > 11) ∨ (0 > n_i ∨ n_i > 100)) ∧ r.toInt = 0)))) 0 0 (AK K sz) := by
  refine th_body (by decide +kernel) (Nat.le_of_ble_eq_true rfl) (fun pZ eZ sZ mZ belowZ methZ cZ C hR hsz hnm ls hl => ?_)
  have C : CX pZ sZ mZ [.ref x, .int se1, .int mo, .int n].toArray methZ cZ cX11_cover 4 (some .boolean) RX11 D dA := C
  have hx := C.1; have hb := C.2.1
  have hl : lv_has ls 4 [(0, .ref x), (1, .int se1), (2, .int mo), (3, .int n)] := hl
  subst hsz
  have hS : ST D dA K sZ.heap K V sZ.heap [] := ST.rf hR
  have r_se1 := th_rng se1; rw [iz_se1] at r_se1
  have r_mo := th_rng mo; rw [iz_mo] at r_mo
  have r_n := th_rng n; rw [iz_n] at r_n
  have F0 := F
  obtain ⟨la, he, gr, wa, fd, co, sd, lw, rd, se, st, pa, pl, t1, t2, t3, t4, t5, t6, c6, t7, c7, sp, su, hp0, hp1, hp2, hp3, hp4, hp5, hp6, hp7, hp8, hp9, hp10, hp11, hp12, hp13, hp14, hp15, hp16, hp17, hp18, hp19, hp20, hp21, hp22, hp23, hp24, hp25, hp26, hp27, hp28, hp29, hp30, hp31, hp32, hp33, hp34, hp35, hp36, hp37, hp38, hp39, hp40, hp41, hp42, hp43, hp44, hp45, hp46, hp47, hp48, hp49, hp50, hp51, hp52, hp53, hp54, hp55, hp56, hp57, hp58, hp59, hp60, hp61, hp62, hp63, hp64, hp65, hp66, hp67, hp68, hp69, hp70⟩ := F
  refine lv_iload_n hx hb dX11_cover_0 rfl (lv_at hl 1 rfl) ?_
  refine th_goi (th_runS (As := [.int se1]) (rest := []) C hS.1 gS_RX11_394 (t_X11_isSea iz_se1) hl rfl rfl rfl rfl ⟨Nat.le_of_ble_eq_true rfl, Nat.le_of_ble_eq_true rfl⟩ (Nat.le_of_ble_eq_true rfl) ⟨Nat.le_of_ble_eq_true rfl, Nat.le_of_ble_eq_true rfl⟩ dX11_cover_1) (fun r3660 hq3661 => ?_)
  refine th_if_eq (X := r3660.toInt) (tgt := 27) hx hb dX11_cover_4 (by decide) rfl (fun c3662 => ?_) (fun c3662 => ?_)
  · replace hq3661 := Or.resolve_left hq3661 (fun h => absurd h.2 (by omega))
    refine lv_iconst (v := 0) hx hb dX11_cover_27 (by decide) ?_
    exact th_retzH (post := fun r K1 V1 => (∀ b, K b = some (0, 11) → V1 b = V b) ∧ ((((0 ≤ se1_i ∧ se1_i ≤ 3) ∧ (0 ≤ mo_i ∧ mo_i ≤ 11) ∧ (0 ≤ n_i ∧ n_i ≤ 100)) ∧ r.toInt = 1) ∨ (((0 > se1_i ∨ se1_i > 3) ∨ (0 > mo_i ∨ mo_i > 11) ∨ (0 > n_i ∨ n_i > 100)) ∧ r.toInt = 0))) (cells := 0) (slots := 0) (mc := 0) (ms := 0) C hS (by have hfin := li_0; omega) ⟨(fun b hb => rfl), (Or.inr (⟨by omega, li_0⟩))⟩ (Nat.le_of_ble_eq_true rfl) (Nat.le_of_ble_eq_true rfl) dX11_cover_28
  · replace hq3661 := Or.resolve_right hq3661 (fun h => absurd h.2 (by omega))
    refine lv_iload_n hx hb dX11_cover_7 rfl (lv_at hl 2 rfl) ?_
    refine lv_iconst (v := 0) hx hb dX11_cover_8 (by decide) ?_
    refine lv_bipush (v := 11) hx hb dX11_cover_9 (by decide) ?_
    refine th_goi (th_runS (As := [.int mo, .int 0, .int 11]) (rest := []) C hS.1 gS_RX11_112 (t_X11_between iz_mo li_0 li_11) hl rfl rfl rfl rfl ⟨Nat.le_of_ble_eq_true rfl, Nat.le_of_ble_eq_true rfl⟩ (Nat.le_of_ble_eq_true rfl) ⟨Nat.le_of_ble_eq_true rfl, Nat.le_of_ble_eq_true rfl⟩ dX11_cover_11) (fun r3663 hq3664 => ?_)
    refine th_if_eq (X := r3663.toInt) (tgt := 27) hx hb dX11_cover_14 (by decide) rfl (fun c3665 => ?_) (fun c3665 => ?_)
    · replace hq3664 := Or.resolve_left hq3664 (fun h => absurd h.2 (by omega))
      refine lv_iconst (v := 0) hx hb dX11_cover_27 (by decide) ?_
      exact th_retzH (post := fun r K1 V1 => (∀ b, K b = some (0, 11) → V1 b = V b) ∧ ((((0 ≤ se1_i ∧ se1_i ≤ 3) ∧ (0 ≤ mo_i ∧ mo_i ≤ 11) ∧ (0 ≤ n_i ∧ n_i ≤ 100)) ∧ r.toInt = 1) ∨ (((0 > se1_i ∨ se1_i > 3) ∨ (0 > mo_i ∨ mo_i > 11) ∨ (0 > n_i ∨ n_i > 100)) ∧ r.toInt = 0))) (cells := 0) (slots := 0) (mc := 0) (ms := 0) C hS (by have hfin := li_0; omega) ⟨(fun b hb => rfl), (Or.inr (⟨by omega, li_0⟩))⟩ (Nat.le_of_ble_eq_true rfl) (Nat.le_of_ble_eq_true rfl) dX11_cover_28
    · replace hq3664 := Or.resolve_right hq3664 (fun h => absurd h.2 (by omega))
      refine lv_iload_n hx hb dX11_cover_17 rfl (lv_at hl 3 rfl) ?_
      refine lv_iconst (v := 0) hx hb dX11_cover_18 (by decide) ?_
      refine lv_bipush (v := 100) hx hb dX11_cover_19 (by decide) ?_
      refine th_goi (th_runS (As := [.int n, .int 0, .int 100]) (rest := []) C hS.1 gS_RX11_112 (t_X11_between iz_n li_0 li_100) hl rfl rfl rfl rfl ⟨Nat.le_of_ble_eq_true rfl, Nat.le_of_ble_eq_true rfl⟩ (Nat.le_of_ble_eq_true rfl) ⟨Nat.le_of_ble_eq_true rfl, Nat.le_of_ble_eq_true rfl⟩ dX11_cover_21) (fun r3666 hq3667 => ?_)
      refine th_if_ne (X := r3666.toInt) (tgt := 29) hx hb dX11_cover_24 (by decide) rfl (fun c3668 => ?_) (fun c3668 => ?_)
      · replace hq3667 := Or.resolve_right hq3667 (fun h => absurd h.2 (by omega))
        refine lv_aload_n hx hb dX11_cover_29 rfl (lv_at hl 0 rfl) ?_
        refine th_get C hS.1 hp0 fl_RX11_12 hp1 dX11_cover_30 ?_
        refine th_get C hS.1 hp2 fl_RX11_397 hp14 dX11_cover_33 ?_
        refine lv_iload_n hx hb dX11_cover_36 rfl (lv_at hl 1 rfl) ?_
        refine lv_bipush (v := 12) hx hb dX11_cover_37 (by decide) ?_
        refine lv_imul hx hb dX11_cover_39 ?_
        refine th_top (X := (se1_i * 12)) (th_mul iz_se1 li_12 (by omega) (by omega)) (fun z3669 hz3669 => ?_)
        refine lv_iload_n hx hb dX11_cover_40 rfl (lv_at hl 2 rfl) ?_
        refine lv_iadd hx hb dX11_cover_41 ?_
        refine th_top (X := ((se1_i * 12) + mo_i)) (th_add hz3669 iz_mo (by omega) (by omega)) (fun z3670 hz3670 => ?_)
        refine lv_iload_n hx hb dX11_cover_42 rfl (lv_at hl 3 rfl) ?_
        refine th_govH hS rfl (th_runS (As := [.ref co, .int z3670, .int n]) (rest := []) C hS.1 gS_RX11_108 (t_X4_put hz3670 iz_n hp15 (by decide)) hl rfl rfl rfl rfl ⟨Nat.le_of_ble_eq_true rfl, Nat.le_of_ble_eq_true rfl⟩ (Nat.le_of_ble_eq_true rfl) ⟨Nat.le_of_ble_eq_true rfl, Nat.le_of_ble_eq_true rfl⟩ dX11_cover_43) (fun K3673 V3674 H locs1 hq3672 hE3675 hS => ?_)
        obtain ⟨rfl, hF3676⟩ := hq3672
        refine lv_iconst (v := 1) hx hb dX11_cover_46 (by decide) ?_
        exact th_retzH (post := fun r K1 V1 => (∀ b, K b = some (0, 11) → V1 b = V b) ∧ ((((0 ≤ se1_i ∧ se1_i ≤ 3) ∧ (0 ≤ mo_i ∧ mo_i ≤ 11) ∧ (0 ≤ n_i ∧ n_i ≤ 100)) ∧ r.toInt = 1) ∨ (((0 > se1_i ∨ se1_i > 3) ∨ (0 > mo_i ∨ mo_i > 11) ∨ (0 > n_i ∨ n_i > 100)) ∧ r.toInt = 0))) (cells := 0) (slots := 0) (mc := 0) (ms := 0) C hS (by have hfin := li_1; omega) ⟨(fun b hb  => (hF3676 _ (by rw [hb]; exact fun h => by cases h) (K_ne hb hp15 (by decide)))), (Or.inl ⟨by omega, li_1⟩)⟩ (Nat.le_of_ble_eq_true rfl) (Nat.le_of_ble_eq_true rfl) dX11_cover_47
      · replace hq3667 := Or.resolve_left hq3667 (fun h => absurd h.2 (by omega))
        refine lv_iconst (v := 0) hx hb dX11_cover_27 (by decide) ?_
        exact th_retzH (post := fun r K1 V1 => (∀ b, K b = some (0, 11) → V1 b = V b) ∧ ((((0 ≤ se1_i ∧ se1_i ≤ 3) ∧ (0 ≤ mo_i ∧ mo_i ≤ 11) ∧ (0 ≤ n_i ∧ n_i ≤ 100)) ∧ r.toInt = 1) ∨ (((0 > se1_i ∨ se1_i > 3) ∨ (0 > mo_i ∨ mo_i > 11) ∨ (0 > n_i ∨ n_i > 100)) ∧ r.toInt = 0))) (cells := 0) (slots := 0) (mc := 0) (ms := 0) C hS (by have hfin := li_0; omega) ⟨(fun b hb => rfl), (Or.inr (⟨by omega, li_0⟩))⟩ (Nat.le_of_ble_eq_true rfl) (Nat.le_of_ble_eq_true rfl) dX11_cover_28

set_option maxHeartbeats 400000 in
set_option maxRecDepth 100000 in
theorem t_X11_sea {l : Launch} {D : va_G} {dA : Nat → ClassId} {K : Kmap} {V : Vmap} {sz : Nat} {x : Nat} {se1 dy : Int32} {se1_i dy_i : Int} (iz_se1 : se1.toInt = se1_i) (iz_dy : dy.toInt = dy_i) (F : FX K V x) : Met l yX11_sea (wsOf yX11_sea cX11_sea 3 (some .boolean)) { frames := 2, cells := 0, slots := 0, locals := 42 } (PC D dA K V sz [.ref x, .int se1, .int dy]) (HQi D dA K (fun r K1 V1 => (∀ b, K b = some (0, 11) → V1 b = V b) ∧ ((((0 ≤ se1_i ∧ se1_i ≤ 3) ∧ (1 ≤ dy_i ∧ dy_i ≤ 90)) ∧ r.toInt = 1) ∨ (((0 > se1_i ∨ se1_i > 3) ∨ (1 > dy_i ∨ dy_i > 90)) ∧ r.toInt = 0)))) 0 0 (AK K sz) := by
  refine th_body (by decide +kernel) (Nat.le_of_ble_eq_true rfl) (fun pZ eZ sZ mZ belowZ methZ cZ C hR hsz hnm ls hl => ?_)
  have C : CX pZ sZ mZ [.ref x, .int se1, .int dy].toArray methZ cZ cX11_sea 3 (some .boolean) RX11 D dA := C
  have hx := C.1; have hb := C.2.1
  have hl : lv_has ls 3 [(0, .ref x), (1, .int se1), (2, .int dy)] := hl
  subst hsz
  have hS : ST D dA K sZ.heap K V sZ.heap [] := ST.rf hR
  have r_se1 := th_rng se1; rw [iz_se1] at r_se1
  have r_dy := th_rng dy; rw [iz_dy] at r_dy
  have F0 := F
  obtain ⟨la, he, gr, wa, fd, co, sd, lw, rd, se, st, pa, pl, t1, t2, t3, t4, t5, t6, c6, t7, c7, sp, su, hp0, hp1, hp2, hp3, hp4, hp5, hp6, hp7, hp8, hp9, hp10, hp11, hp12, hp13, hp14, hp15, hp16, hp17, hp18, hp19, hp20, hp21, hp22, hp23, hp24, hp25, hp26, hp27, hp28, hp29, hp30, hp31, hp32, hp33, hp34, hp35, hp36, hp37, hp38, hp39, hp40, hp41, hp42, hp43, hp44, hp45, hp46, hp47, hp48, hp49, hp50, hp51, hp52, hp53, hp54, hp55, hp56, hp57, hp58, hp59, hp60, hp61, hp62, hp63, hp64, hp65, hp66, hp67, hp68, hp69, hp70⟩ := F
  refine lv_iload_n hx hb dX11_sea_0 rfl (lv_at hl 1 rfl) ?_
  refine th_goi (th_runS (As := [.int se1]) (rest := []) C hS.1 gS_RX11_394 (t_X11_isSea iz_se1) hl rfl rfl rfl rfl ⟨Nat.le_of_ble_eq_true rfl, Nat.le_of_ble_eq_true rfl⟩ (Nat.le_of_ble_eq_true rfl) ⟨Nat.le_of_ble_eq_true rfl, Nat.le_of_ble_eq_true rfl⟩ dX11_sea_1) (fun r3678 hq3679 => ?_)
  refine th_if_eq (X := r3678.toInt) (tgt := 17) hx hb dX11_sea_4 (by decide) rfl (fun c3680 => ?_) (fun c3680 => ?_)
  · replace hq3679 := Or.resolve_left hq3679 (fun h => absurd h.2 (by omega))
    refine lv_iconst (v := 0) hx hb dX11_sea_17 (by decide) ?_
    exact th_retzH (post := fun r K1 V1 => (∀ b, K b = some (0, 11) → V1 b = V b) ∧ ((((0 ≤ se1_i ∧ se1_i ≤ 3) ∧ (1 ≤ dy_i ∧ dy_i ≤ 90)) ∧ r.toInt = 1) ∨ (((0 > se1_i ∨ se1_i > 3) ∨ (1 > dy_i ∨ dy_i > 90)) ∧ r.toInt = 0))) (cells := 0) (slots := 0) (mc := 0) (ms := 0) C hS (by have hfin := li_0; omega) ⟨(fun b hb => rfl), (Or.inr (⟨by omega, li_0⟩))⟩ (Nat.le_of_ble_eq_true rfl) (Nat.le_of_ble_eq_true rfl) dX11_sea_18
  · replace hq3679 := Or.resolve_right hq3679 (fun h => absurd h.2 (by omega))
    refine lv_iload_n hx hb dX11_sea_7 rfl (lv_at hl 2 rfl) ?_
    refine lv_iconst (v := 1) hx hb dX11_sea_8 (by decide) ?_
    refine lv_bipush (v := 90) hx hb dX11_sea_9 (by decide) ?_
    refine th_goi (th_runS (As := [.int dy, .int 1, .int 90]) (rest := []) C hS.1 gS_RX11_112 (t_X11_between iz_dy li_1 li_90) hl rfl rfl rfl rfl ⟨Nat.le_of_ble_eq_true rfl, Nat.le_of_ble_eq_true rfl⟩ (Nat.le_of_ble_eq_true rfl) ⟨Nat.le_of_ble_eq_true rfl, Nat.le_of_ble_eq_true rfl⟩ dX11_sea_11) (fun r3681 hq3682 => ?_)
    refine th_if_ne (X := r3681.toInt) (tgt := 19) hx hb dX11_sea_14 (by decide) rfl (fun c3683 => ?_) (fun c3683 => ?_)
    · replace hq3682 := Or.resolve_right hq3682 (fun h => absurd h.2 (by omega))
      refine lv_aload_n hx hb dX11_sea_19 rfl (lv_at hl 0 rfl) ?_
      refine th_get C hS.1 hp0 fl_RX11_12 hp1 dX11_sea_20 ?_
      refine th_get C hS.1 hp2 fl_RX11_400 hp16 dX11_sea_23 ?_
      refine lv_iload_n hx hb dX11_sea_26 rfl (lv_at hl 1 rfl) ?_
      refine lv_iload_n hx hb dX11_sea_27 rfl (lv_at hl 2 rfl) ?_
      refine th_govH hS rfl (th_runS (As := [.ref sd, .int se1, .int dy]) (rest := []) C hS.1 gS_RX11_108 (t_X4_put iz_se1 iz_dy hp17 (by decide)) hl rfl rfl rfl rfl ⟨Nat.le_of_ble_eq_true rfl, Nat.le_of_ble_eq_true rfl⟩ (Nat.le_of_ble_eq_true rfl) ⟨Nat.le_of_ble_eq_true rfl, Nat.le_of_ble_eq_true rfl⟩ dX11_sea_28) (fun K3686 V3687 H locs1 hq3685 hE3688 hS => ?_)
      obtain ⟨rfl, hF3689⟩ := hq3685
      refine lv_iconst (v := 1) hx hb dX11_sea_31 (by decide) ?_
      exact th_retzH (post := fun r K1 V1 => (∀ b, K b = some (0, 11) → V1 b = V b) ∧ ((((0 ≤ se1_i ∧ se1_i ≤ 3) ∧ (1 ≤ dy_i ∧ dy_i ≤ 90)) ∧ r.toInt = 1) ∨ (((0 > se1_i ∨ se1_i > 3) ∨ (1 > dy_i ∨ dy_i > 90)) ∧ r.toInt = 0))) (cells := 0) (slots := 0) (mc := 0) (ms := 0) C hS (by have hfin := li_1; omega) ⟨(fun b hb  => (hF3689 _ (by rw [hb]; exact fun h => by cases h) (K_ne hb hp17 (by decide)))), (Or.inl ⟨by omega, li_1⟩)⟩ (Nat.le_of_ble_eq_true rfl) (Nat.le_of_ble_eq_true rfl) dX11_sea_32
    · replace hq3682 := Or.resolve_left hq3682 (fun h => absurd h.2 (by omega))
      refine lv_iconst (v := 0) hx hb dX11_sea_17 (by decide) ?_
      exact th_retzH (post := fun r K1 V1 => (∀ b, K b = some (0, 11) → V1 b = V b) ∧ ((((0 ≤ se1_i ∧ se1_i ≤ 3) ∧ (1 ≤ dy_i ∧ dy_i ≤ 90)) ∧ r.toInt = 1) ∨ (((0 > se1_i ∨ se1_i > 3) ∨ (1 > dy_i ∨ dy_i > 90)) ∧ r.toInt = 0))) (cells := 0) (slots := 0) (mc := 0) (ms := 0) C hS (by have hfin := li_0; omega) ⟨(fun b hb => rfl), (Or.inr (⟨by omega, li_0⟩))⟩ (Nat.le_of_ble_eq_true rfl) (Nat.le_of_ble_eq_true rfl) dX11_sea_18

set_option maxHeartbeats 400000 in
set_option maxRecDepth 100000 in
theorem t_X11_voyage {l : Launch} {D : va_G} {dA : Nat → ClassId} {K : Kmap} {V : Vmap} {sz : Nat} {x : Nat} {sh1 se1 sn dr : Int32} {sh1_i se1_i sn_i dr_i : Int} (iz_sh1 : sh1.toInt = sh1_i) (iz_se1 : se1.toInt = se1_i) (iz_sn : sn.toInt = sn_i) (iz_dr : dr.toInt = dr_i) (F : FX K V x) : Met l yX11_voyage (wsOf yX11_voyage cX11_voyage 7 (some .boolean)) { frames := 3, cells := 0, slots := 0, locals := 66 } (PC D dA K V sz [.ref x, .int sh1, .int se1, .int sn, .int dr]) (PQi (fun r => (r.toInt = 0))) 0 0 noFree := by
  refine th_body (by decide +kernel) (Nat.le_of_ble_eq_true rfl) (fun pZ eZ sZ mZ belowZ methZ cZ C hR hsz hnm ls hl => ?_)
  have C : CX pZ sZ mZ [.ref x, .int sh1, .int se1, .int sn, .int dr].toArray methZ cZ cX11_voyage 7 (some .boolean) RX11 D dA := C
  have hx := C.1; have hb := C.2.1
  have hl : lv_has ls 7 [(0, .ref x), (1, .int sh1), (2, .int se1), (3, .int sn), (4, .int dr)] := hl
  subst hsz
  have hS : ST D dA K sZ.heap K V sZ.heap [] := ST.rf hR
  have r_sh1 := th_rng sh1; rw [iz_sh1] at r_sh1
  have r_se1 := th_rng se1; rw [iz_se1] at r_se1
  have r_sn := th_rng sn; rw [iz_sn] at r_sn
  have r_dr := th_rng dr; rw [iz_dr] at r_dr
  have F0 := F
  obtain ⟨la, he, gr, wa, fd, co, sd, lw, rd, se, st, pa, pl, t1, t2, t3, t4, t5, t6, c6, t7, c7, sp, su, hp0, hp1, hp2, hp3, hp4, hp5, hp6, hp7, hp8, hp9, hp10, hp11, hp12, hp13, hp14, hp15, hp16, hp17, hp18, hp19, hp20, hp21, hp22, hp23, hp24, hp25, hp26, hp27, hp28, hp29, hp30, hp31, hp32, hp33, hp34, hp35, hp36, hp37, hp38, hp39, hp40, hp41, hp42, hp43, hp44, hp45, hp46, hp47, hp48, hp49, hp50, hp51, hp52, hp53, hp54, hp55, hp56, hp57, hp58, hp59, hp60, hp61, hp62, hp63, hp64, hp65, hp66, hp67, hp68, hp69, hp70⟩ := F
  refine lv_aload_n hx hb dX11_voyage_0 rfl (lv_at hl 0 rfl) ?_
  refine lv_iload_n hx hb dX11_voyage_1 rfl (lv_at hl 1 rfl) ?_
  refine th_gor (th_runV (As := [.int sh1]) (rest := []) C hS.1 (RX11, TX11, 20) rfl gV_RX11_403 hp0 (t_X11_shipOf iz_sh1 hp0 hp36) hl rfl rfl rfl rfl ⟨Nat.le_of_ble_eq_true rfl, Nat.le_of_ble_eq_true rfl⟩ (Nat.le_of_ble_eq_true rfl) ⟨Nat.le_of_ble_eq_true rfl, Nat.le_of_ble_eq_true rfl⟩ dX11_voyage_2) ?_
  refine lv_astoreN (lv' := [(5, .null), (0, .ref x), (1, .int sh1), (2, .int se1), (3, .int sn), (4, .int dr)]) hx hb dX11_voyage_5 hl (by decide) rfl (fun ls hl => ?_)
  refine lv_aload_n hx hb dX11_voyage_7 rfl (lv_at hl 1 rfl) ?_
  refine lv_iload_n hx hb dX11_voyage_8 rfl (lv_at hl 4 rfl) ?_
  refine th_gor (th_runV (As := [.int sn]) (rest := []) C hS.1 (RX11, TX11, 20) rfl gV_RX11_195 hp0 (t_X11_standingStation iz_sn hp0 hp34) hl rfl rfl rfl rfl ⟨Nat.le_of_ble_eq_true rfl, Nat.le_of_ble_eq_true rfl⟩ (Nat.le_of_ble_eq_true rfl) ⟨Nat.le_of_ble_eq_true rfl, Nat.le_of_ble_eq_true rfl⟩ dX11_voyage_9) ?_
  refine lv_astoreN (lv' := [(6, .null), (5, .null), (0, .ref x), (1, .int sh1), (2, .int se1), (3, .int sn), (4, .int dr)]) hx hb dX11_voyage_12 hl (by decide) rfl (fun ls hl => ?_)
  refine lv_aloadN hx hb dX11_voyage_14 (lv_at hl 1 rfl) ?_
  refine lv_ifnullN hx hb (tgt := 45) dX11_voyage_16 (by decide) ?_
  refine lv_iconst (v := 0) hx hb dX11_voyage_45 (by decide) ?_
  exact th_retz C (by have hfin := li_0; omega) (by have hfin := li_0; omega) dX11_voyage_46

set_option maxHeartbeats 400000 in
set_option maxRecDepth 100000 in
theorem t_X11_sledge {l : Launch} {D : va_G} {dA : Nat → ClassId} {K : Kmap} {V : Vmap} {sz : Nat} {x : Nat} {fr to dr : Int32} {fr_i to_i dr_i : Int} (iz_fr : fr.toInt = fr_i) (iz_to : to.toInt = to_i) (iz_dr : dr.toInt = dr_i) (F : FX K V x) : Met l yX11_sledge (wsOf yX11_sledge cX11_sledge 8 (some .int)) { frames := 3, cells := 0, slots := 0, locals := 66 } (PC D dA K V sz [.ref x, .int fr, .int to, .int dr]) (PQi (fun r => (r.toInt = (-1)))) 0 0 noFree := by
  refine th_body (by decide +kernel) (Nat.le_of_ble_eq_true rfl) (fun pZ eZ sZ mZ belowZ methZ cZ C hR hsz hnm ls hl => ?_)
  have C : CX pZ sZ mZ [.ref x, .int fr, .int to, .int dr].toArray methZ cZ cX11_sledge 8 (some .int) RX11 D dA := C
  have hx := C.1; have hb := C.2.1
  have hl : lv_has ls 8 [(0, .ref x), (1, .int fr), (2, .int to), (3, .int dr)] := hl
  subst hsz
  have hS : ST D dA K sZ.heap K V sZ.heap [] := ST.rf hR
  have r_fr := th_rng fr; rw [iz_fr] at r_fr
  have r_to := th_rng to; rw [iz_to] at r_to
  have r_dr := th_rng dr; rw [iz_dr] at r_dr
  have F0 := F
  obtain ⟨la, he, gr, wa, fd, co, sd, lw, rd, se, st, pa, pl, t1, t2, t3, t4, t5, t6, c6, t7, c7, sp, su, hp0, hp1, hp2, hp3, hp4, hp5, hp6, hp7, hp8, hp9, hp10, hp11, hp12, hp13, hp14, hp15, hp16, hp17, hp18, hp19, hp20, hp21, hp22, hp23, hp24, hp25, hp26, hp27, hp28, hp29, hp30, hp31, hp32, hp33, hp34, hp35, hp36, hp37, hp38, hp39, hp40, hp41, hp42, hp43, hp44, hp45, hp46, hp47, hp48, hp49, hp50, hp51, hp52, hp53, hp54, hp55, hp56, hp57, hp58, hp59, hp60, hp61, hp62, hp63, hp64, hp65, hp66, hp67, hp68, hp69, hp70⟩ := F
  refine lv_aload_n hx hb dX11_sledge_0 rfl (lv_at hl 0 rfl) ?_
  refine lv_iload_n hx hb dX11_sledge_1 rfl (lv_at hl 1 rfl) ?_
  refine th_gor (th_runV (As := [.int fr]) (rest := []) C hS.1 (RX11, TX11, 20) rfl gV_RX11_195 hp0 (t_X11_standingStation iz_fr hp0 hp34) hl rfl rfl rfl rfl ⟨Nat.le_of_ble_eq_true rfl, Nat.le_of_ble_eq_true rfl⟩ (Nat.le_of_ble_eq_true rfl) ⟨Nat.le_of_ble_eq_true rfl, Nat.le_of_ble_eq_true rfl⟩ dX11_sledge_2) ?_
  refine lv_astoreN (lv' := [(4, .null), (0, .ref x), (1, .int fr), (2, .int to), (3, .int dr)]) hx hb dX11_sledge_5 hl (by decide) rfl (fun ls hl => ?_)
  refine lv_aload_n hx hb dX11_sledge_7 rfl (lv_at hl 1 rfl) ?_
  refine lv_iload_n hx hb dX11_sledge_8 rfl (lv_at hl 3 rfl) ?_
  refine th_gor (th_runV (As := [.int to]) (rest := []) C hS.1 (RX11, TX11, 20) rfl gV_RX11_195 hp0 (t_X11_standingStation iz_to hp0 hp34) hl rfl rfl rfl rfl ⟨Nat.le_of_ble_eq_true rfl, Nat.le_of_ble_eq_true rfl⟩ (Nat.le_of_ble_eq_true rfl) ⟨Nat.le_of_ble_eq_true rfl, Nat.le_of_ble_eq_true rfl⟩ dX11_sledge_9) ?_
  refine lv_astoreN (lv' := [(5, .null), (4, .null), (0, .ref x), (1, .int fr), (2, .int to), (3, .int dr)]) hx hb dX11_sledge_12 hl (by decide) rfl (fun ls hl => ?_)
  refine lv_aloadN hx hb dX11_sledge_14 (lv_at hl 1 rfl) ?_
  refine lv_ifnullN hx hb (tgt := 42) dX11_sledge_16 (by decide) ?_
  refine lv_iconst (v := (-1)) hx hb dX11_sledge_42 (by decide) ?_
  exact th_reti C (by have hfin := li_n1; omega) dX11_sledge_43

set_option maxHeartbeats 400000 in
set_option maxRecDepth 100000 in
theorem t_X11_people {l : Launch} {D : va_G} {dA : Nat → ClassId} {K : Kmap} {V : Vmap} {sz : Nat} {x : Nat} {k n : Int32} {k_i n_i : Int} (iz_k : k.toInt = k_i) (iz_n : n.toInt = n_i) (F : FX K V x) : Met l yX11_people (wsOf yX11_people cX11_people 4 (some .boolean)) { frames := 3, cells := 0, slots := 0, locals := 66 } (PC D dA K V sz [.ref x, .int k, .int n]) (PQi (fun r => (r.toInt = 0))) 0 0 noFree := by
  refine th_body (by decide +kernel) (Nat.le_of_ble_eq_true rfl) (fun pZ eZ sZ mZ belowZ methZ cZ C hR hsz hnm ls hl => ?_)
  have C : CX pZ sZ mZ [.ref x, .int k, .int n].toArray methZ cZ cX11_people 4 (some .boolean) RX11 D dA := C
  have hx := C.1; have hb := C.2.1
  have hl : lv_has ls 4 [(0, .ref x), (1, .int k), (2, .int n)] := hl
  subst hsz
  have hS : ST D dA K sZ.heap K V sZ.heap [] := ST.rf hR
  have r_k := th_rng k; rw [iz_k] at r_k
  have r_n := th_rng n; rw [iz_n] at r_n
  have F0 := F
  obtain ⟨la, he, gr, wa, fd, co, sd, lw, rd, se, st, pa, pl, t1, t2, t3, t4, t5, t6, c6, t7, c7, sp, su, hp0, hp1, hp2, hp3, hp4, hp5, hp6, hp7, hp8, hp9, hp10, hp11, hp12, hp13, hp14, hp15, hp16, hp17, hp18, hp19, hp20, hp21, hp22, hp23, hp24, hp25, hp26, hp27, hp28, hp29, hp30, hp31, hp32, hp33, hp34, hp35, hp36, hp37, hp38, hp39, hp40, hp41, hp42, hp43, hp44, hp45, hp46, hp47, hp48, hp49, hp50, hp51, hp52, hp53, hp54, hp55, hp56, hp57, hp58, hp59, hp60, hp61, hp62, hp63, hp64, hp65, hp66, hp67, hp68, hp69, hp70⟩ := F
  refine lv_aload_n hx hb dX11_people_0 rfl (lv_at hl 0 rfl) ?_
  refine lv_iload_n hx hb dX11_people_1 rfl (lv_at hl 1 rfl) ?_
  refine th_gor (th_runV (As := [.int k]) (rest := []) C hS.1 (RX11, TX11, 20) rfl gV_RX11_195 hp0 (t_X11_standingStation iz_k hp0 hp34) hl rfl rfl rfl rfl ⟨Nat.le_of_ble_eq_true rfl, Nat.le_of_ble_eq_true rfl⟩ (Nat.le_of_ble_eq_true rfl) ⟨Nat.le_of_ble_eq_true rfl, Nat.le_of_ble_eq_true rfl⟩ dX11_people_2) ?_
  refine lv_astore_nN (lv' := [(3, .null), (0, .ref x), (1, .int k), (2, .int n)]) hx hb dX11_people_5 rfl hl (by decide) rfl (fun ls hl => ?_)
  refine lv_aload_nN hx hb dX11_people_6 rfl (lv_at hl 0 rfl) ?_
  refine lv_ifnullN hx hb (tgt := 39) dX11_people_7 (by decide) ?_
  refine lv_iconst (v := 0) hx hb dX11_people_39 (by decide) ?_
  exact th_retz C (by have hfin := li_0; omega) (by have hfin := li_0; omega) dX11_people_40

set_option maxHeartbeats 400000 in
set_option maxRecDepth 100000 in
theorem t_X11_hide {l : Launch} {D : va_G} {dA : Nat → ClassId} {K : Kmap} {V : Vmap} {sz : Nat} {x : Nat} {k n : Int32} {k_i n_i : Int} (iz_k : k.toInt = k_i) (iz_n : n.toInt = n_i) (F : FX K V x) : Met l yX11_hide (wsOf yX11_hide cX11_hide 4 (some .boolean)) { frames := 3, cells := 0, slots := 0, locals := 66 } (PC D dA K V sz [.ref x, .int k, .int n]) (PQi (fun r => (r.toInt = 0))) 0 0 noFree := by
  refine th_body (by decide +kernel) (Nat.le_of_ble_eq_true rfl) (fun pZ eZ sZ mZ belowZ methZ cZ C hR hsz hnm ls hl => ?_)
  have C : CX pZ sZ mZ [.ref x, .int k, .int n].toArray methZ cZ cX11_hide 4 (some .boolean) RX11 D dA := C
  have hx := C.1; have hb := C.2.1
  have hl : lv_has ls 4 [(0, .ref x), (1, .int k), (2, .int n)] := hl
  subst hsz
  have hS : ST D dA K sZ.heap K V sZ.heap [] := ST.rf hR
  have r_k := th_rng k; rw [iz_k] at r_k
  have r_n := th_rng n; rw [iz_n] at r_n
  have F0 := F
  obtain ⟨la, he, gr, wa, fd, co, sd, lw, rd, se, st, pa, pl, t1, t2, t3, t4, t5, t6, c6, t7, c7, sp, su, hp0, hp1, hp2, hp3, hp4, hp5, hp6, hp7, hp8, hp9, hp10, hp11, hp12, hp13, hp14, hp15, hp16, hp17, hp18, hp19, hp20, hp21, hp22, hp23, hp24, hp25, hp26, hp27, hp28, hp29, hp30, hp31, hp32, hp33, hp34, hp35, hp36, hp37, hp38, hp39, hp40, hp41, hp42, hp43, hp44, hp45, hp46, hp47, hp48, hp49, hp50, hp51, hp52, hp53, hp54, hp55, hp56, hp57, hp58, hp59, hp60, hp61, hp62, hp63, hp64, hp65, hp66, hp67, hp68, hp69, hp70⟩ := F
  refine lv_aload_n hx hb dX11_hide_0 rfl (lv_at hl 0 rfl) ?_
  refine lv_iload_n hx hb dX11_hide_1 rfl (lv_at hl 1 rfl) ?_
  refine th_gor (th_runV (As := [.int k]) (rest := []) C hS.1 (RX11, TX11, 20) rfl gV_RX11_195 hp0 (t_X11_standingStation iz_k hp0 hp34) hl rfl rfl rfl rfl ⟨Nat.le_of_ble_eq_true rfl, Nat.le_of_ble_eq_true rfl⟩ (Nat.le_of_ble_eq_true rfl) ⟨Nat.le_of_ble_eq_true rfl, Nat.le_of_ble_eq_true rfl⟩ dX11_hide_2) ?_
  refine lv_astore_nN (lv' := [(3, .null), (0, .ref x), (1, .int k), (2, .int n)]) hx hb dX11_hide_5 rfl hl (by decide) rfl (fun ls hl => ?_)
  refine lv_aload_nN hx hb dX11_hide_6 rfl (lv_at hl 0 rfl) ?_
  refine lv_ifnullN hx hb (tgt := 27) dX11_hide_7 (by decide) ?_
  refine lv_iconst (v := 0) hx hb dX11_hide_27 (by decide) ?_
  exact th_retz C (by have hfin := li_0; omega) (by have hfin := li_0; omega) dX11_hide_28

set_option maxHeartbeats 400000 in
set_option maxRecDepth 100000 in
theorem t_X11_declare {l : Launch} {D : va_G} {dA : Nat → ClassId} {K : Kmap} {V : Vmap} {sz : Nat} {x : Nat} {k pe dr : Int32} {k_i pe_i dr_i : Int} (iz_k : k.toInt = k_i) (iz_pe : pe.toInt = pe_i) (iz_dr : dr.toInt = dr_i) (F : FX K V x) : Met l yX11_declare (wsOf yX11_declare cX11_declare 5 (some .boolean)) { frames := 2, cells := 0, slots := 0, locals := 44 } (PC D dA K V sz [.ref x, .int k, .int pe, .int dr]) (PQi (fun r => (r.toInt = 0))) 0 0 noFree := by
  refine th_body (by decide +kernel) (Nat.le_of_ble_eq_true rfl) (fun pZ eZ sZ mZ belowZ methZ cZ C hR hsz hnm ls hl => ?_)
  have C : CX pZ sZ mZ [.ref x, .int k, .int pe, .int dr].toArray methZ cZ cX11_declare 5 (some .boolean) RX11 D dA := C
  have hx := C.1; have hb := C.2.1
  have hl : lv_has ls 5 [(0, .ref x), (1, .int k), (2, .int pe), (3, .int dr)] := hl
  subst hsz
  have hS : ST D dA K sZ.heap K V sZ.heap [] := ST.rf hR
  have r_k := th_rng k; rw [iz_k] at r_k
  have r_pe := th_rng pe; rw [iz_pe] at r_pe
  have r_dr := th_rng dr; rw [iz_dr] at r_dr
  have F0 := F
  obtain ⟨la, he, gr, wa, fd, co, sd, lw, rd, se, st, pa, pl, t1, t2, t3, t4, t5, t6, c6, t7, c7, sp, su, hp0, hp1, hp2, hp3, hp4, hp5, hp6, hp7, hp8, hp9, hp10, hp11, hp12, hp13, hp14, hp15, hp16, hp17, hp18, hp19, hp20, hp21, hp22, hp23, hp24, hp25, hp26, hp27, hp28, hp29, hp30, hp31, hp32, hp33, hp34, hp35, hp36, hp37, hp38, hp39, hp40, hp41, hp42, hp43, hp44, hp45, hp46, hp47, hp48, hp49, hp50, hp51, hp52, hp53, hp54, hp55, hp56, hp57, hp58, hp59, hp60, hp61, hp62, hp63, hp64, hp65, hp66, hp67, hp68, hp69, hp70⟩ := F
  refine lv_aload_n hx hb dX11_declare_0 rfl (lv_at hl 0 rfl) ?_
  refine lv_iload_n hx hb dX11_declare_1 rfl (lv_at hl 1 rfl) ?_
  refine lv_iconst (v := 1) hx hb dX11_declare_2 (by decide) ?_
  refine th_gor (th_runV (As := [.int k, .int 1]) (rest := []) C hS.1 (RX11, TX11, 20) rfl gV_RX11_169 hp0 (t_X11_placeOf iz_k li_1 hp0 hp34) hl rfl rfl rfl rfl ⟨Nat.le_of_ble_eq_true rfl, Nat.le_of_ble_eq_true rfl⟩ (Nat.le_of_ble_eq_true rfl) ⟨Nat.le_of_ble_eq_true rfl, Nat.le_of_ble_eq_true rfl⟩ dX11_declare_3) ?_
  refine lv_astoreN (lv' := [(4, .null), (0, .ref x), (1, .int k), (2, .int pe), (3, .int dr)]) hx hb dX11_declare_6 hl (by decide) rfl (fun ls hl => ?_)
  refine lv_aloadN hx hb dX11_declare_8 (lv_at hl 0 rfl) ?_
  refine lv_ifnullN hx hb (tgt := 35) dX11_declare_10 (by decide) ?_
  refine lv_iconst (v := 0) hx hb dX11_declare_35 (by decide) ?_
  exact th_retz C (by have hfin := li_0; omega) (by have hfin := li_0; omega) dX11_declare_36

set_option maxHeartbeats 400000 in
set_option maxRecDepth 100000 in
theorem t_X11_visit {l : Launch} {D : va_G} {dA : Nat → ClassId} {K : Kmap} {V : Vmap} {sz : Nat} {x : Nat} {p k : Int32} {p_i k_i : Int} (iz_p : p.toInt = p_i) (iz_k : k.toInt = k_i) (F : FX K V x) : Met l yX11_visit (wsOf yX11_visit cX11_visit 6 (some .int)) { frames := 3, cells := 0, slots := 0, locals := 66 } (PC D dA K V sz [.ref x, .int p, .int k]) (PQi (fun r => (r.toInt = (-1)))) 0 0 noFree := by
  refine th_body (by decide +kernel) (Nat.le_of_ble_eq_true rfl) (fun pZ eZ sZ mZ belowZ methZ cZ C hR hsz hnm ls hl => ?_)
  have C : CX pZ sZ mZ [.ref x, .int p, .int k].toArray methZ cZ cX11_visit 6 (some .int) RX11 D dA := C
  have hx := C.1; have hb := C.2.1
  have hl : lv_has ls 6 [(0, .ref x), (1, .int p), (2, .int k)] := hl
  subst hsz
  have hS : ST D dA K sZ.heap K V sZ.heap [] := ST.rf hR
  have r_p := th_rng p; rw [iz_p] at r_p
  have r_k := th_rng k; rw [iz_k] at r_k
  have F0 := F
  obtain ⟨la, he, gr, wa, fd, co, sd, lw, rd, se, st, pa, pl, t1, t2, t3, t4, t5, t6, c6, t7, c7, sp, su, hp0, hp1, hp2, hp3, hp4, hp5, hp6, hp7, hp8, hp9, hp10, hp11, hp12, hp13, hp14, hp15, hp16, hp17, hp18, hp19, hp20, hp21, hp22, hp23, hp24, hp25, hp26, hp27, hp28, hp29, hp30, hp31, hp32, hp33, hp34, hp35, hp36, hp37, hp38, hp39, hp40, hp41, hp42, hp43, hp44, hp45, hp46, hp47, hp48, hp49, hp50, hp51, hp52, hp53, hp54, hp55, hp56, hp57, hp58, hp59, hp60, hp61, hp62, hp63, hp64, hp65, hp66, hp67, hp68, hp69, hp70⟩ := F
  refine lv_aload_n hx hb dX11_visit_0 rfl (lv_at hl 0 rfl) ?_
  refine lv_iload_n hx hb dX11_visit_1 rfl (lv_at hl 1 rfl) ?_
  refine th_gor (th_runV (As := [.int p]) (rest := []) C hS.1 (RX11, TX11, 20) rfl gV_RX11_151 hp0 (t_X11_partyOf iz_p hp0 hp31) hl rfl rfl rfl rfl ⟨Nat.le_of_ble_eq_true rfl, Nat.le_of_ble_eq_true rfl⟩ (Nat.le_of_ble_eq_true rfl) ⟨Nat.le_of_ble_eq_true rfl, Nat.le_of_ble_eq_true rfl⟩ dX11_visit_2) ?_
  refine lv_astore_nN (lv' := [(3, .null), (0, .ref x), (1, .int p), (2, .int k)]) hx hb dX11_visit_5 rfl hl (by decide) rfl (fun ls hl => ?_)
  refine lv_aload_n hx hb dX11_visit_6 rfl (lv_at hl 1 rfl) ?_
  refine lv_iload_n hx hb dX11_visit_7 rfl (lv_at hl 3 rfl) ?_
  refine th_gor (th_runV (As := [.int k]) (rest := []) C hS.1 (RX11, TX11, 20) rfl gV_RX11_195 hp0 (t_X11_standingStation iz_k hp0 hp34) hl rfl rfl rfl rfl ⟨Nat.le_of_ble_eq_true rfl, Nat.le_of_ble_eq_true rfl⟩ (Nat.le_of_ble_eq_true rfl) ⟨Nat.le_of_ble_eq_true rfl, Nat.le_of_ble_eq_true rfl⟩ dX11_visit_8) ?_
  refine lv_astoreN (lv' := [(4, .null), (3, .null), (0, .ref x), (1, .int p), (2, .int k)]) hx hb dX11_visit_11 hl (by decide) rfl (fun ls hl => ?_)
  refine lv_aload_nN hx hb dX11_visit_13 rfl (lv_at hl 1 rfl) ?_
  refine lv_ifnullN hx hb (tgt := 45) dX11_visit_14 (by decide) ?_
  refine lv_iconst (v := (-1)) hx hb dX11_visit_45 (by decide) ?_
  exact th_reti C (by have hfin := li_n1; omega) dX11_visit_46

set_option maxHeartbeats 400000 in
set_option maxRecDepth 100000 in
theorem t_X11_seen {l : Launch} {D : va_G} {dA : Nat → ClassId} {K : Kmap} {V : Vmap} {sz : Nat} {x : Nat} {v wh : Int32} {v_i wh_i : Int} (iz_v : v.toInt = v_i) (iz_wh : wh.toInt = wh_i) (F : FX K V x) : Met l yX11_seen (wsOf yX11_seen cX11_seen 3 (some .int)) { frames := 1, cells := 0, slots := 0, locals := 21 } (PC D dA K V sz [.ref x, .int v, .int wh]) (PQi (fun r => (r.toInt = (-1000000)))) 0 0 noFree := by
  refine th_body (by decide +kernel) (Nat.le_of_ble_eq_true rfl) (fun pZ eZ sZ mZ belowZ methZ cZ C hR hsz hnm ls hl => ?_)
  have C : CX pZ sZ mZ [.ref x, .int v, .int wh].toArray methZ cZ cX11_seen 3 (some .int) RX11 D dA := C
  have hx := C.1; have hb := C.2.1
  have hl : lv_has ls 3 [(0, .ref x), (1, .int v), (2, .int wh)] := hl
  subst hsz
  have hS : ST D dA K sZ.heap K V sZ.heap [] := ST.rf hR
  have r_v := th_rng v; rw [iz_v] at r_v
  have r_wh := th_rng wh; rw [iz_wh] at r_wh
  have F0 := F
  obtain ⟨la, he, gr, wa, fd, co, sd, lw, rd, se, st, pa, pl, t1, t2, t3, t4, t5, t6, c6, t7, c7, sp, su, hp0, hp1, hp2, hp3, hp4, hp5, hp6, hp7, hp8, hp9, hp10, hp11, hp12, hp13, hp14, hp15, hp16, hp17, hp18, hp19, hp20, hp21, hp22, hp23, hp24, hp25, hp26, hp27, hp28, hp29, hp30, hp31, hp32, hp33, hp34, hp35, hp36, hp37, hp38, hp39, hp40, hp41, hp42, hp43, hp44, hp45, hp46, hp47, hp48, hp49, hp50, hp51, hp52, hp53, hp54, hp55, hp56, hp57, hp58, hp59, hp60, hp61, hp62, hp63, hp64, hp65, hp66, hp67, hp68, hp69, hp70⟩ := F
  refine lv_aload_n hx hb dX11_seen_0 rfl (lv_at hl 0 rfl) ?_
  refine th_get C hS.1 hp0 fl_RX11_76 hp40 dX11_seen_1 ?_
  refine lv_iload_n hx hb dX11_seen_4 rfl (lv_at hl 1 rfl) ?_
  refine th_goi (th_runV (As := [.int v]) (rest := []) C hS.1 (RX8, TX8, 4) rfl gV_RX11_431 hp41 (t_X8_has iz_v hp41 hp42) hl rfl rfl rfl rfl ⟨Nat.le_of_ble_eq_true rfl, Nat.le_of_ble_eq_true rfl⟩ (Nat.le_of_ble_eq_true rfl) ⟨Nat.le_of_ble_eq_true rfl, Nat.le_of_ble_eq_true rfl⟩ dX11_seen_5) (fun r3709 hq3710 => ?_)
  refine th_if_eq (X := r3709.toInt) (tgt := 20) hx hb dX11_seen_8 (by decide) rfl (fun c3711 => ?_) (fun c3711 => absurd c3711 (by omega))
  refine lv_ldcw (v := (-1000000)) hx hb C.2.2.2.2.2.1 (C.2.2.2.2.2.2.1 _ gw_1169) dX11_seen_20 ?_
  exact th_reti C (by have hfin := li_n1000000; omega) dX11_seen_23

set_option maxHeartbeats 400000 in
set_option maxRecDepth 100000 in
theorem t_X11_day {l : Launch} {D : va_G} {dA : Nat → ClassId} {K : Kmap} {V : Vmap} {sz : Nat} {x : Nat} (F : FX K V x) : Met l yX11_day (wsOf yX11_day cX11_day 2 (some .int)) { frames := 1, cells := 0, slots := 0, locals := 23 } (PC D dA K V sz [.ref x]) (HQi D dA K (fun r K1 V1 => (∀ b, K b = some (0, 11) → V1 b = V b) ∧ ((r.toInt = 1)))) 0 0 (AK K sz) := by
  refine th_body (by decide +kernel) (Nat.le_of_ble_eq_true rfl) (fun pZ eZ sZ mZ belowZ methZ cZ C hR hsz hnm ls hl => ?_)
  have C : CX pZ sZ mZ [.ref x].toArray methZ cZ cX11_day 2 (some .int) RX11 D dA := C
  have hx := C.1; have hb := C.2.1
  have hl : lv_has ls 2 [(0, .ref x)] := hl
  subst hsz
  have hS : ST D dA K sZ.heap K V sZ.heap [] := ST.rf hR
  have F0 := F
  obtain ⟨la, he, gr, wa, fd, co, sd, lw, rd, se, st, pa, pl, t1, t2, t3, t4, t5, t6, c6, t7, c7, sp, su, hp0, hp1, hp2, hp3, hp4, hp5, hp6, hp7, hp8, hp9, hp10, hp11, hp12, hp13, hp14, hp15, hp16, hp17, hp18, hp19, hp20, hp21, hp22, hp23, hp24, hp25, hp26, hp27, hp28, hp29, hp30, hp31, hp32, hp33, hp34, hp35, hp36, hp37, hp38, hp39, hp40, hp41, hp42, hp43, hp44, hp45, hp46, hp47, hp48, hp49, hp50, hp51, hp52, hp53, hp54, hp55, hp56, hp57, hp58, hp59, hp60, hp61, hp62, hp63, hp64, hp65, hp66, hp67, hp68, hp69, hp70⟩ := F
  refine lv_aload_n hx hb dX11_day_0 rfl (lv_at hl 0 rfl) ?_
  refine th_get C hS.1 hp0 fl_RX11_12 hp1 dX11_day_1 ?_
  refine th_get C hS.1 hp2 fl_RX11_145 hp3 dX11_day_4 ?_
  refine lv_sipush (v := 3599) hx hb dX11_day_7 (by decide) ?_
  refine th_icmp_lt (X := 0) (Y := 3599) (tgt := 15) hx hb dX11_day_10 (by decide) li_0 li_3599 (fun c3712 => ?_) (fun c3712 => absurd c3712 (by omega))
  refine lv_aload_n hx hb dX11_day_15 rfl (lv_at hl 0 rfl) ?_
  refine th_get C hS.1 hp0 fl_RX11_12 hp1 dX11_day_16 ?_
  refine lv_dup hx hb dX11_day_19 rfl ?_
  refine th_get C hS.1 hp2 fl_RX11_145 hp3 dX11_day_20 ?_
  refine lv_iconst (v := 1) hx hb dX11_day_23 (by decide) ?_
  refine lv_iadd hx hb dX11_day_24 ?_
  refine th_is (w := .int 1) (by decide) ?_
  refine th_put C hS hp2 fp_RX11_145 rfl rfl dX11_day_25 (fun V3713 H locs1 hV3714 hS => ?_)
  refine lv_aload_n hx hb dX11_day_28 rfl (lv_at hl 0 rfl) ?_
  have hv3715 : V3713 x 2 = .ref se := Eq.trans (uq_ne hV3714 (Or.inl (K_ne hp0 hp2 (by decide)))) hp24
  refine th_get C hS.1 hp0 fl_RX11_26 hv3715 dX11_day_29 ?_
  refine th_govH hS rfl (th_runV (As := []) (rest := []) C hS.1 (RX6, TX6, 10) rfl gV_RX11_435 hp25 (t_X6_forget hp25) hl rfl rfl rfl rfl ⟨Nat.le_of_ble_eq_true rfl, Nat.le_of_ble_eq_true rfl⟩ (Nat.le_of_ble_eq_true rfl) ⟨Nat.le_of_ble_eq_true rfl, Nat.le_of_ble_eq_true rfl⟩ dX11_day_32) (fun K3718 V3719 H locs1 hq3717 hE3720 hS => ?_)
  obtain ⟨rfl, hF3721⟩ := hq3717
  refine lv_iconst (v := 0) hx hb dX11_day_35 (by decide) ?_
  refine lv_istore_n (lv' := [(1, .int 0), (0, .ref x)]) hx hb dX11_day_36 rfl hl (by decide) rfl (fun ls hl => ?_)
  refine lv_iload_n hx hb dX11_day_37 rfl (lv_at hl 0 rfl) ?_
  refine lv_aload_n hx hb dX11_day_38 rfl (lv_at hl 1 rfl) ?_
  have hv3723 : V3713 x 8 = .int 0 := Eq.trans (uq_ne hV3714 (Or.inl (K_ne hp0 hp2 (by decide)))) hp35
  have hv3724 : V3719 x 8 = .int 0 := Eq.trans (congrFun (hF3721 _ (by rw [hp0]; exact fun h => by cases h) (K_ne hp0 hp25 (by decide))) 8) hv3723
  refine th_get C hS.1 hp0 fl_RX11_55 hv3724 dX11_day_39 ?_
  refine th_icmp_ge (X := 0) (Y := 0) (tgt := 56) hx hb dX11_day_42 (by decide) li_0 li_0 (fun c3725 => ?_) (fun c3725 => absurd c3725 (by omega))
  refine lv_aload_n hx hb dX11_day_56 rfl (lv_at hl 1 rfl) ?_
  have hv3726 : V3713 x 4 = .int 0 := Eq.trans (uq_ne hV3714 (Or.inl (K_ne hp0 hp2 (by decide)))) hp31
  have hv3727 : V3719 x 4 = .int 0 := Eq.trans (congrFun (hF3721 _ (by rw [hp0]; exact fun h => by cases h) (K_ne hp0 hp25 (by decide))) 4) hv3726
  refine th_gov (th_runV (As := []) (rest := []) C hS.1 (RX11, TX11, 20) rfl gV_RX11_439 hp0 (t_X11_admitParties hp0 hv3727) hl rfl rfl rfl rfl ⟨Nat.le_of_ble_eq_true rfl, Nat.le_of_ble_eq_true rfl⟩ (Nat.le_of_ble_eq_true rfl) ⟨Nat.le_of_ble_eq_true rfl, Nat.le_of_ble_eq_true rfl⟩ dX11_day_57) ?_
  refine lv_iconst (v := 0) hx hb dX11_day_60 (by decide) ?_
  refine lv_istore_n (lv' := [(1, .int 0), (0, .ref x)]) hx hb dX11_day_61 rfl hl (by decide) rfl (fun ls hl => ?_)
  refine lv_iload_n hx hb dX11_day_62 rfl (lv_at hl 0 rfl) ?_
  refine lv_aload_n hx hb dX11_day_63 rfl (lv_at hl 1 rfl) ?_
  have hv3730 : V3713 x 6 = .int 0 := Eq.trans (uq_ne hV3714 (Or.inl (K_ne hp0 hp2 (by decide)))) hp34
  have hv3731 : V3719 x 6 = .int 0 := Eq.trans (congrFun (hF3721 _ (by rw [hp0]; exact fun h => by cases h) (K_ne hp0 hp25 (by decide))) 6) hv3730
  refine th_get C hS.1 hp0 fl_RX11_46 hv3731 dX11_day_64 ?_
  refine th_icmp_ge (X := 0) (Y := 0) (tgt := 81) hx hb dX11_day_67 (by decide) li_0 li_0 (fun c3732 => ?_) (fun c3732 => absurd c3732 (by omega))
  refine lv_iconst (v := 0) hx hb dX11_day_81 (by decide) ?_
  refine lv_istore_n (lv' := [(1, .int 0), (0, .ref x)]) hx hb dX11_day_82 rfl hl (by decide) rfl (fun ls hl => ?_)
  refine lv_iload_n hx hb dX11_day_83 rfl (lv_at hl 0 rfl) ?_
  refine lv_aload_n hx hb dX11_day_84 rfl (lv_at hl 1 rfl) ?_
  have hv3733 : V3713 x 10 = .int 0 := Eq.trans (uq_ne hV3714 (Or.inl (K_ne hp0 hp2 (by decide)))) hp36
  have hv3734 : V3719 x 10 = .int 0 := Eq.trans (congrFun (hF3721 _ (by rw [hp0]; exact fun h => by cases h) (K_ne hp0 hp25 (by decide))) 10) hv3733
  refine th_get C hS.1 hp0 fl_RX11_64 hv3734 dX11_day_85 ?_
  refine th_icmp_ge (X := 0) (Y := 0) (tgt := 106) hx hb dX11_day_88 (by decide) li_0 li_0 (fun c3735 => ?_) (fun c3735 => absurd c3735 (by omega))
  refine lv_iconst (v := 0) hx hb dX11_day_106 (by decide) ?_
  refine lv_istore_n (lv' := [(1, .int 0), (0, .ref x)]) hx hb dX11_day_107 rfl hl (by decide) rfl (fun ls hl => ?_)
  refine lv_iload_n hx hb dX11_day_108 rfl (lv_at hl 0 rfl) ?_
  refine lv_aload_n hx hb dX11_day_109 rfl (lv_at hl 1 rfl) ?_
  have hv3736 : V3713 x 11 = .ref t1 := Eq.trans (uq_ne hV3714 (Or.inl (K_ne hp0 hp2 (by decide)))) hp37
  have hv3737 : V3719 x 11 = .ref t1 := Eq.trans (congrFun (hF3721 _ (by rw [hp0]; exact fun h => by cases h) (K_ne hp0 hp25 (by decide))) 11) hv3736
  refine th_get C hS.1 hp0 fl_RX11_72 hv3737 dX11_day_110 ?_
  have hv3738 : V3713 t1 3 = .int 0 := Eq.trans (uq_ne hV3714 (Or.inl (K_ne hp38 hp2 (by decide)))) hp39
  have hv3739 : V3719 t1 3 = .int 0 := Eq.trans (congrFun (hF3721 _ (by rw [hp38]; exact fun h => by cases h) (K_ne hp38 hp25 (by decide))) 3) hv3738
  refine th_get C hS.1 hp38 fl_RX11_199 hv3739 dX11_day_113 ?_
  refine th_icmp_ge (X := 0) (Y := 0) (tgt := 130) hx hb dX11_day_116 (by decide) li_0 li_0 (fun c3740 => ?_) (fun c3740 => absurd c3740 (by omega))
  refine lv_aload_n hx hb dX11_day_130 rfl (lv_at hl 1 rfl) ?_
  have hv3741 : V3713 x 0 = .ref la := Eq.trans (uq_ne hV3714 (Or.inl (K_ne hp0 hp2 (by decide)))) hp1
  have hv3742 : V3719 x 0 = .ref la := Eq.trans (congrFun (hF3721 _ (by rw [hp0]; exact fun h => by cases h) (K_ne hp0 hp25 (by decide))) 0) hv3741
  refine th_get C hS.1 hp0 fl_RX11_12 hv3742 dX11_day_131 ?_
  have hv3743 : V3719 la 0 = .int 1 := Eq.trans (congrFun (hF3721 _ (by rw [hp2]; exact fun h => by cases h) (K_ne hp2 hp25 (by decide))) 0) (uq_same hV3714)
  refine th_get C hS.1 hp2 fl_RX11_145 hv3743 dX11_day_134 ?_
  exact th_retiH (post := fun r K1 V1 => (∀ b, K b = some (0, 11) → V1 b = V b) ∧ ((r.toInt = 1))) (cells := 0) (slots := 0) (mc := 0) (ms := 0) C hS ⟨(fun b hb  => Eq.trans (hF3721 _ (by rw [hb]; exact fun h => by cases h) (K_ne hb hp25 (by decide))) ((uq_other hV3714 (K_ne hb hp2 (by decide))))), (by have hfin := li_1; omega)⟩ (Nat.le_of_ble_eq_true rfl) (Nat.le_of_ble_eq_true rfl) dX11_day_137
