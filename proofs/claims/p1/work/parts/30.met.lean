set_option maxHeartbeats 400000 in
set_option maxRecDepth 100000 in
theorem t_X11_sound {l : Launch} {D : va_G} {dA : Nat → ClassId} {K : Kmap} {V : Vmap} {sz : Nat} {x : Nat} {k de wr : Int32} {k_i de_i wr_i : Int} (iz_k : k.toInt = k_i) (iz_de : de.toInt = de_i) (iz_wr : wr.toInt = wr_i) (F : FX K V x) : Met l yX11_sound (wsOf yX11_sound cX11_sound 5 (some .boolean)) { frames := 2, cells := 0, slots := 0, locals := 44 } (PC D dA K V sz [.ref x, .int k, .int de, .int wr]) (PQi (fun r => (r.toInt = 0))) 0 0 noFree := by
  refine th_body (by decide +kernel) (Nat.le_of_ble_eq_true rfl) (fun pZ eZ sZ mZ belowZ methZ cZ C hR hsz hnm ls hl => ?_)
  have C : CX pZ sZ mZ [.ref x, .int k, .int de, .int wr].toArray methZ cZ cX11_sound 5 (some .boolean) RX11 D dA := C
  have hx := C.1; have hb := C.2.1
  have hl : lv_has ls 5 [(0, .ref x), (1, .int k), (2, .int de), (3, .int wr)] := hl
  subst hsz
  have hS : ST D dA K sZ.heap K V sZ.heap [] := ST.rf hR
  have r_k := th_rng k; rw [iz_k] at r_k
  have r_de := th_rng de; rw [iz_de] at r_de
  have r_wr := th_rng wr; rw [iz_wr] at r_wr
  have F0 := F
  obtain ⟨la, he, gr, wa, fd, co, sd, lw, rd, se, st, pa, pl, t1, t2, t3, t4, t5, t6, c6, t7, c7, sp, su, hp0, hp1, hp2, hp3, hp4, hp5, hp6, hp7, hp8, hp9, hp10, hp11, hp12, hp13, hp14, hp15, hp16, hp17, hp18, hp19, hp20, hp21, hp22, hp23, hp24, hp25, hp26, hp27, hp28, hp29, hp30, hp31, hp32, hp33, hp34, hp35, hp36, hp37, hp38, hp39, hp40, hp41, hp42, hp43, hp44, hp45, hp46, hp47, hp48, hp49, hp50, hp51, hp52, hp53, hp54, hp55, hp56, hp57, hp58, hp59, hp60, hp61, hp62, hp63, hp64, hp65, hp66, hp67, hp68, hp69, hp70⟩ := F
  refine lv_aload_n hx hb dX11_sound_0 rfl (lv_at hl 0 rfl) ?_
  refine lv_iload_n hx hb dX11_sound_1 rfl (lv_at hl 1 rfl) ?_
  refine lv_iconst (v := 4) hx hb dX11_sound_2 (by decide) ?_
  refine th_gor (th_runV (As := [.int k, .int 4]) (rest := []) C hS.1 (RX11, TX11, 20) rfl gV_RX11_169 hp0 (t_X11_placeOf iz_k li_4 hp0 hp34) hl rfl rfl rfl rfl ⟨Nat.le_of_ble_eq_true rfl, Nat.le_of_ble_eq_true rfl⟩ (Nat.le_of_ble_eq_true rfl) ⟨Nat.le_of_ble_eq_true rfl, Nat.le_of_ble_eq_true rfl⟩ dX11_sound_3) ?_
  refine lv_astoreN (lv' := [(4, .null), (0, .ref x), (1, .int k), (2, .int de), (3, .int wr)]) hx hb dX11_sound_6 hl (by decide) rfl (fun ls hl => ?_)
  refine lv_aloadN hx hb dX11_sound_8 (lv_at hl 0 rfl) ?_
  refine lv_ifnullN hx hb (tgt := 35) dX11_sound_10 (by decide) ?_
  refine lv_iconst (v := 0) hx hb dX11_sound_35 (by decide) ?_
  exact th_retz C (by have hfin := li_0; omega) (by have hfin := li_0; omega) dX11_sound_36

set_option maxHeartbeats 400000 in
set_option maxRecDepth 100000 in
theorem t_X11_sure {l : Launch} {D : va_G} {dA : Nat → ClassId} {K : Kmap} {V : Vmap} {sz : Nat} {x : Nat} {k : Int32} {k_i : Int} (iz_k : k.toInt = k_i) (F : FX K V x) : Met l yX11_sure (wsOf yX11_sure cX11_sure 3 (some .int)) { frames := 2, cells := 0, slots := 0, locals := 44 } (PC D dA K V sz [.ref x, .int k]) (PQi (fun r => (r.toInt = (-1)))) 0 0 noFree := by
  refine th_body (by decide +kernel) (Nat.le_of_ble_eq_true rfl) (fun pZ eZ sZ mZ belowZ methZ cZ C hR hsz hnm ls hl => ?_)
  have C : CX pZ sZ mZ [.ref x, .int k].toArray methZ cZ cX11_sure 3 (some .int) RX11 D dA := C
  have hx := C.1; have hb := C.2.1
  have hl : lv_has ls 3 [(0, .ref x), (1, .int k)] := hl
  subst hsz
  have hS : ST D dA K sZ.heap K V sZ.heap [] := ST.rf hR
  have r_k := th_rng k; rw [iz_k] at r_k
  have F0 := F
  obtain ⟨la, he, gr, wa, fd, co, sd, lw, rd, se, st, pa, pl, t1, t2, t3, t4, t5, t6, c6, t7, c7, sp, su, hp0, hp1, hp2, hp3, hp4, hp5, hp6, hp7, hp8, hp9, hp10, hp11, hp12, hp13, hp14, hp15, hp16, hp17, hp18, hp19, hp20, hp21, hp22, hp23, hp24, hp25, hp26, hp27, hp28, hp29, hp30, hp31, hp32, hp33, hp34, hp35, hp36, hp37, hp38, hp39, hp40, hp41, hp42, hp43, hp44, hp45, hp46, hp47, hp48, hp49, hp50, hp51, hp52, hp53, hp54, hp55, hp56, hp57, hp58, hp59, hp60, hp61, hp62, hp63, hp64, hp65, hp66, hp67, hp68, hp69, hp70⟩ := F
  refine lv_aload_n hx hb dX11_sure_0 rfl (lv_at hl 0 rfl) ?_
  refine lv_iload_n hx hb dX11_sure_1 rfl (lv_at hl 1 rfl) ?_
  refine lv_iconst (v := 4) hx hb dX11_sure_2 (by decide) ?_
  refine th_gor (th_runV (As := [.int k, .int 4]) (rest := []) C hS.1 (RX11, TX11, 20) rfl gV_RX11_169 hp0 (t_X11_placeOf iz_k li_4 hp0 hp34) hl rfl rfl rfl rfl ⟨Nat.le_of_ble_eq_true rfl, Nat.le_of_ble_eq_true rfl⟩ (Nat.le_of_ble_eq_true rfl) ⟨Nat.le_of_ble_eq_true rfl, Nat.le_of_ble_eq_true rfl⟩ dX11_sure_3) ?_
  refine lv_astore_nN (lv' := [(2, .null), (0, .ref x), (1, .int k)]) hx hb dX11_sure_6 rfl hl (by decide) rfl (fun ls hl => ?_)
  refine lv_aload_nN hx hb dX11_sure_7 rfl (lv_at hl 0 rfl) ?_
  refine lv_ifnonnullN hx hb dX11_sure_8 ?_
  refine lv_iconst (v := (-1)) hx hb dX11_sure_11 (by decide) ?_
  refine lv_goto (tgt := 19) hx hb dX11_sure_12 (by decide) ?_
  exact th_reti C (by have hfin := li_n1; omega) dX11_sure_19

set_option maxHeartbeats 400000 in
set_option maxRecDepth 100000 in
theorem t_X11_drill {l : Launch} {D : va_G} {dA : Nat → ClassId} {K : Kmap} {V : Vmap} {sz : Nat} {x : Nat} {k w : Int32} {k_i w_i : Int} (iz_k : k.toInt = k_i) (iz_w : w.toInt = w_i) (F : FX K V x) : Met l yX11_drill (wsOf yX11_drill cX11_drill 5 (some .int)) { frames := 2, cells := 0, slots := 0, locals := 44 } (PC D dA K V sz [.ref x, .int k, .int w]) (PQi (fun r => (r.toInt = (-1)))) 0 0 noFree := by
  refine th_body (by decide +kernel) (Nat.le_of_ble_eq_true rfl) (fun pZ eZ sZ mZ belowZ methZ cZ C hR hsz hnm ls hl => ?_)
  have C : CX pZ sZ mZ [.ref x, .int k, .int w].toArray methZ cZ cX11_drill 5 (some .int) RX11 D dA := C
  have hx := C.1; have hb := C.2.1
  have hl : lv_has ls 5 [(0, .ref x), (1, .int k), (2, .int w)] := hl
  subst hsz
  have hS : ST D dA K sZ.heap K V sZ.heap [] := ST.rf hR
  have r_k := th_rng k; rw [iz_k] at r_k
  have r_w := th_rng w; rw [iz_w] at r_w
  have F0 := F
  obtain ⟨la, he, gr, wa, fd, co, sd, lw, rd, se, st, pa, pl, t1, t2, t3, t4, t5, t6, c6, t7, c7, sp, su, hp0, hp1, hp2, hp3, hp4, hp5, hp6, hp7, hp8, hp9, hp10, hp11, hp12, hp13, hp14, hp15, hp16, hp17, hp18, hp19, hp20, hp21, hp22, hp23, hp24, hp25, hp26, hp27, hp28, hp29, hp30, hp31, hp32, hp33, hp34, hp35, hp36, hp37, hp38, hp39, hp40, hp41, hp42, hp43, hp44, hp45, hp46, hp47, hp48, hp49, hp50, hp51, hp52, hp53, hp54, hp55, hp56, hp57, hp58, hp59, hp60, hp61, hp62, hp63, hp64, hp65, hp66, hp67, hp68, hp69, hp70⟩ := F
  refine lv_aload_n hx hb dX11_drill_0 rfl (lv_at hl 0 rfl) ?_
  refine lv_iload_n hx hb dX11_drill_1 rfl (lv_at hl 1 rfl) ?_
  refine lv_iconst (v := 4) hx hb dX11_drill_2 (by decide) ?_
  refine th_gor (th_runV (As := [.int k, .int 4]) (rest := []) C hS.1 (RX11, TX11, 20) rfl gV_RX11_169 hp0 (t_X11_placeOf iz_k li_4 hp0 hp34) hl rfl rfl rfl rfl ⟨Nat.le_of_ble_eq_true rfl, Nat.le_of_ble_eq_true rfl⟩ (Nat.le_of_ble_eq_true rfl) ⟨Nat.le_of_ble_eq_true rfl, Nat.le_of_ble_eq_true rfl⟩ dX11_drill_3) ?_
  refine lv_astore_nN (lv' := [(3, .null), (0, .ref x), (1, .int k), (2, .int w)]) hx hb dX11_drill_6 rfl hl (by decide) rfl (fun ls hl => ?_)
  refine lv_aload_n hx hb dX11_drill_7 rfl (lv_at hl 1 rfl) ?_
  refine lv_iload_n hx hb dX11_drill_8 rfl (lv_at hl 3 rfl) ?_
  refine th_gor (th_runV (As := [.int w]) (rest := []) C hS.1 (RX11, TX11, 20) rfl gV_RX11_309 hp0 (t_X11_workOf iz_w hp0 hp35) hl rfl rfl rfl rfl ⟨Nat.le_of_ble_eq_true rfl, Nat.le_of_ble_eq_true rfl⟩ (Nat.le_of_ble_eq_true rfl) ⟨Nat.le_of_ble_eq_true rfl, Nat.le_of_ble_eq_true rfl⟩ dX11_drill_9) ?_
  refine lv_astoreN (lv' := [(4, .null), (3, .null), (0, .ref x), (1, .int k), (2, .int w)]) hx hb dX11_drill_12 hl (by decide) rfl (fun ls hl => ?_)
  refine lv_aload_nN hx hb dX11_drill_14 rfl (lv_at hl 1 rfl) ?_
  refine lv_ifnullN hx hb (tgt := 44) dX11_drill_15 (by decide) ?_
  refine lv_iconst (v := (-1)) hx hb dX11_drill_44 (by decide) ?_
  exact th_reti C (by have hfin := li_n1; omega) dX11_drill_45

set_option maxHeartbeats 400000 in
set_option maxRecDepth 100000 in
theorem t_X11_speed {l : Launch} {D : va_G} {dA : Nat → ClassId} {K : Kmap} {V : Vmap} {sz : Nat} {x : Nat} {pt n : Int32} {pt_i n_i : Int} (iz_pt : pt.toInt = pt_i) (iz_n : n.toInt = n_i) (F : FX K V x) : Met l yX11_speed (wsOf yX11_speed cX11_speed 3 (some .boolean)) { frames := 1, cells := 0, slots := 0, locals := 22 } (PC D dA K V sz [.ref x, .int pt, .int n]) (HQi D dA K (fun r K1 V1 => (∀ b, K b = some (0, 11) → V1 b = V b) ∧ ((((pt_i = (-1) ∧ (0 ≤ n_i ∧ n_i ≤ 1000)) ∨ ((0 ≤ pt_i ∧ pt_i ≤ 9) ∧ (1 ≤ n_i ∧ n_i ≤ 200))) ∧ r.toInt = 1) ∨ (((pt_i ≠ (-1) ∨ (0 > n_i ∨ n_i > 1000)) ∧ ((0 > pt_i ∨ pt_i > 9) ∨ (1 > n_i ∨ n_i > 200))) ∧ r.toInt = 0)))) 0 0 (AK K sz) := by
  refine th_body (by decide +kernel) (Nat.le_of_ble_eq_true rfl) (fun pZ eZ sZ mZ belowZ methZ cZ C hR hsz hnm ls hl => ?_)
  have C : CX pZ sZ mZ [.ref x, .int pt, .int n].toArray methZ cZ cX11_speed 3 (some .boolean) RX11 D dA := C
  have hx := C.1; have hb := C.2.1
  have hl : lv_has ls 3 [(0, .ref x), (1, .int pt), (2, .int n)] := hl
  subst hsz
  have hS : ST D dA K sZ.heap K V sZ.heap [] := ST.rf hR
  have r_pt := th_rng pt; rw [iz_pt] at r_pt
  have r_n := th_rng n; rw [iz_n] at r_n
  have F0 := F
  obtain ⟨la, he, gr, wa, fd, co, sd, lw, rd, se, st, pa, pl, t1, t2, t3, t4, t5, t6, c6, t7, c7, sp, su, hp0, hp1, hp2, hp3, hp4, hp5, hp6, hp7, hp8, hp9, hp10, hp11, hp12, hp13, hp14, hp15, hp16, hp17, hp18, hp19, hp20, hp21, hp22, hp23, hp24, hp25, hp26, hp27, hp28, hp29, hp30, hp31, hp32, hp33, hp34, hp35, hp36, hp37, hp38, hp39, hp40, hp41, hp42, hp43, hp44, hp45, hp46, hp47, hp48, hp49, hp50, hp51, hp52, hp53, hp54, hp55, hp56, hp57, hp58, hp59, hp60, hp61, hp62, hp63, hp64, hp65, hp66, hp67, hp68, hp69, hp70⟩ := F
  refine lv_iload_n hx hb dX11_speed_0 rfl (lv_at hl 1 rfl) ?_
  refine lv_iconst (v := (-1)) hx hb dX11_speed_1 (by decide) ?_
  refine th_icmp_ne (X := pt_i) (Y := (-1)) (tgt := 28) hx hb dX11_speed_2 (by decide) iz_pt li_n1 (fun c3752 => ?_) (fun c3752 => ?_)
  · refine lv_iload_n hx hb dX11_speed_28 rfl (lv_at hl 1 rfl) ?_
    refine lv_iconst (v := 0) hx hb dX11_speed_29 (by decide) ?_
    refine lv_bipush (v := 9) hx hb dX11_speed_30 (by decide) ?_
    refine th_goi (th_runS (As := [.int pt, .int 0, .int 9]) (rest := []) C hS.1 gS_RX11_112 (t_X11_between iz_pt li_0 li_9) hl rfl rfl rfl rfl ⟨Nat.le_of_ble_eq_true rfl, Nat.le_of_ble_eq_true rfl⟩ (Nat.le_of_ble_eq_true rfl) ⟨Nat.le_of_ble_eq_true rfl, Nat.le_of_ble_eq_true rfl⟩ dX11_speed_32) (fun r3753 hq3754 => ?_)
    refine th_if_eq (X := r3753.toInt) (tgt := 60) hx hb dX11_speed_35 (by decide) rfl (fun c3755 => ?_) (fun c3755 => ?_)
    · replace hq3754 := Or.resolve_left hq3754 (fun h => absurd h.2 (by omega))
      refine lv_iconst (v := 0) hx hb dX11_speed_60 (by decide) ?_
      exact th_retzH (post := fun r K1 V1 => (∀ b, K b = some (0, 11) → V1 b = V b) ∧ ((((pt_i = (-1) ∧ (0 ≤ n_i ∧ n_i ≤ 1000)) ∨ ((0 ≤ pt_i ∧ pt_i ≤ 9) ∧ (1 ≤ n_i ∧ n_i ≤ 200))) ∧ r.toInt = 1) ∨ (((pt_i ≠ (-1) ∨ (0 > n_i ∨ n_i > 1000)) ∧ ((0 > pt_i ∨ pt_i > 9) ∨ (1 > n_i ∨ n_i > 200))) ∧ r.toInt = 0))) (cells := 0) (slots := 0) (mc := 0) (ms := 0) C hS (by have hfin := li_0; omega) ⟨(fun b hb => rfl), (Or.inr (⟨by omega, li_0⟩))⟩ (Nat.le_of_ble_eq_true rfl) (Nat.le_of_ble_eq_true rfl) dX11_speed_61
    · replace hq3754 := Or.resolve_right hq3754 (fun h => absurd h.2 (by omega))
      refine lv_iload_n hx hb dX11_speed_38 rfl (lv_at hl 2 rfl) ?_
      refine lv_iconst (v := 1) hx hb dX11_speed_39 (by decide) ?_
      refine lv_sipush (v := 200) hx hb dX11_speed_40 (by decide) ?_
      refine th_goi (th_runS (As := [.int n, .int 1, .int 200]) (rest := []) C hS.1 gS_RX11_112 (t_X11_between iz_n li_1 li_200) hl rfl rfl rfl rfl ⟨Nat.le_of_ble_eq_true rfl, Nat.le_of_ble_eq_true rfl⟩ (Nat.le_of_ble_eq_true rfl) ⟨Nat.le_of_ble_eq_true rfl, Nat.le_of_ble_eq_true rfl⟩ dX11_speed_43) (fun r3756 hq3757 => ?_)
      refine th_if_eq (X := r3756.toInt) (tgt := 60) hx hb dX11_speed_46 (by decide) rfl (fun c3758 => ?_) (fun c3758 => ?_)
      · replace hq3757 := Or.resolve_left hq3757 (fun h => absurd h.2 (by omega))
        refine lv_iconst (v := 0) hx hb dX11_speed_60 (by decide) ?_
        exact th_retzH (post := fun r K1 V1 => (∀ b, K b = some (0, 11) → V1 b = V b) ∧ ((((pt_i = (-1) ∧ (0 ≤ n_i ∧ n_i ≤ 1000)) ∨ ((0 ≤ pt_i ∧ pt_i ≤ 9) ∧ (1 ≤ n_i ∧ n_i ≤ 200))) ∧ r.toInt = 1) ∨ (((pt_i ≠ (-1) ∨ (0 > n_i ∨ n_i > 1000)) ∧ ((0 > pt_i ∨ pt_i > 9) ∨ (1 > n_i ∨ n_i > 200))) ∧ r.toInt = 0))) (cells := 0) (slots := 0) (mc := 0) (ms := 0) C hS (by have hfin := li_0; omega) ⟨(fun b hb => rfl), (Or.inr (⟨by omega, li_0⟩))⟩ (Nat.le_of_ble_eq_true rfl) (Nat.le_of_ble_eq_true rfl) dX11_speed_61
      · replace hq3757 := Or.resolve_right hq3757 (fun h => absurd h.2 (by omega))
        refine lv_aload_n hx hb dX11_speed_49 rfl (lv_at hl 0 rfl) ?_
        refine th_get C hS.1 hp0 fl_RX11_94 hp66 dX11_speed_50 ?_
        refine lv_iload_n hx hb dX11_speed_53 rfl (lv_at hl 1 rfl) ?_
        refine lv_iload_n hx hb dX11_speed_54 rfl (lv_at hl 2 rfl) ?_
        refine th_govH hS rfl (th_runS (As := [.ref sp, .int pt, .int n]) (rest := []) C hS.1 gS_RX11_108 (t_X4_put iz_pt iz_n hp67 (by decide)) hl rfl rfl rfl rfl ⟨Nat.le_of_ble_eq_true rfl, Nat.le_of_ble_eq_true rfl⟩ (Nat.le_of_ble_eq_true rfl) ⟨Nat.le_of_ble_eq_true rfl, Nat.le_of_ble_eq_true rfl⟩ dX11_speed_55) (fun K3761 V3762 H locs1 hq3760 hE3763 hS => ?_)
        obtain ⟨rfl, hF3764⟩ := hq3760
        refine lv_iconst (v := 1) hx hb dX11_speed_58 (by decide) ?_
        exact th_retzH (post := fun r K1 V1 => (∀ b, K b = some (0, 11) → V1 b = V b) ∧ ((((pt_i = (-1) ∧ (0 ≤ n_i ∧ n_i ≤ 1000)) ∨ ((0 ≤ pt_i ∧ pt_i ≤ 9) ∧ (1 ≤ n_i ∧ n_i ≤ 200))) ∧ r.toInt = 1) ∨ (((pt_i ≠ (-1) ∨ (0 > n_i ∨ n_i > 1000)) ∧ ((0 > pt_i ∨ pt_i > 9) ∨ (1 > n_i ∨ n_i > 200))) ∧ r.toInt = 0))) (cells := 0) (slots := 0) (mc := 0) (ms := 0) C hS (by have hfin := li_1; omega) ⟨(fun b hb  => (hF3764 _ (by rw [hb]; exact fun h => by cases h) (K_ne hb hp67 (by decide)))), (Or.inl ⟨by omega, li_1⟩)⟩ (Nat.le_of_ble_eq_true rfl) (Nat.le_of_ble_eq_true rfl) dX11_speed_59
  · refine lv_iload_n hx hb dX11_speed_5 rfl (lv_at hl 2 rfl) ?_
    refine lv_iconst (v := 0) hx hb dX11_speed_6 (by decide) ?_
    refine lv_sipush (v := 1000) hx hb dX11_speed_7 (by decide) ?_
    refine th_goi (th_runS (As := [.int n, .int 0, .int 1000]) (rest := []) C hS.1 gS_RX11_112 (t_X11_between iz_n li_0 li_1000) hl rfl rfl rfl rfl ⟨Nat.le_of_ble_eq_true rfl, Nat.le_of_ble_eq_true rfl⟩ (Nat.le_of_ble_eq_true rfl) ⟨Nat.le_of_ble_eq_true rfl, Nat.le_of_ble_eq_true rfl⟩ dX11_speed_10) (fun r3766 hq3767 => ?_)
    refine th_if_eq (X := r3766.toInt) (tgt := 28) hx hb dX11_speed_13 (by decide) rfl (fun c3768 => ?_) (fun c3768 => ?_)
    · replace hq3767 := Or.resolve_left hq3767 (fun h => absurd h.2 (by omega))
      refine lv_iload_n hx hb dX11_speed_28 rfl (lv_at hl 1 rfl) ?_
      refine lv_iconst (v := 0) hx hb dX11_speed_29 (by decide) ?_
      refine lv_bipush (v := 9) hx hb dX11_speed_30 (by decide) ?_
      refine th_goi (th_runS (As := [.int pt, .int 0, .int 9]) (rest := []) C hS.1 gS_RX11_112 (t_X11_between iz_pt li_0 li_9) hl rfl rfl rfl rfl ⟨Nat.le_of_ble_eq_true rfl, Nat.le_of_ble_eq_true rfl⟩ (Nat.le_of_ble_eq_true rfl) ⟨Nat.le_of_ble_eq_true rfl, Nat.le_of_ble_eq_true rfl⟩ dX11_speed_32) (fun r3769 hq3770 => ?_)
      refine th_if_eq (X := r3769.toInt) (tgt := 60) hx hb dX11_speed_35 (by decide) rfl (fun c3771 => ?_) (fun c3771 => absurd c3771 (by omega))
      refine lv_iconst (v := 0) hx hb dX11_speed_60 (by decide) ?_
      exact th_retzH (post := fun r K1 V1 => (∀ b, K b = some (0, 11) → V1 b = V b) ∧ ((((pt_i = (-1) ∧ (0 ≤ n_i ∧ n_i ≤ 1000)) ∨ ((0 ≤ pt_i ∧ pt_i ≤ 9) ∧ (1 ≤ n_i ∧ n_i ≤ 200))) ∧ r.toInt = 1) ∨ (((pt_i ≠ (-1) ∨ (0 > n_i ∨ n_i > 1000)) ∧ ((0 > pt_i ∨ pt_i > 9) ∨ (1 > n_i ∨ n_i > 200))) ∧ r.toInt = 0))) (cells := 0) (slots := 0) (mc := 0) (ms := 0) C hS (by have hfin := li_0; omega) ⟨(fun b hb => rfl), (Or.inr (⟨by omega, li_0⟩))⟩ (Nat.le_of_ble_eq_true rfl) (Nat.le_of_ble_eq_true rfl) dX11_speed_61
    · replace hq3767 := Or.resolve_right hq3767 (fun h => absurd h.2 (by omega))
      refine lv_aload_n hx hb dX11_speed_16 rfl (lv_at hl 0 rfl) ?_
      refine th_get C hS.1 hp0 fl_RX11_94 hp66 dX11_speed_17 ?_
      refine lv_bipush (v := 10) hx hb dX11_speed_20 (by decide) ?_
      refine lv_iload_n hx hb dX11_speed_22 rfl (lv_at hl 2 rfl) ?_
      refine th_govH hS rfl (th_runS (As := [.ref sp, .int 10, .int n]) (rest := []) C hS.1 gS_RX11_108 (t_X4_put li_10 iz_n hp67 (by decide)) hl rfl rfl rfl rfl ⟨Nat.le_of_ble_eq_true rfl, Nat.le_of_ble_eq_true rfl⟩ (Nat.le_of_ble_eq_true rfl) ⟨Nat.le_of_ble_eq_true rfl, Nat.le_of_ble_eq_true rfl⟩ dX11_speed_23) (fun K3774 V3775 H locs1 hq3773 hE3776 hS => ?_)
      obtain ⟨rfl, hF3777⟩ := hq3773
      refine lv_iconst (v := 1) hx hb dX11_speed_26 (by decide) ?_
      exact th_retzH (post := fun r K1 V1 => (∀ b, K b = some (0, 11) → V1 b = V b) ∧ ((((pt_i = (-1) ∧ (0 ≤ n_i ∧ n_i ≤ 1000)) ∨ ((0 ≤ pt_i ∧ pt_i ≤ 9) ∧ (1 ≤ n_i ∧ n_i ≤ 200))) ∧ r.toInt = 1) ∨ (((pt_i ≠ (-1) ∨ (0 > n_i ∨ n_i > 1000)) ∧ ((0 > pt_i ∨ pt_i > 9) ∨ (1 > n_i ∨ n_i > 200))) ∧ r.toInt = 0))) (cells := 0) (slots := 0) (mc := 0) (ms := 0) C hS (by have hfin := li_1; omega) ⟨(fun b hb  => (hF3777 _ (by rw [hb]; exact fun h => by cases h) (K_ne hb hp67 (by decide)))), (Or.inl ⟨by omega, li_1⟩)⟩ (Nat.le_of_ble_eq_true rfl) (Nat.le_of_ble_eq_true rfl) dX11_speed_27

set_option maxHeartbeats 400000 in
set_option maxRecDepth 100000 in
theorem t_X11_birds {l : Launch} {D : va_G} {dA : Nat → ClassId} {K : Kmap} {V : Vmap} {sz : Nat} {x : Nat} {k yr n : Int32} {k_i yr_i n_i : Int} (iz_k : k.toInt = k_i) (iz_yr : yr.toInt = yr_i) (iz_n : n.toInt = n_i) (F : FX K V x) : Met l yX11_birds (wsOf yX11_birds cX11_birds 5 (some .boolean)) { frames := 2, cells := 0, slots := 0, locals := 44 } (PC D dA K V sz [.ref x, .int k, .int yr, .int n]) (PQi (fun r => (r.toInt = 0))) 0 0 noFree := by
  refine th_body (by decide +kernel) (Nat.le_of_ble_eq_true rfl) (fun pZ eZ sZ mZ belowZ methZ cZ C hR hsz hnm ls hl => ?_)
  have C : CX pZ sZ mZ [.ref x, .int k, .int yr, .int n].toArray methZ cZ cX11_birds 5 (some .boolean) RX11 D dA := C
  have hx := C.1; have hb := C.2.1
  have hl : lv_has ls 5 [(0, .ref x), (1, .int k), (2, .int yr), (3, .int n)] := hl
  subst hsz
  have hS : ST D dA K sZ.heap K V sZ.heap [] := ST.rf hR
  have r_k := th_rng k; rw [iz_k] at r_k
  have r_yr := th_rng yr; rw [iz_yr] at r_yr
  have r_n := th_rng n; rw [iz_n] at r_n
  have F0 := F
  obtain ⟨la, he, gr, wa, fd, co, sd, lw, rd, se, st, pa, pl, t1, t2, t3, t4, t5, t6, c6, t7, c7, sp, su, hp0, hp1, hp2, hp3, hp4, hp5, hp6, hp7, hp8, hp9, hp10, hp11, hp12, hp13, hp14, hp15, hp16, hp17, hp18, hp19, hp20, hp21, hp22, hp23, hp24, hp25, hp26, hp27, hp28, hp29, hp30, hp31, hp32, hp33, hp34, hp35, hp36, hp37, hp38, hp39, hp40, hp41, hp42, hp43, hp44, hp45, hp46, hp47, hp48, hp49, hp50, hp51, hp52, hp53, hp54, hp55, hp56, hp57, hp58, hp59, hp60, hp61, hp62, hp63, hp64, hp65, hp66, hp67, hp68, hp69, hp70⟩ := F
  refine lv_aload_n hx hb dX11_birds_0 rfl (lv_at hl 0 rfl) ?_
  refine lv_iload_n hx hb dX11_birds_1 rfl (lv_at hl 1 rfl) ?_
  refine lv_iconst (v := 5) hx hb dX11_birds_2 (by decide) ?_
  refine th_gor (th_runV (As := [.int k, .int 5]) (rest := []) C hS.1 (RX11, TX11, 20) rfl gV_RX11_169 hp0 (t_X11_placeOf iz_k li_5 hp0 hp34) hl rfl rfl rfl rfl ⟨Nat.le_of_ble_eq_true rfl, Nat.le_of_ble_eq_true rfl⟩ (Nat.le_of_ble_eq_true rfl) ⟨Nat.le_of_ble_eq_true rfl, Nat.le_of_ble_eq_true rfl⟩ dX11_birds_3) ?_
  refine lv_astoreN (lv' := [(4, .null), (0, .ref x), (1, .int k), (2, .int yr), (3, .int n)]) hx hb dX11_birds_6 hl (by decide) rfl (fun ls hl => ?_)
  refine lv_aloadN hx hb dX11_birds_8 (lv_at hl 0 rfl) ?_
  refine lv_ifnullN hx hb (tgt := 30) dX11_birds_10 (by decide) ?_
  refine lv_iconst (v := 0) hx hb dX11_birds_30 (by decide) ?_
  exact th_retz C (by have hfin := li_0; omega) (by have hfin := li_0; omega) dX11_birds_31

set_option maxHeartbeats 400000 in
set_option maxRecDepth 100000 in
theorem t_X11_loss {l : Launch} {D : va_G} {dA : Nat → ClassId} {K : Kmap} {V : Vmap} {sz : Nat} {x : Nat} {k a b e1 wh : Int32} {k_i a_i b_i e1_i wh_i : Int} (iz_k : k.toInt = k_i) (iz_a : a.toInt = a_i) (iz_b : b.toInt = b_i) (iz_e1 : e1.toInt = e1_i) (iz_wh : wh.toInt = wh_i) (F : FX K V x) : Met l yX11_loss (wsOf yX11_loss cX11_loss 10 (some .int)) { frames := 2, cells := 0, slots := 0, locals := 44 } (PC D dA K V sz [.ref x, .int k, .int a, .int b, .int e1, .int wh]) (PQi (fun r => (r.toInt = (-1000000)))) 0 0 noFree := by
  refine th_body (by decide +kernel) (Nat.le_of_ble_eq_true rfl) (fun pZ eZ sZ mZ belowZ methZ cZ C hR hsz hnm ls hl => ?_)
  have C : CX pZ sZ mZ [.ref x, .int k, .int a, .int b, .int e1, .int wh].toArray methZ cZ cX11_loss 10 (some .int) RX11 D dA := C
  have hx := C.1; have hb := C.2.1
  have hl : lv_has ls 10 [(0, .ref x), (1, .int k), (2, .int a), (3, .int b), (4, .int e1), (5, .int wh)] := hl
  subst hsz
  have hS : ST D dA K sZ.heap K V sZ.heap [] := ST.rf hR
  have r_k := th_rng k; rw [iz_k] at r_k
  have r_a := th_rng a; rw [iz_a] at r_a
  have r_b := th_rng b; rw [iz_b] at r_b
  have r_e1 := th_rng e1; rw [iz_e1] at r_e1
  have r_wh := th_rng wh; rw [iz_wh] at r_wh
  have F0 := F
  obtain ⟨la, he, gr, wa, fd, co, sd, lw, rd, se, st, pa, pl, t1, t2, t3, t4, t5, t6, c6, t7, c7, sp, su, hp0, hp1, hp2, hp3, hp4, hp5, hp6, hp7, hp8, hp9, hp10, hp11, hp12, hp13, hp14, hp15, hp16, hp17, hp18, hp19, hp20, hp21, hp22, hp23, hp24, hp25, hp26, hp27, hp28, hp29, hp30, hp31, hp32, hp33, hp34, hp35, hp36, hp37, hp38, hp39, hp40, hp41, hp42, hp43, hp44, hp45, hp46, hp47, hp48, hp49, hp50, hp51, hp52, hp53, hp54, hp55, hp56, hp57, hp58, hp59, hp60, hp61, hp62, hp63, hp64, hp65, hp66, hp67, hp68, hp69, hp70⟩ := F
  refine lv_aload_n hx hb dX11_loss_0 rfl (lv_at hl 0 rfl) ?_
  refine lv_iload_n hx hb dX11_loss_1 rfl (lv_at hl 1 rfl) ?_
  refine lv_iconst (v := 5) hx hb dX11_loss_2 (by decide) ?_
  refine th_gor (th_runV (As := [.int k, .int 5]) (rest := []) C hS.1 (RX11, TX11, 20) rfl gV_RX11_169 hp0 (t_X11_placeOf iz_k li_5 hp0 hp34) hl rfl rfl rfl rfl ⟨Nat.le_of_ble_eq_true rfl, Nat.le_of_ble_eq_true rfl⟩ (Nat.le_of_ble_eq_true rfl) ⟨Nat.le_of_ble_eq_true rfl, Nat.le_of_ble_eq_true rfl⟩ dX11_loss_3) ?_
  refine lv_astoreN (lv' := [(6, .null), (0, .ref x), (1, .int k), (2, .int a), (3, .int b), (4, .int e1), (5, .int wh)]) hx hb dX11_loss_6 hl (by decide) rfl (fun ls hl => ?_)
  refine lv_aloadN hx hb dX11_loss_8 (lv_at hl 0 rfl) ?_
  refine lv_ifnullN hx hb (tgt := 53) dX11_loss_10 (by decide) ?_
  refine lv_ldcw (v := (-1000000)) hx hb C.2.2.2.2.2.1 (C.2.2.2.2.2.2.1 _ gw_1169) dX11_loss_53 ?_
  exact th_reti C (by have hfin := li_n1000000; omega) dX11_loss_56

set_option maxHeartbeats 400000 in
set_option maxRecDepth 100000 in
theorem t_X11_noise {l : Launch} {D : va_G} {dA : Nat → ClassId} {K : Kmap} {V : Vmap} {sz : Nat} {x : Nat} {k yr : Int32} {k_i yr_i : Int} (iz_k : k.toInt = k_i) (iz_yr : yr.toInt = yr_i) (F : FX K V x) : Met l yX11_noise (wsOf yX11_noise cX11_noise 4 (some .int)) { frames := 2, cells := 0, slots := 0, locals := 44 } (PC D dA K V sz [.ref x, .int k, .int yr]) (PQi (fun r => (r.toInt = (-1)))) 0 0 noFree := by
  refine th_body (by decide +kernel) (Nat.le_of_ble_eq_true rfl) (fun pZ eZ sZ mZ belowZ methZ cZ C hR hsz hnm ls hl => ?_)
  have C : CX pZ sZ mZ [.ref x, .int k, .int yr].toArray methZ cZ cX11_noise 4 (some .int) RX11 D dA := C
  have hx := C.1; have hb := C.2.1
  have hl : lv_has ls 4 [(0, .ref x), (1, .int k), (2, .int yr)] := hl
  subst hsz
  have hS : ST D dA K sZ.heap K V sZ.heap [] := ST.rf hR
  have r_k := th_rng k; rw [iz_k] at r_k
  have r_yr := th_rng yr; rw [iz_yr] at r_yr
  have F0 := F
  obtain ⟨la, he, gr, wa, fd, co, sd, lw, rd, se, st, pa, pl, t1, t2, t3, t4, t5, t6, c6, t7, c7, sp, su, hp0, hp1, hp2, hp3, hp4, hp5, hp6, hp7, hp8, hp9, hp10, hp11, hp12, hp13, hp14, hp15, hp16, hp17, hp18, hp19, hp20, hp21, hp22, hp23, hp24, hp25, hp26, hp27, hp28, hp29, hp30, hp31, hp32, hp33, hp34, hp35, hp36, hp37, hp38, hp39, hp40, hp41, hp42, hp43, hp44, hp45, hp46, hp47, hp48, hp49, hp50, hp51, hp52, hp53, hp54, hp55, hp56, hp57, hp58, hp59, hp60, hp61, hp62, hp63, hp64, hp65, hp66, hp67, hp68, hp69, hp70⟩ := F
  refine lv_aload_n hx hb dX11_noise_0 rfl (lv_at hl 0 rfl) ?_
  refine lv_iload_n hx hb dX11_noise_1 rfl (lv_at hl 1 rfl) ?_
  refine lv_iconst (v := 5) hx hb dX11_noise_2 (by decide) ?_
  refine th_gor (th_runV (As := [.int k, .int 5]) (rest := []) C hS.1 (RX11, TX11, 20) rfl gV_RX11_169 hp0 (t_X11_placeOf iz_k li_5 hp0 hp34) hl rfl rfl rfl rfl ⟨Nat.le_of_ble_eq_true rfl, Nat.le_of_ble_eq_true rfl⟩ (Nat.le_of_ble_eq_true rfl) ⟨Nat.le_of_ble_eq_true rfl, Nat.le_of_ble_eq_true rfl⟩ dX11_noise_3) ?_
  refine lv_astore_nN (lv' := [(3, .null), (0, .ref x), (1, .int k), (2, .int yr)]) hx hb dX11_noise_6 rfl hl (by decide) rfl (fun ls hl => ?_)
  refine lv_aload_nN hx hb dX11_noise_7 rfl (lv_at hl 0 rfl) ?_
  refine lv_ifnullN hx hb (tgt := 18) dX11_noise_8 (by decide) ?_
  refine lv_iconst (v := (-1)) hx hb dX11_noise_18 (by decide) ?_
  refine lv_goto (tgt := 30) hx hb dX11_noise_19 (by decide) ?_
  exact th_reti C (by have hfin := li_n1; omega) dX11_noise_30

set_option maxHeartbeats 400000 in
set_option maxRecDepth 100000 in
theorem t_X11_caught {l : Launch} {D : va_G} {dA : Nat → ClassId} {K : Kmap} {V : Vmap} {sz : Nat} {x : Nat} {sh1 kd se1 tn dy : Int32} {sh1_i kd_i se1_i tn_i dy_i : Int} (iz_sh1 : sh1.toInt = sh1_i) (iz_kd : kd.toInt = kd_i) (iz_se1 : se1.toInt = se1_i) (iz_tn : tn.toInt = tn_i) (iz_dy : dy.toInt = dy_i) (F : FX K V x) : Met l yX11_caught (wsOf yX11_caught cX11_caught 6 (some .int)) { frames := 1, cells := 0, slots := 0, locals := 21 } (PC D dA K V sz [.ref x, .int sh1, .int kd, .int se1, .int tn, .int dy]) (PQi (fun r => (r.toInt = (-1)))) 0 0 noFree := by
  refine th_body (by decide +kernel) (Nat.le_of_ble_eq_true rfl) (fun pZ eZ sZ mZ belowZ methZ cZ C hR hsz hnm ls hl => ?_)
  have C : CX pZ sZ mZ [.ref x, .int sh1, .int kd, .int se1, .int tn, .int dy].toArray methZ cZ cX11_caught 6 (some .int) RX11 D dA := C
  have hx := C.1; have hb := C.2.1
  have hl : lv_has ls 6 [(0, .ref x), (1, .int sh1), (2, .int kd), (3, .int se1), (4, .int tn), (5, .int dy)] := hl
  subst hsz
  have hS : ST D dA K sZ.heap K V sZ.heap [] := ST.rf hR
  have r_sh1 := th_rng sh1; rw [iz_sh1] at r_sh1
  have r_kd := th_rng kd; rw [iz_kd] at r_kd
  have r_se1 := th_rng se1; rw [iz_se1] at r_se1
  have r_tn := th_rng tn; rw [iz_tn] at r_tn
  have r_dy := th_rng dy; rw [iz_dy] at r_dy
  have F0 := F
  obtain ⟨la, he, gr, wa, fd, co, sd, lw, rd, se, st, pa, pl, t1, t2, t3, t4, t5, t6, c6, t7, c7, sp, su, hp0, hp1, hp2, hp3, hp4, hp5, hp6, hp7, hp8, hp9, hp10, hp11, hp12, hp13, hp14, hp15, hp16, hp17, hp18, hp19, hp20, hp21, hp22, hp23, hp24, hp25, hp26, hp27, hp28, hp29, hp30, hp31, hp32, hp33, hp34, hp35, hp36, hp37, hp38, hp39, hp40, hp41, hp42, hp43, hp44, hp45, hp46, hp47, hp48, hp49, hp50, hp51, hp52, hp53, hp54, hp55, hp56, hp57, hp58, hp59, hp60, hp61, hp62, hp63, hp64, hp65, hp66, hp67, hp68, hp69, hp70⟩ := F
  refine lv_aload_n hx hb dX11_caught_0 rfl (lv_at hl 0 rfl) ?_
  refine lv_iload_n hx hb dX11_caught_1 rfl (lv_at hl 1 rfl) ?_
  refine th_gor (th_runV (As := [.int sh1]) (rest := []) C hS.1 (RX11, TX11, 20) rfl gV_RX11_403 hp0 (t_X11_shipOf iz_sh1 hp0 hp36) hl rfl rfl rfl rfl ⟨Nat.le_of_ble_eq_true rfl, Nat.le_of_ble_eq_true rfl⟩ (Nat.le_of_ble_eq_true rfl) ⟨Nat.le_of_ble_eq_true rfl, Nat.le_of_ble_eq_true rfl⟩ dX11_caught_2) ?_
  refine lv_ifnullN hx hb (tgt := 36) dX11_caught_5 (by decide) ?_
  refine lv_iconst (v := (-1)) hx hb dX11_caught_36 (by decide) ?_
  exact th_reti C (by have hfin := li_n1; omega) dX11_caught_37

set_option maxHeartbeats 400000 in
set_option maxRecDepth 100000 in
theorem t_X11_over {l : Launch} {D : va_G} {dA : Nat → ClassId} {K : Kmap} {V : Vmap} {sz : Nat} {x : Nat} (F : FX K V x) : Met l yX11_over (wsOf yX11_over cX11_over 4 (some .int)) { frames := 0, cells := 0, slots := 0, locals := 0 } (PC D dA K V sz [.ref x]) (PQi (fun r => (r.toInt = (-1)))) 0 0 noFree := by
  refine th_body (by decide +kernel) (Nat.le_of_ble_eq_true rfl) (fun pZ eZ sZ mZ belowZ methZ cZ C hR hsz hnm ls hl => ?_)
  have C : CX pZ sZ mZ [.ref x].toArray methZ cZ cX11_over 4 (some .int) RX11 D dA := C
  have hx := C.1; have hb := C.2.1
  have hl : lv_has ls 4 [(0, .ref x)] := hl
  subst hsz
  have hS : ST D dA K sZ.heap K V sZ.heap [] := ST.rf hR
  have F0 := F
  obtain ⟨la, he, gr, wa, fd, co, sd, lw, rd, se, st, pa, pl, t1, t2, t3, t4, t5, t6, c6, t7, c7, sp, su, hp0, hp1, hp2, hp3, hp4, hp5, hp6, hp7, hp8, hp9, hp10, hp11, hp12, hp13, hp14, hp15, hp16, hp17, hp18, hp19, hp20, hp21, hp22, hp23, hp24, hp25, hp26, hp27, hp28, hp29, hp30, hp31, hp32, hp33, hp34, hp35, hp36, hp37, hp38, hp39, hp40, hp41, hp42, hp43, hp44, hp45, hp46, hp47, hp48, hp49, hp50, hp51, hp52, hp53, hp54, hp55, hp56, hp57, hp58, hp59, hp60, hp61, hp62, hp63, hp64, hp65, hp66, hp67, hp68, hp69, hp70⟩ := F
  refine lv_iconst (v := (-1)) hx hb dX11_over_0 (by decide) ?_
  refine lv_istore_n (lv' := [(1, .int (-1)), (0, .ref x)]) hx hb dX11_over_1 rfl hl (by decide) rfl (fun ls hl => ?_)
  refine lv_iconst (v := 0) hx hb dX11_over_2 (by decide) ?_
  refine lv_istore_n (lv' := [(2, .int 0), (1, .int (-1)), (0, .ref x)]) hx hb dX11_over_3 rfl hl (by decide) rfl (fun ls hl => ?_)
  refine lv_iload_n hx hb dX11_over_4 rfl (lv_at hl 0 rfl) ?_
  refine lv_aload_n hx hb dX11_over_5 rfl (lv_at hl 2 rfl) ?_
  refine th_get C hS.1 hp0 fl_RX11_82 hp46 dX11_over_6 ?_
  refine th_get C hS.1 hp47 fl_RX11_199 hp48 dX11_over_9 ?_
  refine th_icmp_ge (X := 0) (Y := 0) (tgt := 67) hx hb dX11_over_12 (by decide) li_0 li_0 (fun c3787 => ?_) (fun c3787 => absurd c3787 (by omega))
  refine lv_iload_n hx hb dX11_over_67 rfl (lv_at hl 1 rfl) ?_
  exact th_reti C (by have hfin := li_n1; omega) dX11_over_68

set_option maxHeartbeats 400000 in
set_option maxRecDepth 100000 in
theorem t_X11_doubt {l : Launch} {D : va_G} {dA : Nat → ClassId} {K : Kmap} {V : Vmap} {sz : Nat} {x : Nat} {wh : Int32} {wh_i : Int} (iz_wh : wh.toInt = wh_i) (F : FX K V x) : Met l yX11_doubt (wsOf yX11_doubt cX11_doubt 4 (some .int)) { frames := 1, cells := 0, slots := 0, locals := 22 } (PC D dA K V sz [.ref x, .int wh]) (PQi (fun r => (r.toInt = (-1)))) 0 0 noFree := by
  refine th_body (by decide +kernel) (Nat.le_of_ble_eq_true rfl) (fun pZ eZ sZ mZ belowZ methZ cZ C hR hsz hnm ls hl => ?_)
  have C : CX pZ sZ mZ [.ref x, .int wh].toArray methZ cZ cX11_doubt 4 (some .int) RX11 D dA := C
  have hx := C.1; have hb := C.2.1
  have hl : lv_has ls 4 [(0, .ref x), (1, .int wh)] := hl
  subst hsz
  have hS : ST D dA K sZ.heap K V sZ.heap [] := ST.rf hR
  have r_wh := th_rng wh; rw [iz_wh] at r_wh
  have F0 := F
  obtain ⟨la, he, gr, wa, fd, co, sd, lw, rd, se, st, pa, pl, t1, t2, t3, t4, t5, t6, c6, t7, c7, sp, su, hp0, hp1, hp2, hp3, hp4, hp5, hp6, hp7, hp8, hp9, hp10, hp11, hp12, hp13, hp14, hp15, hp16, hp17, hp18, hp19, hp20, hp21, hp22, hp23, hp24, hp25, hp26, hp27, hp28, hp29, hp30, hp31, hp32, hp33, hp34, hp35, hp36, hp37, hp38, hp39, hp40, hp41, hp42, hp43, hp44, hp45, hp46, hp47, hp48, hp49, hp50, hp51, hp52, hp53, hp54, hp55, hp56, hp57, hp58, hp59, hp60, hp61, hp62, hp63, hp64, hp65, hp66, hp67, hp68, hp69, hp70⟩ := F
  refine lv_iload_n hx hb dX11_doubt_0 rfl (lv_at hl 1 rfl) ?_
  refine lv_iconst (v := 0) hx hb dX11_doubt_1 (by decide) ?_
  refine lv_iconst (v := 1) hx hb dX11_doubt_2 (by decide) ?_
  refine th_goi (th_runS (As := [.int wh, .int 0, .int 1]) (rest := []) C hS.1 gS_RX11_112 (t_X11_between iz_wh li_0 li_1) hl rfl rfl rfl rfl ⟨Nat.le_of_ble_eq_true rfl, Nat.le_of_ble_eq_true rfl⟩ (Nat.le_of_ble_eq_true rfl) ⟨Nat.le_of_ble_eq_true rfl, Nat.le_of_ble_eq_true rfl⟩ dX11_doubt_3) (fun r3788 hq3789 => ?_)
  refine th_if_ne (X := r3788.toInt) (tgt := 11) hx hb dX11_doubt_6 (by decide) rfl (fun c3790 => ?_) (fun c3790 => ?_)
  · replace hq3789 := Or.resolve_right hq3789 (fun h => absurd h.2 (by omega))
    refine lv_iconst (v := 0) hx hb dX11_doubt_11 (by decide) ?_
    refine lv_istore_n (lv' := [(2, .int 0), (0, .ref x), (1, .int wh)]) hx hb dX11_doubt_12 rfl hl (by decide) rfl (fun ls hl => ?_)
    refine lv_iload_n hx hb dX11_doubt_13 rfl (lv_at hl 0 rfl) ?_
    refine lv_aload_n hx hb dX11_doubt_14 rfl (lv_at hl 1 rfl) ?_
    refine th_get C hS.1 hp0 fl_RX11_82 hp46 dX11_doubt_15 ?_
    refine th_get C hS.1 hp47 fl_RX11_199 hp48 dX11_doubt_18 ?_
    refine th_icmp_ge (X := 0) (Y := 0) (tgt := 70) hx hb dX11_doubt_21 (by decide) li_0 li_0 (fun c3791 => ?_) (fun c3791 => absurd c3791 (by omega))
    refine lv_iconst (v := (-1)) hx hb dX11_doubt_70 (by decide) ?_
    exact th_reti C (by have hfin := li_n1; omega) dX11_doubt_71
  · replace hq3789 := Or.resolve_left hq3789 (fun h => absurd h.2 (by omega))
    refine lv_iconst (v := (-1)) hx hb dX11_doubt_9 (by decide) ?_
    exact th_reti C (by have hfin := li_n1; omega) dX11_doubt_10

set_option maxHeartbeats 400000 in
set_option maxRecDepth 100000 in
theorem t_X11_word {l : Launch} {D : va_G} {dA : Nat → ClassId} {K : Kmap} {V : Vmap} {sz : Nat} {x : Nat} {wo : Int32} {wo_i : Int} (iz_wo : wo.toInt = wo_i) (F : FX K V x) : Met l yX11_word (wsOf yX11_word cX11_word 2 (some .int)) { frames := 2, cells := 0, slots := 0, locals := 51 } (PC D dA K V sz [.ref x, .int wo]) (HQi D dA K (fun r K1 V1 => (∀ b, K b = some (0, 11) → V1 b = V b) ∧ (((0 ≤ wo_i ∧ wo_i ≤ 1000) ∧ r.toInt = 0) ∨ ((0 > wo_i ∨ wo_i > 1000) ∧ r.toInt = (-1))))) 0 0 (AK K sz) := by
  refine th_body (by decide +kernel) (Nat.le_of_ble_eq_true rfl) (fun pZ eZ sZ mZ belowZ methZ cZ C hR hsz hnm ls hl => ?_)
  have C : CX pZ sZ mZ [.ref x, .int wo].toArray methZ cZ cX11_word 2 (some .int) RX11 D dA := C
  have hx := C.1; have hb := C.2.1
  have hl : lv_has ls 2 [(0, .ref x), (1, .int wo)] := hl
  subst hsz
  have hS : ST D dA K sZ.heap K V sZ.heap [] := ST.rf hR
  have r_wo := th_rng wo; rw [iz_wo] at r_wo
  have F0 := F
  obtain ⟨la, he, gr, wa, fd, co, sd, lw, rd, se, st, pa, pl, t1, t2, t3, t4, t5, t6, c6, t7, c7, sp, su, hp0, hp1, hp2, hp3, hp4, hp5, hp6, hp7, hp8, hp9, hp10, hp11, hp12, hp13, hp14, hp15, hp16, hp17, hp18, hp19, hp20, hp21, hp22, hp23, hp24, hp25, hp26, hp27, hp28, hp29, hp30, hp31, hp32, hp33, hp34, hp35, hp36, hp37, hp38, hp39, hp40, hp41, hp42, hp43, hp44, hp45, hp46, hp47, hp48, hp49, hp50, hp51, hp52, hp53, hp54, hp55, hp56, hp57, hp58, hp59, hp60, hp61, hp62, hp63, hp64, hp65, hp66, hp67, hp68, hp69, hp70⟩ := F
  refine lv_iload_n hx hb dX11_word_0 rfl (lv_at hl 1 rfl) ?_
  refine lv_iconst (v := 0) hx hb dX11_word_1 (by decide) ?_
  refine lv_sipush (v := 1000) hx hb dX11_word_2 (by decide) ?_
  refine th_goi (th_runS (As := [.int wo, .int 0, .int 1000]) (rest := []) C hS.1 gS_RX11_112 (t_X11_between iz_wo li_0 li_1000) hl rfl rfl rfl rfl ⟨Nat.le_of_ble_eq_true rfl, Nat.le_of_ble_eq_true rfl⟩ (Nat.le_of_ble_eq_true rfl) ⟨Nat.le_of_ble_eq_true rfl, Nat.le_of_ble_eq_true rfl⟩ dX11_word_5) (fun r3792 hq3793 => ?_)
  refine th_if_eq (X := r3792.toInt) (tgt := 26) hx hb dX11_word_8 (by decide) rfl (fun c3794 => ?_) (fun c3794 => ?_)
  · replace hq3793 := Or.resolve_left hq3793 (fun h => absurd h.2 (by omega))
    refine lv_iconst (v := (-1)) hx hb dX11_word_26 (by decide) ?_
    exact th_retiH (post := fun r K1 V1 => (∀ b, K b = some (0, 11) → V1 b = V b) ∧ (((0 ≤ wo_i ∧ wo_i ≤ 1000) ∧ r.toInt = 0) ∨ ((0 > wo_i ∨ wo_i > 1000) ∧ r.toInt = (-1)))) (cells := 0) (slots := 0) (mc := 0) (ms := 0) C hS ⟨(fun b hb => rfl), (Or.inr (⟨by omega, li_n1⟩))⟩ (Nat.le_of_ble_eq_true rfl) (Nat.le_of_ble_eq_true rfl) dX11_word_27
  · replace hq3793 := Or.resolve_right hq3793 (fun h => absurd h.2 (by omega))
    refine lv_aload_n hx hb dX11_word_11 rfl (lv_at hl 0 rfl) ?_
    refine th_get C hS.1 hp0 fl_RX11_88 hp52 dX11_word_12 ?_
    refine lv_iload_n hx hb dX11_word_15 rfl (lv_at hl 1 rfl) ?_
    refine lv_iconst (v := 0) hx hb dX11_word_16 (by decide) ?_
    refine lv_iconst (v := 0) hx hb dX11_word_17 (by decide) ?_
    refine lv_iconst (v := 0) hx hb dX11_word_18 (by decide) ?_
    refine lv_iconst (v := 0) hx hb dX11_word_19 (by decide) ?_
    refine th_goiH hS rfl (th_runV (As := [.int wo, .int 0, .int 0, .int 0, .int 0]) (rest := []) C hS.1 (RX8, TX8, 4) rfl gV_RX11_205 hp53 (t_X8_append_7 iz_wo li_0 li_0 li_0 li_0 li_0 hp53 hp54 hp55 hp56 hp57 hp58 (by omega) (by omega)) hl rfl rfl rfl rfl ⟨Nat.le_of_ble_eq_true rfl, Nat.le_of_ble_eq_true rfl⟩ (Nat.le_of_ble_eq_true rfl) ⟨Nat.le_of_ble_eq_true rfl, Nat.le_of_ble_eq_true rfl⟩ dX11_word_20) (fun r3795 K3797 V3798 H locs1 hq3796 hE3799 hS => ?_)
    obtain ⟨rfl, hF3800, hA3801, hA3802, hA3803, ⟨z3805, hA3804, hz3805⟩, hr3806⟩ := hq3796
    refine lv_goto (tgt := 27) hx hb dX11_word_23 (by decide) ?_
    exact th_retiH (post := fun r K1 V1 => (∀ b, K b = some (0, 11) → V1 b = V b) ∧ (((0 ≤ wo_i ∧ wo_i ≤ 1000) ∧ r.toInt = 0) ∨ ((0 > wo_i ∨ wo_i > 1000) ∧ r.toInt = (-1)))) (cells := 0) (slots := 0) (mc := 0) (ms := 0) C hS ⟨(fun b hb  => (hF3800 _ (by rw [hb]; exact fun h => by cases h) (K_ne hb hp57 (by decide)) (K_ne hb hp53 (by decide)))), (Or.inl ⟨by omega, by omega⟩)⟩ (Nat.le_of_ble_eq_true rfl) (Nat.le_of_ble_eq_true rfl) dX11_word_27
