set_option maxHeartbeats 400000 in
set_option maxRecDepth 100000 in
theorem t_X11_asks {l : Launch} {D : va_G} {dA : Nat → ClassId} {K : Kmap} {V : Vmap} {sz : Nat} {x : Nat} {p w ot : Int32} {p_i w_i ot_i : Int} (iz_p : p.toInt = p_i) (iz_w : w.toInt = w_i) (iz_ot : ot.toInt = ot_i) (F : FX K V x) : Met l yX11_asks (wsOf yX11_asks cX11_asks 7 (some .boolean)) { frames := 1, cells := 0, slots := 0, locals := 21 } (PC D dA K V sz [.ref x, .int p, .int w, .int ot]) (PQi (fun r => (r.toInt = 0))) 0 0 noFree := by
  refine th_body (by decide +kernel) (Nat.le_of_ble_eq_true rfl) (fun pZ eZ sZ mZ belowZ methZ cZ C hR hsz hnm ls hl => ?_)
  have C : CX pZ sZ mZ [.ref x, .int p, .int w, .int ot].toArray methZ cZ cX11_asks 7 (some .boolean) RX11 D dA := C
  have hx := C.1; have hb := C.2.1
  have hl : lv_has ls 7 [(0, .ref x), (1, .int p), (2, .int w), (3, .int ot)] := hl
  subst hsz
  have hS : ST D dA K sZ.heap K V sZ.heap [] := ST.rf hR
  have r_p := th_rng p; rw [iz_p] at r_p
  have r_w := th_rng w; rw [iz_w] at r_w
  have r_ot := th_rng ot; rw [iz_ot] at r_ot
  have F0 := F
  obtain ⟨la, he, gr, wa, fd, co, sd, lw, rd, se, st, pa, pl, t1, t2, t3, t4, t5, t6, c6, t7, c7, sp, su, hp0, hp1, hp2, hp3, hp4, hp5, hp6, hp7, hp8, hp9, hp10, hp11, hp12, hp13, hp14, hp15, hp16, hp17, hp18, hp19, hp20, hp21, hp22, hp23, hp24, hp25, hp26, hp27, hp28, hp29, hp30, hp31, hp32, hp33, hp34, hp35, hp36, hp37, hp38, hp39, hp40, hp41, hp42, hp43, hp44, hp45, hp46, hp47, hp48, hp49, hp50, hp51, hp52, hp53, hp54, hp55, hp56, hp57, hp58, hp59, hp60, hp61, hp62, hp63, hp64, hp65, hp66, hp67, hp68, hp69, hp70⟩ := F
  refine lv_aload_n hx hb dX11_asks_0 rfl (lv_at hl 0 rfl) ?_
  refine lv_iload_n hx hb dX11_asks_1 rfl (lv_at hl 1 rfl) ?_
  refine th_gor (th_runV (As := [.int p]) (rest := []) C hS.1 (RX11, TX11, 20) rfl gV_RX11_151 hp0 (t_X11_partyOf iz_p hp0 hp31) hl rfl rfl rfl rfl ⟨Nat.le_of_ble_eq_true rfl, Nat.le_of_ble_eq_true rfl⟩ (Nat.le_of_ble_eq_true rfl) ⟨Nat.le_of_ble_eq_true rfl, Nat.le_of_ble_eq_true rfl⟩ dX11_asks_2) ?_
  refine lv_astoreN (lv' := [(4, .null), (0, .ref x), (1, .int p), (2, .int w), (3, .int ot)]) hx hb dX11_asks_5 hl (by decide) rfl (fun ls hl => ?_)
  refine lv_aloadN hx hb dX11_asks_7 (lv_at hl 0 rfl) ?_
  refine lv_ifnullN hx hb (tgt := 44) dX11_asks_9 (by decide) ?_
  refine lv_iconst (v := 0) hx hb dX11_asks_44 (by decide) ?_
  exact th_retz C (by have hfin := li_0; omega) (by have hfin := li_0; omega) dX11_asks_45

set_option maxHeartbeats 400000 in
set_option maxRecDepth 100000 in
theorem t_X11_blocks {l : Launch} {D : va_G} {dA : Nat → ClassId} {K : Kmap} {V : Vmap} {sz : Nat} {x : Nat} {set : Int32} {set_i : Int} (iz_set : set.toInt = set_i) (F : FX K V x) : Met l yX11_blocks (wsOf yX11_blocks cX11_blocks 2 (some .int)) { frames := 1, cells := 0, slots := 0, locals := 24 } (PC D dA K V sz [.ref x, .int set]) (PQi (fun r => (set_i = 0 ∧ r.toInt = 0) ∨ (set_i ≠ 0 ∧ r.toInt = (-1)))) 0 0 noFree := by
  refine th_body (by decide +kernel) (Nat.le_of_ble_eq_true rfl) (fun pZ eZ sZ mZ belowZ methZ cZ C hR hsz hnm ls hl => ?_)
  have C : CX pZ sZ mZ [.ref x, .int set].toArray methZ cZ cX11_blocks 2 (some .int) RX11 D dA := C
  have hx := C.1; have hb := C.2.1
  have hl : lv_has ls 2 [(0, .ref x), (1, .int set)] := hl
  subst hsz
  have hS : ST D dA K sZ.heap K V sZ.heap [] := ST.rf hR
  have r_set := th_rng set; rw [iz_set] at r_set
  have F0 := F
  obtain ⟨la, he, gr, wa, fd, co, sd, lw, rd, se, st, pa, pl, t1, t2, t3, t4, t5, t6, c6, t7, c7, sp, su, hp0, hp1, hp2, hp3, hp4, hp5, hp6, hp7, hp8, hp9, hp10, hp11, hp12, hp13, hp14, hp15, hp16, hp17, hp18, hp19, hp20, hp21, hp22, hp23, hp24, hp25, hp26, hp27, hp28, hp29, hp30, hp31, hp32, hp33, hp34, hp35, hp36, hp37, hp38, hp39, hp40, hp41, hp42, hp43, hp44, hp45, hp46, hp47, hp48, hp49, hp50, hp51, hp52, hp53, hp54, hp55, hp56, hp57, hp58, hp59, hp60, hp61, hp62, hp63, hp64, hp65, hp66, hp67, hp68, hp69, hp70⟩ := F
  refine lv_iload_n hx hb dX11_blocks_0 rfl (lv_at hl 1 rfl) ?_
  refine lv_iconst (v := 0) hx hb dX11_blocks_1 (by decide) ?_
  refine lv_iconst (v := 1) hx hb dX11_blocks_2 (by decide) ?_
  refine lv_aload_n hx hb dX11_blocks_3 rfl (lv_at hl 0 rfl) ?_
  refine th_get C hS.1 hp0 fl_RX11_88 hp52 dX11_blocks_4 ?_
  refine th_get C hS.1 hp53 fl_RX11_199 hp58 dX11_blocks_7 ?_
  refine lv_ishl hx hb dX11_blocks_10 ?_
  refine th_is (w := .int 1) (by decide) ?_
  refine lv_iconst (v := 1) hx hb dX11_blocks_11 (by decide) ?_
  refine lv_isub hx hb dX11_blocks_12 ?_
  refine th_is (w := .int 0) (by decide) ?_
  refine th_goi (th_runS (As := [.int set, .int 0, .int 0]) (rest := []) C hS.1 gS_RX11_112 (t_X11_between iz_set li_0 li_0) hl rfl rfl rfl rfl ⟨Nat.le_of_ble_eq_true rfl, Nat.le_of_ble_eq_true rfl⟩ (Nat.le_of_ble_eq_true rfl) ⟨Nat.le_of_ble_eq_true rfl, Nat.le_of_ble_eq_true rfl⟩ dX11_blocks_13) (fun r3809 hq3810 => ?_)
  refine th_if_eq (X := r3809.toInt) (tgt := 27) hx hb dX11_blocks_16 (by decide) rfl (fun c3811 => ?_) (fun c3811 => ?_)
  · replace hq3810 := Or.resolve_left hq3810 (fun h => absurd h.2 (by omega))
    refine lv_iconst (v := (-1)) hx hb dX11_blocks_27 (by decide) ?_
    exact th_reti C (Or.inr (⟨by omega, li_n1⟩)) dX11_blocks_28
  · replace hq3810 := Or.resolve_right hq3810 (fun h => absurd h.2 (by omega))
    refine lv_aload_n hx hb dX11_blocks_19 rfl (lv_at hl 0 rfl) ?_
    refine lv_iload_n hx hb dX11_blocks_20 rfl (lv_at hl 1 rfl) ?_
    refine th_goi (th_runV (As := [.int set]) (rest := []) C hS.1 (RX11, TX11, 20) rfl gV_RX11_581 hp0 (t_X11_blockers iz_set hp0 hp31) hl rfl rfl rfl rfl ⟨Nat.le_of_ble_eq_true rfl, Nat.le_of_ble_eq_true rfl⟩ (Nat.le_of_ble_eq_true rfl) ⟨Nat.le_of_ble_eq_true rfl, Nat.le_of_ble_eq_true rfl⟩ dX11_blocks_21) (fun r3812 hq3813 => ?_)
    refine lv_goto (tgt := 28) hx hb dX11_blocks_24 (by decide) ?_
    exact th_reti C (Or.inl ⟨by omega, by omega⟩) dX11_blocks_28

set_option maxHeartbeats 400000 in
set_option maxRecDepth 100000 in
theorem t_X11_best {l : Launch} {D : va_G} {dA : Nat → ClassId} {K : Kmap} {V : Vmap} {sz : Nat} {x : Nat} (F : FX K V x) : Met l yX11_best (wsOf yX11_best cX11_best 7 (some .int)) { frames := 1, cells := 0, slots := 0, locals := 24 } (PC D dA K V sz [.ref x]) (PQi (fun r => (r.toInt = 0))) 0 0 noFree := by
  refine th_body (by decide +kernel) (Nat.le_of_ble_eq_true rfl) (fun pZ eZ sZ mZ belowZ methZ cZ C hR hsz hnm ls hl => ?_)
  have C : CX pZ sZ mZ [.ref x].toArray methZ cZ cX11_best 7 (some .int) RX11 D dA := C
  have hx := C.1; have hb := C.2.1
  have hl : lv_has ls 7 [(0, .ref x)] := hl
  subst hsz
  have hS : ST D dA K sZ.heap K V sZ.heap [] := ST.rf hR
  have F0 := F
  obtain ⟨la, he, gr, wa, fd, co, sd, lw, rd, se, st, pa, pl, t1, t2, t3, t4, t5, t6, c6, t7, c7, sp, su, hp0, hp1, hp2, hp3, hp4, hp5, hp6, hp7, hp8, hp9, hp10, hp11, hp12, hp13, hp14, hp15, hp16, hp17, hp18, hp19, hp20, hp21, hp22, hp23, hp24, hp25, hp26, hp27, hp28, hp29, hp30, hp31, hp32, hp33, hp34, hp35, hp36, hp37, hp38, hp39, hp40, hp41, hp42, hp43, hp44, hp45, hp46, hp47, hp48, hp49, hp50, hp51, hp52, hp53, hp54, hp55, hp56, hp57, hp58, hp59, hp60, hp61, hp62, hp63, hp64, hp65, hp66, hp67, hp68, hp69, hp70⟩ := F
  refine lv_aload_n hx hb dX11_best_0 rfl (lv_at hl 0 rfl) ?_
  refine lv_aload_n hx hb dX11_best_1 rfl (lv_at hl 0 rfl) ?_
  refine th_get C hS.1 hp0 fl_RX11_12 hp1 dX11_best_2 ?_
  refine th_get C hS.1 hp2 fl_RX11_145 hp3 dX11_best_5 ?_
  refine th_goi (th_runV (As := [.int 0]) (rest := []) C hS.1 (RX11, TX11, 20) rfl gV_RX11_369 hp0 (t_X11_decidingOn li_0 hp0 hp31) hl rfl rfl rfl rfl ⟨Nat.le_of_ble_eq_true rfl, Nat.le_of_ble_eq_true rfl⟩ (Nat.le_of_ble_eq_true rfl) ⟨Nat.le_of_ble_eq_true rfl, Nat.le_of_ble_eq_true rfl⟩ dX11_best_8) (fun r3814 hq3815 => ?_)
  refine lv_istore_n (lv' := [(1, .int r3814), (0, .ref x)]) hx hb dX11_best_11 rfl hl (by decide) rfl (fun ls hl => ?_)
  refine lv_iconst (v := 0) hx hb dX11_best_12 (by decide) ?_
  refine lv_istore_n (lv' := [(2, .int 0), (1, .int r3814), (0, .ref x)]) hx hb dX11_best_13 rfl hl (by decide) rfl (fun ls hl => ?_)
  refine lv_iconst (v := 0) hx hb dX11_best_14 (by decide) ?_
  refine lv_istore_n (lv' := [(3, .int 0), (2, .int 0), (1, .int r3814), (0, .ref x)]) hx hb dX11_best_15 rfl hl (by decide) rfl (fun ls hl => ?_)
  refine lv_iconst (v := 1) hx hb dX11_best_16 (by decide) ?_
  refine lv_istore (lv' := [(4, .int 1), (3, .int 0), (2, .int 0), (1, .int r3814), (0, .ref x)]) hx hb dX11_best_17 hl (by decide) rfl (fun ls hl => ?_)
  refine lv_iload hx hb dX11_best_19 (lv_at hl 0 rfl) ?_
  refine lv_iconst (v := 1) hx hb dX11_best_21 (by decide) ?_
  refine lv_aload_n hx hb dX11_best_22 rfl (lv_at hl 4 rfl) ?_
  refine th_get C hS.1 hp0 fl_RX11_88 hp52 dX11_best_23 ?_
  refine th_get C hS.1 hp53 fl_RX11_199 hp58 dX11_best_26 ?_
  refine lv_ishl hx hb dX11_best_29 ?_
  refine th_is (w := .int 1) (by decide) ?_
  refine th_icmp_ge (X := 1) (Y := 1) (tgt := 100) hx hb dX11_best_30 (by decide) li_1 li_1 (fun c3816 => ?_) (fun c3816 => absurd c3816 (by omega))
  refine lv_iload_n hx hb dX11_best_100 rfl (lv_at hl 2 rfl) ?_
  exact th_reti C (by have hfin := li_0; omega) dX11_best_101

set_option maxHeartbeats 400000 in
set_option maxRecDepth 100000 in
theorem t_X11_stop {l : Launch} {D : va_G} {dA : Nat → ClassId} {K : Kmap} {V : Vmap} {sz : Nat} {x : Nat} {k nd : Int32} {k_i nd_i : Int} (iz_k : k.toInt = k_i) (iz_nd : nd.toInt = nd_i) (F : FX K V x) : Met l yX11_stop (wsOf yX11_stop cX11_stop 3 (some .int)) { frames := 3, cells := 0, slots := 0, locals := 66 } (PC D dA K V sz [.ref x, .int k, .int nd]) (PQi (fun r => (r.toInt = (-1)))) 0 0 noFree := by
  refine th_body (by decide +kernel) (Nat.le_of_ble_eq_true rfl) (fun pZ eZ sZ mZ belowZ methZ cZ C hR hsz hnm ls hl => ?_)
  have C : CX pZ sZ mZ [.ref x, .int k, .int nd].toArray methZ cZ cX11_stop 3 (some .int) RX11 D dA := C
  have hx := C.1; have hb := C.2.1
  have hl : lv_has ls 3 [(0, .ref x), (1, .int k), (2, .int nd)] := hl
  subst hsz
  have hS : ST D dA K sZ.heap K V sZ.heap [] := ST.rf hR
  have r_k := th_rng k; rw [iz_k] at r_k
  have r_nd := th_rng nd; rw [iz_nd] at r_nd
  have F0 := F
  obtain ⟨la, he, gr, wa, fd, co, sd, lw, rd, se, st, pa, pl, t1, t2, t3, t4, t5, t6, c6, t7, c7, sp, su, hp0, hp1, hp2, hp3, hp4, hp5, hp6, hp7, hp8, hp9, hp10, hp11, hp12, hp13, hp14, hp15, hp16, hp17, hp18, hp19, hp20, hp21, hp22, hp23, hp24, hp25, hp26, hp27, hp28, hp29, hp30, hp31, hp32, hp33, hp34, hp35, hp36, hp37, hp38, hp39, hp40, hp41, hp42, hp43, hp44, hp45, hp46, hp47, hp48, hp49, hp50, hp51, hp52, hp53, hp54, hp55, hp56, hp57, hp58, hp59, hp60, hp61, hp62, hp63, hp64, hp65, hp66, hp67, hp68, hp69, hp70⟩ := F
  refine lv_aload_n hx hb dX11_stop_0 rfl (lv_at hl 0 rfl) ?_
  refine lv_iload_n hx hb dX11_stop_1 rfl (lv_at hl 1 rfl) ?_
  refine th_gor (th_runV (As := [.int k]) (rest := []) C hS.1 (RX11, TX11, 20) rfl gV_RX11_195 hp0 (t_X11_standingStation iz_k hp0 hp34) hl rfl rfl rfl rfl ⟨Nat.le_of_ble_eq_true rfl, Nat.le_of_ble_eq_true rfl⟩ (Nat.le_of_ble_eq_true rfl) ⟨Nat.le_of_ble_eq_true rfl, Nat.le_of_ble_eq_true rfl⟩ dX11_stop_2) ?_
  refine lv_ifnullN hx hb (tgt := 30) dX11_stop_5 (by decide) ?_
  refine lv_iconst (v := (-1)) hx hb dX11_stop_30 (by decide) ?_
  exact th_reti C (by have hfin := li_n1; omega) dX11_stop_31

set_option maxHeartbeats 400000 in
set_option maxRecDepth 100000 in
theorem t_X11_open {l : Launch} {D : va_G} {dA : Nat → ClassId} {K : Kmap} {V : Vmap} {sz : Nat} {x : Nat} {i xx fr to : Int32} {i_i xx_i fr_i to_i : Int} (iz_i : i.toInt = i_i) (iz_xx : xx.toInt = xx_i) (iz_fr : fr.toInt = fr_i) (iz_to : to.toInt = to_i) (F : FX K V x) : Met l yX11_open (wsOf yX11_open cX11_open 5 (some .boolean)) { frames := 1, cells := 0, slots := 0, locals := 22 } (PC D dA K V sz [.ref x, .int i, .int xx, .int fr, .int to]) (PQi (fun r => (r.toInt = 0))) 0 0 noFree := by
  refine th_body (by decide +kernel) (Nat.le_of_ble_eq_true rfl) (fun pZ eZ sZ mZ belowZ methZ cZ C hR hsz hnm ls hl => ?_)
  have C : CX pZ sZ mZ [.ref x, .int i, .int xx, .int fr, .int to].toArray methZ cZ cX11_open 5 (some .boolean) RX11 D dA := C
  have hx := C.1; have hb := C.2.1
  have hl : lv_has ls 5 [(0, .ref x), (1, .int i), (2, .int xx), (3, .int fr), (4, .int to)] := hl
  subst hsz
  have hS : ST D dA K sZ.heap K V sZ.heap [] := ST.rf hR
  have r_i := th_rng i; rw [iz_i] at r_i
  have r_xx := th_rng xx; rw [iz_xx] at r_xx
  have r_fr := th_rng fr; rw [iz_fr] at r_fr
  have r_to := th_rng to; rw [iz_to] at r_to
  have F0 := F
  obtain ⟨la, he, gr, wa, fd, co, sd, lw, rd, se, st, pa, pl, t1, t2, t3, t4, t5, t6, c6, t7, c7, sp, su, hp0, hp1, hp2, hp3, hp4, hp5, hp6, hp7, hp8, hp9, hp10, hp11, hp12, hp13, hp14, hp15, hp16, hp17, hp18, hp19, hp20, hp21, hp22, hp23, hp24, hp25, hp26, hp27, hp28, hp29, hp30, hp31, hp32, hp33, hp34, hp35, hp36, hp37, hp38, hp39, hp40, hp41, hp42, hp43, hp44, hp45, hp46, hp47, hp48, hp49, hp50, hp51, hp52, hp53, hp54, hp55, hp56, hp57, hp58, hp59, hp60, hp61, hp62, hp63, hp64, hp65, hp66, hp67, hp68, hp69, hp70⟩ := F
  refine lv_iload_n hx hb dX11_open_0 rfl (lv_at hl 1 rfl) ?_
  refine lv_iconst (v := 0) hx hb dX11_open_1 (by decide) ?_
  refine lv_iconst (v := 2) hx hb dX11_open_2 (by decide) ?_
  refine th_goi (th_runS (As := [.int i, .int 0, .int 2]) (rest := []) C hS.1 gS_RX11_112 (t_X11_between iz_i li_0 li_2) hl rfl rfl rfl rfl ⟨Nat.le_of_ble_eq_true rfl, Nat.le_of_ble_eq_true rfl⟩ (Nat.le_of_ble_eq_true rfl) ⟨Nat.le_of_ble_eq_true rfl, Nat.le_of_ble_eq_true rfl⟩ dX11_open_3) (fun r3819 hq3820 => ?_)
  refine th_if_eq (X := r3819.toInt) (tgt := 32) hx hb dX11_open_6 (by decide) rfl (fun c3821 => ?_) (fun c3821 => ?_)
  · replace hq3820 := Or.resolve_left hq3820 (fun h => absurd h.2 (by omega))
    refine lv_iconst (v := 0) hx hb dX11_open_32 (by decide) ?_
    exact th_retz C (by have hfin := li_0; omega) (by have hfin := li_0; omega) dX11_open_33
  · replace hq3820 := Or.resolve_right hq3820 (fun h => absurd h.2 (by omega))
    refine lv_aload_n hx hb dX11_open_9 rfl (lv_at hl 0 rfl) ?_
    refine th_get C hS.1 hp0 fl_RX11_26 hp24 dX11_open_10 ?_
    refine th_get C hS.1 hp25 fl_RX11_593 hp26 dX11_open_13 ?_
    refine lv_iload_n hx hb dX11_open_16 rfl (lv_at hl 2 rfl) ?_
    refine th_goi (th_runV (As := [.int xx]) (rest := []) C hS.1 (RX8, TX8, 4) rfl gV_RX11_431 hp27 (t_X8_has iz_xx hp27 hp28) hl rfl rfl rfl rfl ⟨Nat.le_of_ble_eq_true rfl, Nat.le_of_ble_eq_true rfl⟩ (Nat.le_of_ble_eq_true rfl) ⟨Nat.le_of_ble_eq_true rfl, Nat.le_of_ble_eq_true rfl⟩ dX11_open_17) (fun r3822 hq3823 => ?_)
    refine th_if_eq (X := r3822.toInt) (tgt := 32) hx hb dX11_open_20 (by decide) rfl (fun c3824 => ?_) (fun c3824 => absurd c3824 (by omega))
    refine lv_iconst (v := 0) hx hb dX11_open_32 (by decide) ?_
    exact th_retz C (by have hfin := li_0; omega) (by have hfin := li_0; omega) dX11_open_33

set_option maxHeartbeats 400000 in
set_option maxRecDepth 100000 in
theorem t_X11_plan {l : Launch} {D : va_G} {dA : Nat → ClassId} {K : Kmap} {V : Vmap} {sz : Nat} {x : Nat} {sh1 se1 fr : Int32} {sh1_i se1_i fr_i : Int} (iz_sh1 : sh1.toInt = sh1_i) (iz_se1 : se1.toInt = se1_i) (iz_fr : fr.toInt = fr_i) (F : FX K V x) : Met l yX11_plan (wsOf yX11_plan cX11_plan 6 (some .int)) { frames := 1, cells := 0, slots := 0, locals := 21 } (PC D dA K V sz [.ref x, .int sh1, .int se1, .int fr]) (PQi (fun r => (r.toInt = (-1)))) 0 0 noFree := by
  refine th_body (by decide +kernel) (Nat.le_of_ble_eq_true rfl) (fun pZ eZ sZ mZ belowZ methZ cZ C hR hsz hnm ls hl => ?_)
  have C : CX pZ sZ mZ [.ref x, .int sh1, .int se1, .int fr].toArray methZ cZ cX11_plan 6 (some .int) RX11 D dA := C
  have hx := C.1; have hb := C.2.1
  have hl : lv_has ls 6 [(0, .ref x), (1, .int sh1), (2, .int se1), (3, .int fr)] := hl
  subst hsz
  have hS : ST D dA K sZ.heap K V sZ.heap [] := ST.rf hR
  have r_sh1 := th_rng sh1; rw [iz_sh1] at r_sh1
  have r_se1 := th_rng se1; rw [iz_se1] at r_se1
  have r_fr := th_rng fr; rw [iz_fr] at r_fr
  have F0 := F
  obtain ⟨la, he, gr, wa, fd, co, sd, lw, rd, se, st, pa, pl, t1, t2, t3, t4, t5, t6, c6, t7, c7, sp, su, hp0, hp1, hp2, hp3, hp4, hp5, hp6, hp7, hp8, hp9, hp10, hp11, hp12, hp13, hp14, hp15, hp16, hp17, hp18, hp19, hp20, hp21, hp22, hp23, hp24, hp25, hp26, hp27, hp28, hp29, hp30, hp31, hp32, hp33, hp34, hp35, hp36, hp37, hp38, hp39, hp40, hp41, hp42, hp43, hp44, hp45, hp46, hp47, hp48, hp49, hp50, hp51, hp52, hp53, hp54, hp55, hp56, hp57, hp58, hp59, hp60, hp61, hp62, hp63, hp64, hp65, hp66, hp67, hp68, hp69, hp70⟩ := F
  refine lv_aload_n hx hb dX11_plan_0 rfl (lv_at hl 0 rfl) ?_
  refine lv_iload_n hx hb dX11_plan_1 rfl (lv_at hl 1 rfl) ?_
  refine th_gor (th_runV (As := [.int sh1]) (rest := []) C hS.1 (RX11, TX11, 20) rfl gV_RX11_403 hp0 (t_X11_shipOf iz_sh1 hp0 hp36) hl rfl rfl rfl rfl ⟨Nat.le_of_ble_eq_true rfl, Nat.le_of_ble_eq_true rfl⟩ (Nat.le_of_ble_eq_true rfl) ⟨Nat.le_of_ble_eq_true rfl, Nat.le_of_ble_eq_true rfl⟩ dX11_plan_2) ?_
  refine lv_astoreN (lv' := [(4, .null), (0, .ref x), (1, .int sh1), (2, .int se1), (3, .int fr)]) hx hb dX11_plan_5 hl (by decide) rfl (fun ls hl => ?_)
  refine lv_aloadN hx hb dX11_plan_7 (lv_at hl 0 rfl) ?_
  refine lv_ifnullN hx hb (tgt := 30) dX11_plan_9 (by decide) ?_
  refine lv_iconst (v := (-1)) hx hb dX11_plan_30 (by decide) ?_
  exact th_reti C (by have hfin := li_n1; omega) dX11_plan_31

set_option maxHeartbeats 400000 in
set_option maxRecDepth 100000 in
theorem t_X11_planned {l : Launch} {D : va_G} {dA : Nat → ClassId} {K : Kmap} {V : Vmap} {sz : Nat} {x : Nat} {sh1 se1 fr i : Int32} {sh1_i se1_i fr_i i_i : Int} (iz_sh1 : sh1.toInt = sh1_i) (iz_se1 : se1.toInt = se1_i) (iz_fr : fr.toInt = fr_i) (iz_i : i.toInt = i_i) (F : FX K V x) : Met l yX11_planned (wsOf yX11_planned cX11_planned 5 (some .int)) { frames := 2, cells := 0, slots := 0, locals := 46 } (PC D dA K V sz [.ref x, .int sh1, .int se1, .int fr, .int i]) (PQi (fun r => (r.toInt = (-1)))) 0 0 noFree := by
  refine th_body (by decide +kernel) (Nat.le_of_ble_eq_true rfl) (fun pZ eZ sZ mZ belowZ methZ cZ C hR hsz hnm ls hl => ?_)
  have C : CX pZ sZ mZ [.ref x, .int sh1, .int se1, .int fr, .int i].toArray methZ cZ cX11_planned 5 (some .int) RX11 D dA := C
  have hx := C.1; have hb := C.2.1
  have hl : lv_has ls 5 [(0, .ref x), (1, .int sh1), (2, .int se1), (3, .int fr), (4, .int i)] := hl
  subst hsz
  have hS : ST D dA K sZ.heap K V sZ.heap [] := ST.rf hR
  have r_sh1 := th_rng sh1; rw [iz_sh1] at r_sh1
  have r_se1 := th_rng se1; rw [iz_se1] at r_se1
  have r_fr := th_rng fr; rw [iz_fr] at r_fr
  have r_i := th_rng i; rw [iz_i] at r_i
  have F0 := F
  obtain ⟨la, he, gr, wa, fd, co, sd, lw, rd, se, st, pa, pl, t1, t2, t3, t4, t5, t6, c6, t7, c7, sp, su, hp0, hp1, hp2, hp3, hp4, hp5, hp6, hp7, hp8, hp9, hp10, hp11, hp12, hp13, hp14, hp15, hp16, hp17, hp18, hp19, hp20, hp21, hp22, hp23, hp24, hp25, hp26, hp27, hp28, hp29, hp30, hp31, hp32, hp33, hp34, hp35, hp36, hp37, hp38, hp39, hp40, hp41, hp42, hp43, hp44, hp45, hp46, hp47, hp48, hp49, hp50, hp51, hp52, hp53, hp54, hp55, hp56, hp57, hp58, hp59, hp60, hp61, hp62, hp63, hp64, hp65, hp66, hp67, hp68, hp69, hp70⟩ := F
  refine lv_aload_n hx hb dX11_planned_0 rfl (lv_at hl 0 rfl) ?_
  refine lv_iload_n hx hb dX11_planned_1 rfl (lv_at hl 1 rfl) ?_
  refine lv_iload_n hx hb dX11_planned_2 rfl (lv_at hl 2 rfl) ?_
  refine lv_iload_n hx hb dX11_planned_3 rfl (lv_at hl 3 rfl) ?_
  refine th_goi (th_runV (As := [.int sh1, .int se1, .int fr]) (rest := []) C hS.1 (RX11, TX11, 20) rfl gV_RX11_617 hp0 (t_X11_plan iz_sh1 iz_se1 iz_fr F0) hl rfl rfl rfl rfl ⟨Nat.le_of_ble_eq_true rfl, Nat.le_of_ble_eq_true rfl⟩ (Nat.le_of_ble_eq_true rfl) ⟨Nat.le_of_ble_eq_true rfl, Nat.le_of_ble_eq_true rfl⟩ dX11_planned_4) (fun r3827 hq3828 => ?_)
  refine lv_iconst (v := (-1)) hx hb dX11_planned_7 (by decide) ?_
  refine th_icmp_eq (X := r3827.toInt) (Y := (-1)) (tgt := 26) hx hb dX11_planned_8 (by decide) rfl li_n1 (fun c3829 => ?_) (fun c3829 => absurd c3829 (by omega))
  refine lv_iconst (v := (-1)) hx hb dX11_planned_26 (by decide) ?_
  exact th_reti C (by have hfin := li_n1; omega) dX11_planned_27

set_option maxHeartbeats 400000 in
set_option maxRecDepth 100000 in
theorem t_X11_report {l : Launch} {D : va_G} {dA : Nat → ClassId} {K : Kmap} {V : Vmap} {sz : Nat} {x : Nat} {k dy n is1 : Int32} {k_i dy_i n_i is1_i : Int} (iz_k : k.toInt = k_i) (iz_dy : dy.toInt = dy_i) (iz_n : n.toInt = n_i) (iz_is1 : is1.toInt = is1_i) (F : FX K V x) : Met l yX11_report (wsOf yX11_report cX11_report 5 (some .boolean)) { frames := 2, cells := 0, slots := 0, locals := 44 } (PC D dA K V sz [.ref x, .int k, .int dy, .int n, .int is1]) (PQi (fun r => (r.toInt = 0))) 0 0 noFree := by
  refine th_body (by decide +kernel) (Nat.le_of_ble_eq_true rfl) (fun pZ eZ sZ mZ belowZ methZ cZ C hR hsz hnm ls hl => ?_)
  have C : CX pZ sZ mZ [.ref x, .int k, .int dy, .int n, .int is1].toArray methZ cZ cX11_report 5 (some .boolean) RX11 D dA := C
  have hx := C.1; have hb := C.2.1
  have hl : lv_has ls 5 [(0, .ref x), (1, .int k), (2, .int dy), (3, .int n), (4, .int is1)] := hl
  subst hsz
  have hS : ST D dA K sZ.heap K V sZ.heap [] := ST.rf hR
  have r_k := th_rng k; rw [iz_k] at r_k
  have r_dy := th_rng dy; rw [iz_dy] at r_dy
  have r_n := th_rng n; rw [iz_n] at r_n
  have r_is1 := th_rng is1; rw [iz_is1] at r_is1
  have F0 := F
  obtain ⟨la, he, gr, wa, fd, co, sd, lw, rd, se, st, pa, pl, t1, t2, t3, t4, t5, t6, c6, t7, c7, sp, su, hp0, hp1, hp2, hp3, hp4, hp5, hp6, hp7, hp8, hp9, hp10, hp11, hp12, hp13, hp14, hp15, hp16, hp17, hp18, hp19, hp20, hp21, hp22, hp23, hp24, hp25, hp26, hp27, hp28, hp29, hp30, hp31, hp32, hp33, hp34, hp35, hp36, hp37, hp38, hp39, hp40, hp41, hp42, hp43, hp44, hp45, hp46, hp47, hp48, hp49, hp50, hp51, hp52, hp53, hp54, hp55, hp56, hp57, hp58, hp59, hp60, hp61, hp62, hp63, hp64, hp65, hp66, hp67, hp68, hp69, hp70⟩ := F
  refine lv_aload_n hx hb dX11_report_0 rfl (lv_at hl 0 rfl) ?_
  refine lv_iload_n hx hb dX11_report_1 rfl (lv_at hl 1 rfl) ?_
  refine lv_iconst (v := 1) hx hb dX11_report_2 (by decide) ?_
  refine th_gor (th_runV (As := [.int k, .int 1]) (rest := []) C hS.1 (RX11, TX11, 20) rfl gV_RX11_169 hp0 (t_X11_placeOf iz_k li_1 hp0 hp34) hl rfl rfl rfl rfl ⟨Nat.le_of_ble_eq_true rfl, Nat.le_of_ble_eq_true rfl⟩ (Nat.le_of_ble_eq_true rfl) ⟨Nat.le_of_ble_eq_true rfl, Nat.le_of_ble_eq_true rfl⟩ dX11_report_3) ?_
  refine lv_ifnullN hx hb (tgt := 24) dX11_report_6 (by decide) ?_
  refine lv_iconst (v := 0) hx hb dX11_report_24 (by decide) ?_
  exact th_retz C (by have hfin := li_0; omega) (by have hfin := li_0; omega) dX11_report_25

set_option maxHeartbeats 400000 in
set_option maxRecDepth 100000 in
theorem t_X11_known {l : Launch} {D : va_G} {dA : Nat → ClassId} {K : Kmap} {V : Vmap} {sz : Nat} {x : Nat} {k d tt : Int32} {k_i d_i tt_i : Int} (iz_k : k.toInt = k_i) (iz_d : d.toInt = d_i) (iz_tt : tt.toInt = tt_i) (F : FX K V x) : Met l yX11_known (wsOf yX11_known cX11_known 9 (some .int)) { frames := 2, cells := 0, slots := 0, locals := 44 } (PC D dA K V sz [.ref x, .int k, .int d, .int tt]) (PQi (fun r => (r.toInt = (-1000001)))) 0 0 noFree := by
  refine th_body (by decide +kernel) (Nat.le_of_ble_eq_true rfl) (fun pZ eZ sZ mZ belowZ methZ cZ C hR hsz hnm ls hl => ?_)
  have C : CX pZ sZ mZ [.ref x, .int k, .int d, .int tt].toArray methZ cZ cX11_known 9 (some .int) RX11 D dA := C
  have hx := C.1; have hb := C.2.1
  have hl : lv_has ls 9 [(0, .ref x), (1, .int k), (2, .int d), (3, .int tt)] := hl
  subst hsz
  have hS : ST D dA K sZ.heap K V sZ.heap [] := ST.rf hR
  have r_k := th_rng k; rw [iz_k] at r_k
  have r_d := th_rng d; rw [iz_d] at r_d
  have r_tt := th_rng tt; rw [iz_tt] at r_tt
  have F0 := F
  obtain ⟨la, he, gr, wa, fd, co, sd, lw, rd, se, st, pa, pl, t1, t2, t3, t4, t5, t6, c6, t7, c7, sp, su, hp0, hp1, hp2, hp3, hp4, hp5, hp6, hp7, hp8, hp9, hp10, hp11, hp12, hp13, hp14, hp15, hp16, hp17, hp18, hp19, hp20, hp21, hp22, hp23, hp24, hp25, hp26, hp27, hp28, hp29, hp30, hp31, hp32, hp33, hp34, hp35, hp36, hp37, hp38, hp39, hp40, hp41, hp42, hp43, hp44, hp45, hp46, hp47, hp48, hp49, hp50, hp51, hp52, hp53, hp54, hp55, hp56, hp57, hp58, hp59, hp60, hp61, hp62, hp63, hp64, hp65, hp66, hp67, hp68, hp69, hp70⟩ := F
  refine lv_aload_n hx hb dX11_known_0 rfl (lv_at hl 0 rfl) ?_
  refine lv_iload_n hx hb dX11_known_1 rfl (lv_at hl 1 rfl) ?_
  refine lv_iconst (v := 1) hx hb dX11_known_2 (by decide) ?_
  refine th_gor (th_runV (As := [.int k, .int 1]) (rest := []) C hS.1 (RX11, TX11, 20) rfl gV_RX11_169 hp0 (t_X11_placeOf iz_k li_1 hp0 hp34) hl rfl rfl rfl rfl ⟨Nat.le_of_ble_eq_true rfl, Nat.le_of_ble_eq_true rfl⟩ (Nat.le_of_ble_eq_true rfl) ⟨Nat.le_of_ble_eq_true rfl, Nat.le_of_ble_eq_true rfl⟩ dX11_known_3) ?_
  refine lv_ifnullN hx hb (tgt := 23) dX11_known_6 (by decide) ?_
  refine lv_ldcw (v := (-1000001)) hx hb C.2.2.2.2.2.1 (C.2.2.2.2.2.2.1 _ gw_1426) dX11_known_23 ?_
  exact th_reti C (by have hfin := li_n1000001; omega) dX11_known_26

set_option maxHeartbeats 400000 in
set_option maxRecDepth 100000 in
theorem t_X11_check {l : Launch} {D : va_G} {dA : Nat → ClassId} {K : Kmap} {V : Vmap} {sz : Nat} {x : Nat} {n : Int32} {n_i : Int} (iz_n : n.toInt = n_i) (F : FX K V x) : Met l yX11_check (wsOf yX11_check cX11_check 3 (some .int)) { frames := 1, cells := 0, slots := 0, locals := 24 } (PC D dA K V sz [.ref x, .int n]) (HQi D dA K (fun r K1 V1 => (∀ b, K b = some (0, 11) → V1 b = V b) ∧ ((n_i = 0 ∧ r.toInt = (-1)) ∨ (n_i ≠ 0 ∧ r.toInt = (-2))))) 0 0 (AK K sz) := by
  refine th_body (by decide +kernel) (Nat.le_of_ble_eq_true rfl) (fun pZ eZ sZ mZ belowZ methZ cZ C hR hsz hnm ls hl => ?_)
  have C : CX pZ sZ mZ [.ref x, .int n].toArray methZ cZ cX11_check 3 (some .int) RX11 D dA := C
  have hx := C.1; have hb := C.2.1
  have hl : lv_has ls 3 [(0, .ref x), (1, .int n)] := hl
  subst hsz
  have hS : ST D dA K sZ.heap K V sZ.heap [] := ST.rf hR
  have r_n := th_rng n; rw [iz_n] at r_n
  have F0 := F
  obtain ⟨la, he, gr, wa, fd, co, sd, lw, rd, se, st, pa, pl, t1, t2, t3, t4, t5, t6, c6, t7, c7, sp, su, hp0, hp1, hp2, hp3, hp4, hp5, hp6, hp7, hp8, hp9, hp10, hp11, hp12, hp13, hp14, hp15, hp16, hp17, hp18, hp19, hp20, hp21, hp22, hp23, hp24, hp25, hp26, hp27, hp28, hp29, hp30, hp31, hp32, hp33, hp34, hp35, hp36, hp37, hp38, hp39, hp40, hp41, hp42, hp43, hp44, hp45, hp46, hp47, hp48, hp49, hp50, hp51, hp52, hp53, hp54, hp55, hp56, hp57, hp58, hp59, hp60, hp61, hp62, hp63, hp64, hp65, hp66, hp67, hp68, hp69, hp70⟩ := F
  refine lv_iload_n hx hb dX11_check_0 rfl (lv_at hl 1 rfl) ?_
  refine th_if_lt (X := n_i) (tgt := 18) hx hb dX11_check_1 (by decide) iz_n (fun c3834 => ?_) (fun c3834 => ?_)
  · refine lv_bipush (v := (-2)) hx hb dX11_check_18 (by decide) ?_
    exact th_retiH (post := fun r K1 V1 => (∀ b, K b = some (0, 11) → V1 b = V b) ∧ ((n_i = 0 ∧ r.toInt = (-1)) ∨ (n_i ≠ 0 ∧ r.toInt = (-2)))) (cells := 0) (slots := 0) (mc := 0) (ms := 0) C hS ⟨(fun b hb => rfl), (Or.inr (⟨by omega, li_n2⟩))⟩ (Nat.le_of_ble_eq_true rfl) (Nat.le_of_ble_eq_true rfl) dX11_check_20
  · refine lv_iload_n hx hb dX11_check_4 rfl (lv_at hl 1 rfl) ?_
    refine lv_aload_n hx hb dX11_check_5 rfl (lv_at hl 0 rfl) ?_
    refine th_get C hS.1 hp0 fl_RX11_91 hp59 dX11_check_6 ?_
    refine th_get C hS.1 hp60 fl_RX11_199 hp65 dX11_check_9 ?_
    refine lv_bipush (v := 8) hx hb dX11_check_12 (by decide) ?_
    refine lv_idiv hx hb dX11_check_14 (by decide) ?_
    refine th_is (w := .int 0) (by decide) ?_
    refine th_icmp_le (X := n_i) (Y := 0) (tgt := 21) hx hb dX11_check_15 (by decide) iz_n li_0 (fun c3835 => ?_) (fun c3835 => ?_)
    · refine lv_aload_n hx hb dX11_check_21 rfl (lv_at hl 0 rfl) ?_
      refine lv_iconst (v := 2) hx hb dX11_check_22 (by decide) ?_
      refine lv_iload_n hx hb dX11_check_23 rfl (lv_at hl 1 rfl) ?_
      refine lv_imul hx hb dX11_check_24 ?_
      refine th_top (X := (2 * n_i)) (th_mul li_2 iz_n (by omega) (by omega)) (fun z3836 hz3836 => ?_)
      refine th_goi (th_runV (As := [.int z3836]) (rest := []) C hS.1 (RX11, TX11, 20) rfl gV_RX11_627 hp0 (t_X11_firstWrong hz3836 hp0 hp34) hl rfl rfl rfl rfl ⟨Nat.le_of_ble_eq_true rfl, Nat.le_of_ble_eq_true rfl⟩ (Nat.le_of_ble_eq_true rfl) ⟨Nat.le_of_ble_eq_true rfl, Nat.le_of_ble_eq_true rfl⟩ dX11_check_25) (fun r3837 hq3838 => ?_)
      refine lv_istore_n (lv' := [(2, .int r3837), (0, .ref x), (1, .int n)]) hx hb dX11_check_28 rfl hl (by decide) rfl (fun ls hl => ?_)
      refine lv_aload_n hx hb dX11_check_29 rfl (lv_at hl 1 rfl) ?_
      refine th_get C hS.1 hp0 fl_RX11_91 hp59 dX11_check_30 ?_
      refine lv_iconst (v := 0) hx hb dX11_check_33 (by decide) ?_
      refine th_put C hS hp60 fp_RX11_199 rfl rfl dX11_check_34 (fun V3839 H locs1 hV3840 hS => ?_)
      refine lv_iload_n hx hb dX11_check_37 rfl (lv_at hl 0 rfl) ?_
      exact th_retiH (post := fun r K1 V1 => (∀ b, K b = some (0, 11) → V1 b = V b) ∧ ((n_i = 0 ∧ r.toInt = (-1)) ∨ (n_i ≠ 0 ∧ r.toInt = (-2)))) (cells := 0) (slots := 0) (mc := 0) (ms := 0) C hS ⟨(fun b hb  => (uq_other hV3840 (K_ne hb hp60 (by decide)))), (Or.inl ⟨by omega, by omega⟩)⟩ (Nat.le_of_ble_eq_true rfl) (Nat.le_of_ble_eq_true rfl) dX11_check_38
    · refine lv_bipush (v := (-2)) hx hb dX11_check_18 (by decide) ?_
      exact th_retiH (post := fun r K1 V1 => (∀ b, K b = some (0, 11) → V1 b = V b) ∧ ((n_i = 0 ∧ r.toInt = (-1)) ∨ (n_i ≠ 0 ∧ r.toInt = (-2)))) (cells := 0) (slots := 0) (mc := 0) (ms := 0) C hS ⟨(fun b hb => rfl), (Or.inr (⟨by omega, li_n2⟩))⟩ (Nat.le_of_ble_eq_true rfl) (Nat.le_of_ble_eq_true rfl) dX11_check_20

set_option maxHeartbeats 400000 in
set_option maxRecDepth 100000 in
theorem t_X11_look {l : Launch} {D : va_G} {dA : Nat → ClassId} {K : Kmap} {V : Vmap} {sz : Nat} {x : Nat} {k wh : Int32} {k_i wh_i : Int} (iz_k : k.toInt = k_i) (iz_wh : wh.toInt = wh_i) (F : FX K V x) : Met l yX11_look (wsOf yX11_look cX11_look 4 (some .int)) { frames := 1, cells := 0, slots := 0, locals := 21 } (PC D dA K V sz [.ref x, .int k, .int wh]) (PQi (fun r => (r.toInt = (-1)))) 0 0 noFree := by
  refine th_body (by decide +kernel) (Nat.le_of_ble_eq_true rfl) (fun pZ eZ sZ mZ belowZ methZ cZ C hR hsz hnm ls hl => ?_)
  have C : CX pZ sZ mZ [.ref x, .int k, .int wh].toArray methZ cZ cX11_look 4 (some .int) RX11 D dA := C
  have hx := C.1; have hb := C.2.1
  have hl : lv_has ls 4 [(0, .ref x), (1, .int k), (2, .int wh)] := hl
  subst hsz
  have hS : ST D dA K sZ.heap K V sZ.heap [] := ST.rf hR
  have r_k := th_rng k; rw [iz_k] at r_k
  have r_wh := th_rng wh; rw [iz_wh] at r_wh
  have F0 := F
  obtain ⟨la, he, gr, wa, fd, co, sd, lw, rd, se, st, pa, pl, t1, t2, t3, t4, t5, t6, c6, t7, c7, sp, su, hp0, hp1, hp2, hp3, hp4, hp5, hp6, hp7, hp8, hp9, hp10, hp11, hp12, hp13, hp14, hp15, hp16, hp17, hp18, hp19, hp20, hp21, hp22, hp23, hp24, hp25, hp26, hp27, hp28, hp29, hp30, hp31, hp32, hp33, hp34, hp35, hp36, hp37, hp38, hp39, hp40, hp41, hp42, hp43, hp44, hp45, hp46, hp47, hp48, hp49, hp50, hp51, hp52, hp53, hp54, hp55, hp56, hp57, hp58, hp59, hp60, hp61, hp62, hp63, hp64, hp65, hp66, hp67, hp68, hp69, hp70⟩ := F
  refine lv_aload_n hx hb dX11_look_0 rfl (lv_at hl 0 rfl) ?_
  refine lv_iload_n hx hb dX11_look_1 rfl (lv_at hl 1 rfl) ?_
  refine th_gor (th_runV (As := [.int k]) (rest := []) C hS.1 (RX11, TX11, 20) rfl gV_RX11_384 hp0 (t_X11_anyPlace iz_k hp0 hp34) hl rfl rfl rfl rfl ⟨Nat.le_of_ble_eq_true rfl, Nat.le_of_ble_eq_true rfl⟩ (Nat.le_of_ble_eq_true rfl) ⟨Nat.le_of_ble_eq_true rfl, Nat.le_of_ble_eq_true rfl⟩ dX11_look_2) ?_
  refine lv_astore_nN (lv' := [(3, .null), (0, .ref x), (1, .int k), (2, .int wh)]) hx hb dX11_look_5 rfl hl (by decide) rfl (fun ls hl => ?_)
  refine lv_aload_nN hx hb dX11_look_6 rfl (lv_at hl 0 rfl) ?_
  refine lv_ifnonnullN hx hb dX11_look_7 ?_
  refine lv_iconst (v := (-1)) hx hb dX11_look_10 (by decide) ?_
  exact th_reti C (by have hfin := li_n1; omega) dX11_look_11

set_option maxHeartbeats 400000 in
set_option maxRecDepth 100000 in
theorem t_X11_at {l : Launch} {D : va_G} {dA : Nat → ClassId} {K : Kmap} {V : Vmap} {sz : Nat} {x : Nat} {sh1 wh : Int32} {sh1_i wh_i : Int} (iz_sh1 : sh1.toInt = sh1_i) (iz_wh : wh.toInt = wh_i) (F : FX K V x) : Met l yX11_at (wsOf yX11_at cX11_at 4 (some .int)) { frames := 1, cells := 0, slots := 0, locals := 21 } (PC D dA K V sz [.ref x, .int sh1, .int wh]) (PQi (fun r => (r.toInt = (-1)))) 0 0 noFree := by
  refine th_body (by decide +kernel) (Nat.le_of_ble_eq_true rfl) (fun pZ eZ sZ mZ belowZ methZ cZ C hR hsz hnm ls hl => ?_)
  have C : CX pZ sZ mZ [.ref x, .int sh1, .int wh].toArray methZ cZ cX11_at 4 (some .int) RX11 D dA := C
  have hx := C.1; have hb := C.2.1
  have hl : lv_has ls 4 [(0, .ref x), (1, .int sh1), (2, .int wh)] := hl
  subst hsz
  have hS : ST D dA K sZ.heap K V sZ.heap [] := ST.rf hR
  have r_sh1 := th_rng sh1; rw [iz_sh1] at r_sh1
  have r_wh := th_rng wh; rw [iz_wh] at r_wh
  have F0 := F
  obtain ⟨la, he, gr, wa, fd, co, sd, lw, rd, se, st, pa, pl, t1, t2, t3, t4, t5, t6, c6, t7, c7, sp, su, hp0, hp1, hp2, hp3, hp4, hp5, hp6, hp7, hp8, hp9, hp10, hp11, hp12, hp13, hp14, hp15, hp16, hp17, hp18, hp19, hp20, hp21, hp22, hp23, hp24, hp25, hp26, hp27, hp28, hp29, hp30, hp31, hp32, hp33, hp34, hp35, hp36, hp37, hp38, hp39, hp40, hp41, hp42, hp43, hp44, hp45, hp46, hp47, hp48, hp49, hp50, hp51, hp52, hp53, hp54, hp55, hp56, hp57, hp58, hp59, hp60, hp61, hp62, hp63, hp64, hp65, hp66, hp67, hp68, hp69, hp70⟩ := F
  refine lv_aload_n hx hb dX11_at_0 rfl (lv_at hl 0 rfl) ?_
  refine lv_iload_n hx hb dX11_at_1 rfl (lv_at hl 1 rfl) ?_
  refine th_gor (th_runV (As := [.int sh1]) (rest := []) C hS.1 (RX11, TX11, 20) rfl gV_RX11_403 hp0 (t_X11_shipOf iz_sh1 hp0 hp36) hl rfl rfl rfl rfl ⟨Nat.le_of_ble_eq_true rfl, Nat.le_of_ble_eq_true rfl⟩ (Nat.le_of_ble_eq_true rfl) ⟨Nat.le_of_ble_eq_true rfl, Nat.le_of_ble_eq_true rfl⟩ dX11_at_2) ?_
  refine lv_astore_nN (lv' := [(3, .null), (0, .ref x), (1, .int sh1), (2, .int wh)]) hx hb dX11_at_5 rfl hl (by decide) rfl (fun ls hl => ?_)
  refine lv_aload_nN hx hb dX11_at_6 rfl (lv_at hl 0 rfl) ?_
  refine lv_ifnonnullN hx hb dX11_at_7 ?_
  refine lv_iconst (v := (-1)) hx hb dX11_at_10 (by decide) ?_
  exact th_reti C (by have hfin := li_n1; omega) dX11_at_11
