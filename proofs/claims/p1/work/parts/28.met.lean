set_option maxHeartbeats 400000 in
set_option maxRecDepth 100000 in
theorem t_X11_text {l : Launch} {D : va_G} {dA : Nat → ClassId} {K : Kmap} {V : Vmap} {sz : Nat} {x : Nat} {fr to n : Int32} {fr_i to_i n_i : Int} (iz_fr : fr.toInt = fr_i) (iz_to : to.toInt = to_i) (iz_n : n.toInt = n_i) (F : FX K V x) : Met l yX11_text (wsOf yX11_text cX11_text 6 (some .int)) { frames := 1, cells := 0, slots := 0, locals := 22 } (PC D dA K V sz [.ref x, .int fr, .int to, .int n]) (PQi (fun r => (r.toInt = (-1)))) 0 0 noFree := by
  refine th_body (by decide +kernel) (Nat.le_of_ble_eq_true rfl) (fun pZ eZ sZ mZ belowZ methZ cZ C hR hsz hnm ls hl => ?_)
  have C : CX pZ sZ mZ [.ref x, .int fr, .int to, .int n].toArray methZ cZ cX11_text 6 (some .int) RX11 D dA := C
  have hx := C.1; have hb := C.2.1
  have hl : lv_has ls 6 [(0, .ref x), (1, .int fr), (2, .int to), (3, .int n)] := hl
  subst hsz
  have hS : ST D dA K sZ.heap K V sZ.heap [] := ST.rf hR
  have r_fr := th_rng fr; rw [iz_fr] at r_fr
  have r_to := th_rng to; rw [iz_to] at r_to
  have r_n := th_rng n; rw [iz_n] at r_n
  have F0 := F
  obtain ⟨la, he, gr, wa, fd, co, sd, lw, rd, se, st, pa, pl, t1, t2, t3, t4, t5, t6, c6, t7, c7, sp, su, hp0, hp1, hp2, hp3, hp4, hp5, hp6, hp7, hp8, hp9, hp10, hp11, hp12, hp13, hp14, hp15, hp16, hp17, hp18, hp19, hp20, hp21, hp22, hp23, hp24, hp25, hp26, hp27, hp28, hp29, hp30, hp31, hp32, hp33, hp34, hp35, hp36, hp37, hp38, hp39, hp40, hp41, hp42, hp43, hp44, hp45, hp46, hp47, hp48, hp49, hp50, hp51, hp52, hp53, hp54, hp55, hp56, hp57, hp58, hp59, hp60, hp61, hp62, hp63, hp64, hp65, hp66, hp67, hp68, hp69, hp70⟩ := F
  refine lv_iload_n hx hb dX11_text_0 rfl (lv_at hl 1 rfl) ?_
  refine lv_iload_n hx hb dX11_text_1 rfl (lv_at hl 2 rfl) ?_
  refine th_goi (th_runS (As := [.int fr, .int to]) (rest := []) C hS.1 gS_RX11_213 (t_X11_areDays iz_fr iz_to) hl rfl rfl rfl rfl ⟨Nat.le_of_ble_eq_true rfl, Nat.le_of_ble_eq_true rfl⟩ (Nat.le_of_ble_eq_true rfl) ⟨Nat.le_of_ble_eq_true rfl, Nat.le_of_ble_eq_true rfl⟩ dX11_text_2) (fun r3617 hq3618 => ?_)
  refine th_if_eq (X := r3617.toInt) (tgt := 42) hx hb dX11_text_5 (by decide) rfl (fun c3619 => ?_) (fun c3619 => ?_)
  · replace hq3618 := Or.resolve_left hq3618 (fun h => absurd h.2 (by omega))
    refine lv_iconst (v := (-1)) hx hb dX11_text_42 (by decide) ?_
    exact th_reti C (by have hfin := li_n1; omega) dX11_text_43
  · replace hq3618 := Or.resolve_right hq3618 (fun h => absurd h.2 (by omega))
    refine lv_iload_n hx hb dX11_text_8 rfl (lv_at hl 3 rfl) ?_
    refine lv_iconst (v := 1) hx hb dX11_text_9 (by decide) ?_
    refine lv_sipush (v := 200) hx hb dX11_text_10 (by decide) ?_
    refine th_goi (th_runS (As := [.int n, .int 1, .int 200]) (rest := []) C hS.1 gS_RX11_112 (t_X11_between iz_n li_1 li_200) hl rfl rfl rfl rfl ⟨Nat.le_of_ble_eq_true rfl, Nat.le_of_ble_eq_true rfl⟩ (Nat.le_of_ble_eq_true rfl) ⟨Nat.le_of_ble_eq_true rfl, Nat.le_of_ble_eq_true rfl⟩ dX11_text_13) (fun r3620 hq3621 => ?_)
    refine th_if_eq (X := r3620.toInt) (tgt := 42) hx hb dX11_text_16 (by decide) rfl (fun c3622 => ?_) (fun c3622 => ?_)
    · replace hq3621 := Or.resolve_left hq3621 (fun h => absurd h.2 (by omega))
      refine lv_iconst (v := (-1)) hx hb dX11_text_42 (by decide) ?_
      exact th_reti C (by have hfin := li_n1; omega) dX11_text_43
    · replace hq3621 := Or.resolve_right hq3621 (fun h => absurd h.2 (by omega))
      refine lv_aload_n hx hb dX11_text_19 rfl (lv_at hl 0 rfl) ?_
      refine th_get C hS.1 hp0 fl_RX11_19 hp18 dX11_text_20 ?_
      refine th_get C hS.1 hp19 fl_RX11_216 hp20 dX11_text_23 ?_
      refine lv_bipush (v := 20) hx hb dX11_text_26 (by decide) ?_
      refine th_icmp_ge (X := 0) (Y := 20) (tgt := 42) hx hb dX11_text_28 (by decide) li_0 li_20 (fun c3623 => absurd c3623 (by omega)) (fun c3623 => ?_)
      refine lv_iload_n hx hb dX11_text_31 rfl (lv_at hl 3 rfl) ?_
      refine lv_aload_n hx hb dX11_text_32 rfl (lv_at hl 0 rfl) ?_
      refine th_get C hS.1 hp0 fl_RX11_91 hp59 dX11_text_33 ?_
      refine th_get C hS.1 hp60 fl_RX11_199 hp65 dX11_text_36 ?_
      refine th_icmp_le (X := n_i) (Y := 0) (tgt := 44) hx hb dX11_text_39 (by decide) iz_n li_0 (fun c3624 => absurd c3624 (by omega)) (fun c3624 => ?_)
      refine lv_iconst (v := (-1)) hx hb dX11_text_42 (by decide) ?_
      exact th_reti C (by have hfin := li_n1; omega) dX11_text_43

set_option maxHeartbeats 400000 in
set_option maxRecDepth 100000 in
theorem t_X11_yes {l : Launch} {D : va_G} {dA : Nat → ClassId} {K : Kmap} {V : Vmap} {sz : Nat} {x : Nat} {p i : Int32} {p_i i_i : Int} (iz_p : p.toInt = p_i) (iz_i : i.toInt = i_i) (F : FX K V x) : Met l yX11_yes (wsOf yX11_yes cX11_yes 4 (some .boolean)) { frames := 1, cells := 0, slots := 0, locals := 21 } (PC D dA K V sz [.ref x, .int p, .int i]) (PQi (fun r => (r.toInt = 0))) 0 0 noFree := by
  refine th_body (by decide +kernel) (Nat.le_of_ble_eq_true rfl) (fun pZ eZ sZ mZ belowZ methZ cZ C hR hsz hnm ls hl => ?_)
  have C : CX pZ sZ mZ [.ref x, .int p, .int i].toArray methZ cZ cX11_yes 4 (some .boolean) RX11 D dA := C
  have hx := C.1; have hb := C.2.1
  have hl : lv_has ls 4 [(0, .ref x), (1, .int p), (2, .int i)] := hl
  subst hsz
  have hS : ST D dA K sZ.heap K V sZ.heap [] := ST.rf hR
  have r_p := th_rng p; rw [iz_p] at r_p
  have r_i := th_rng i; rw [iz_i] at r_i
  have F0 := F
  obtain ⟨la, he, gr, wa, fd, co, sd, lw, rd, se, st, pa, pl, t1, t2, t3, t4, t5, t6, c6, t7, c7, sp, su, hp0, hp1, hp2, hp3, hp4, hp5, hp6, hp7, hp8, hp9, hp10, hp11, hp12, hp13, hp14, hp15, hp16, hp17, hp18, hp19, hp20, hp21, hp22, hp23, hp24, hp25, hp26, hp27, hp28, hp29, hp30, hp31, hp32, hp33, hp34, hp35, hp36, hp37, hp38, hp39, hp40, hp41, hp42, hp43, hp44, hp45, hp46, hp47, hp48, hp49, hp50, hp51, hp52, hp53, hp54, hp55, hp56, hp57, hp58, hp59, hp60, hp61, hp62, hp63, hp64, hp65, hp66, hp67, hp68, hp69, hp70⟩ := F
  refine lv_aload_n hx hb dX11_yes_0 rfl (lv_at hl 0 rfl) ?_
  refine lv_iload_n hx hb dX11_yes_1 rfl (lv_at hl 1 rfl) ?_
  refine th_gor (th_runV (As := [.int p]) (rest := []) C hS.1 (RX11, TX11, 20) rfl gV_RX11_151 hp0 (t_X11_partyOf iz_p hp0 hp31) hl rfl rfl rfl rfl ⟨Nat.le_of_ble_eq_true rfl, Nat.le_of_ble_eq_true rfl⟩ (Nat.le_of_ble_eq_true rfl) ⟨Nat.le_of_ble_eq_true rfl, Nat.le_of_ble_eq_true rfl⟩ dX11_yes_2) ?_
  refine lv_astore_nN (lv' := [(3, .null), (0, .ref x), (1, .int p), (2, .int i)]) hx hb dX11_yes_5 rfl hl (by decide) rfl (fun ls hl => ?_)
  refine lv_aload_nN hx hb dX11_yes_6 rfl (lv_at hl 0 rfl) ?_
  refine lv_ifnullN hx hb (tgt := 37) dX11_yes_7 (by decide) ?_
  refine lv_iconst (v := 0) hx hb dX11_yes_37 (by decide) ?_
  exact th_retz C (by have hfin := li_0; omega) (by have hfin := li_0; omega) dX11_yes_38

set_option maxHeartbeats 400000 in
set_option maxRecDepth 100000 in
theorem t_X11_reading {l : Launch} {D : va_G} {dA : Nat → ClassId} {K : Kmap} {V : Vmap} {sz : Nat} {x : Nat} {p i j n : Int32} {p_i i_i j_i n_i : Int} (iz_p : p.toInt = p_i) (iz_i : i.toInt = i_i) (iz_j : j.toInt = j_i) (iz_n : n.toInt = n_i) (F : FX K V x) : Met l yX11_reading (wsOf yX11_reading cX11_reading 8 (some .int)) { frames := 1, cells := 0, slots := 0, locals := 21 } (PC D dA K V sz [.ref x, .int p, .int i, .int j, .int n]) (PQi (fun r => (r.toInt = (-1)))) 0 0 noFree := by
  refine th_body (by decide +kernel) (Nat.le_of_ble_eq_true rfl) (fun pZ eZ sZ mZ belowZ methZ cZ C hR hsz hnm ls hl => ?_)
  have C : CX pZ sZ mZ [.ref x, .int p, .int i, .int j, .int n].toArray methZ cZ cX11_reading 8 (some .int) RX11 D dA := C
  have hx := C.1; have hb := C.2.1
  have hl : lv_has ls 8 [(0, .ref x), (1, .int p), (2, .int i), (3, .int j), (4, .int n)] := hl
  subst hsz
  have hS : ST D dA K sZ.heap K V sZ.heap [] := ST.rf hR
  have r_p := th_rng p; rw [iz_p] at r_p
  have r_i := th_rng i; rw [iz_i] at r_i
  have r_j := th_rng j; rw [iz_j] at r_j
  have r_n := th_rng n; rw [iz_n] at r_n
  have F0 := F
  obtain ⟨la, he, gr, wa, fd, co, sd, lw, rd, se, st, pa, pl, t1, t2, t3, t4, t5, t6, c6, t7, c7, sp, su, hp0, hp1, hp2, hp3, hp4, hp5, hp6, hp7, hp8, hp9, hp10, hp11, hp12, hp13, hp14, hp15, hp16, hp17, hp18, hp19, hp20, hp21, hp22, hp23, hp24, hp25, hp26, hp27, hp28, hp29, hp30, hp31, hp32, hp33, hp34, hp35, hp36, hp37, hp38, hp39, hp40, hp41, hp42, hp43, hp44, hp45, hp46, hp47, hp48, hp49, hp50, hp51, hp52, hp53, hp54, hp55, hp56, hp57, hp58, hp59, hp60, hp61, hp62, hp63, hp64, hp65, hp66, hp67, hp68, hp69, hp70⟩ := F
  refine lv_aload_n hx hb dX11_reading_0 rfl (lv_at hl 0 rfl) ?_
  refine th_get C hS.1 hp0 fl_RX11_19 hp18 dX11_reading_1 ?_
  refine lv_iload_n hx hb dX11_reading_4 rfl (lv_at hl 2 rfl) ?_
  refine th_gor (th_runV (As := [.int i]) (rest := []) C hS.1 (RX1, TX1, 13) rfl gV_RX11_246 hp19 (t_X1_textOf iz_i hp19 hp20) hl rfl rfl rfl rfl ⟨Nat.le_of_ble_eq_true rfl, Nat.le_of_ble_eq_true rfl⟩ (Nat.le_of_ble_eq_true rfl) ⟨Nat.le_of_ble_eq_true rfl, Nat.le_of_ble_eq_true rfl⟩ dX11_reading_5) ?_
  refine lv_astoreN (lv' := [(5, .null), (0, .ref x), (1, .int p), (2, .int i), (3, .int j), (4, .int n)]) hx hb dX11_reading_8 hl (by decide) rfl (fun ls hl => ?_)
  refine lv_aload_n hx hb dX11_reading_10 rfl (lv_at hl 1 rfl) ?_
  refine lv_iload_n hx hb dX11_reading_11 rfl (lv_at hl 2 rfl) ?_
  refine th_gor (th_runV (As := [.int p]) (rest := []) C hS.1 (RX11, TX11, 20) rfl gV_RX11_151 hp0 (t_X11_partyOf iz_p hp0 hp31) hl rfl rfl rfl rfl ⟨Nat.le_of_ble_eq_true rfl, Nat.le_of_ble_eq_true rfl⟩ (Nat.le_of_ble_eq_true rfl) ⟨Nat.le_of_ble_eq_true rfl, Nat.le_of_ble_eq_true rfl⟩ dX11_reading_12) ?_
  refine lv_ifnullN hx hb (tgt := 32) dX11_reading_15 (by decide) ?_
  refine lv_iconst (v := (-1)) hx hb dX11_reading_32 (by decide) ?_
  exact th_reti C (by have hfin := li_n1; omega) dX11_reading_33

set_option maxHeartbeats 400000 in
set_option maxRecDepth 100000 in
theorem t_X11_counts {l : Launch} {D : va_G} {dA : Nat → ClassId} {K : Kmap} {V : Vmap} {sz : Nat} {x : Nat} {i p dy : Int32} {i_i p_i dy_i : Int} (iz_i : i.toInt = i_i) (iz_p : p.toInt = p_i) (iz_dy : dy.toInt = dy_i) (F : FX K V x) : Met l yX11_counts (wsOf yX11_counts cX11_counts 5 (some .int)) { frames := 1, cells := 0, slots := 0, locals := 21 } (PC D dA K V sz [.ref x, .int i, .int p, .int dy]) (PQi (fun r => (r.toInt = (-1)))) 0 0 noFree := by
  refine th_body (by decide +kernel) (Nat.le_of_ble_eq_true rfl) (fun pZ eZ sZ mZ belowZ methZ cZ C hR hsz hnm ls hl => ?_)
  have C : CX pZ sZ mZ [.ref x, .int i, .int p, .int dy].toArray methZ cZ cX11_counts 5 (some .int) RX11 D dA := C
  have hx := C.1; have hb := C.2.1
  have hl : lv_has ls 5 [(0, .ref x), (1, .int i), (2, .int p), (3, .int dy)] := hl
  subst hsz
  have hS : ST D dA K sZ.heap K V sZ.heap [] := ST.rf hR
  have r_i := th_rng i; rw [iz_i] at r_i
  have r_p := th_rng p; rw [iz_p] at r_p
  have r_dy := th_rng dy; rw [iz_dy] at r_dy
  have F0 := F
  obtain ⟨la, he, gr, wa, fd, co, sd, lw, rd, se, st, pa, pl, t1, t2, t3, t4, t5, t6, c6, t7, c7, sp, su, hp0, hp1, hp2, hp3, hp4, hp5, hp6, hp7, hp8, hp9, hp10, hp11, hp12, hp13, hp14, hp15, hp16, hp17, hp18, hp19, hp20, hp21, hp22, hp23, hp24, hp25, hp26, hp27, hp28, hp29, hp30, hp31, hp32, hp33, hp34, hp35, hp36, hp37, hp38, hp39, hp40, hp41, hp42, hp43, hp44, hp45, hp46, hp47, hp48, hp49, hp50, hp51, hp52, hp53, hp54, hp55, hp56, hp57, hp58, hp59, hp60, hp61, hp62, hp63, hp64, hp65, hp66, hp67, hp68, hp69, hp70⟩ := F
  refine lv_aload_n hx hb dX11_counts_0 rfl (lv_at hl 0 rfl) ?_
  refine lv_iload_n hx hb dX11_counts_1 rfl (lv_at hl 2 rfl) ?_
  refine th_gor (th_runV (As := [.int p]) (rest := []) C hS.1 (RX11, TX11, 20) rfl gV_RX11_151 hp0 (t_X11_partyOf iz_p hp0 hp31) hl rfl rfl rfl rfl ⟨Nat.le_of_ble_eq_true rfl, Nat.le_of_ble_eq_true rfl⟩ (Nat.le_of_ble_eq_true rfl) ⟨Nat.le_of_ble_eq_true rfl, Nat.le_of_ble_eq_true rfl⟩ dX11_counts_2) ?_
  refine lv_astoreN (lv' := [(4, .null), (0, .ref x), (1, .int i), (2, .int p), (3, .int dy)]) hx hb dX11_counts_5 hl (by decide) rfl (fun ls hl => ?_)
  refine lv_aloadN hx hb dX11_counts_7 (lv_at hl 0 rfl) ?_
  refine lv_ifnullN hx hb (tgt := 30) dX11_counts_9 (by decide) ?_
  refine lv_iconst (v := (-1)) hx hb dX11_counts_30 (by decide) ?_
  exact th_reti C (by have hfin := li_n1; omega) dX11_counts_31

set_option maxHeartbeats 400000 in
set_option maxRecDepth 100000 in
theorem t_X11_number {l : Launch} {D : va_G} {dA : Nat → ClassId} {K : Kmap} {V : Vmap} {sz : Nat} {x : Nat} {wh p dy : Int32} {wh_i p_i dy_i : Int} (iz_wh : wh.toInt = wh_i) (iz_p : p.toInt = p_i) (iz_dy : dy.toInt = dy_i) (F : FX K V x) : Met l yX11_number (wsOf yX11_number cX11_number 6 (some .int)) { frames := 1, cells := 0, slots := 0, locals := 22 } (PC D dA K V sz [.ref x, .int wh, .int p, .int dy]) (PQi (fun r => (r.toInt = (-1)))) 0 0 noFree := by
  refine th_body (by decide +kernel) (Nat.le_of_ble_eq_true rfl) (fun pZ eZ sZ mZ belowZ methZ cZ C hR hsz hnm ls hl => ?_)
  have C : CX pZ sZ mZ [.ref x, .int wh, .int p, .int dy].toArray methZ cZ cX11_number 6 (some .int) RX11 D dA := C
  have hx := C.1; have hb := C.2.1
  have hl : lv_has ls 6 [(0, .ref x), (1, .int wh), (2, .int p), (3, .int dy)] := hl
  subst hsz
  have hS : ST D dA K sZ.heap K V sZ.heap [] := ST.rf hR
  have r_wh := th_rng wh; rw [iz_wh] at r_wh
  have r_p := th_rng p; rw [iz_p] at r_p
  have r_dy := th_rng dy; rw [iz_dy] at r_dy
  have F0 := F
  obtain ⟨la, he, gr, wa, fd, co, sd, lw, rd, se, st, pa, pl, t1, t2, t3, t4, t5, t6, c6, t7, c7, sp, su, hp0, hp1, hp2, hp3, hp4, hp5, hp6, hp7, hp8, hp9, hp10, hp11, hp12, hp13, hp14, hp15, hp16, hp17, hp18, hp19, hp20, hp21, hp22, hp23, hp24, hp25, hp26, hp27, hp28, hp29, hp30, hp31, hp32, hp33, hp34, hp35, hp36, hp37, hp38, hp39, hp40, hp41, hp42, hp43, hp44, hp45, hp46, hp47, hp48, hp49, hp50, hp51, hp52, hp53, hp54, hp55, hp56, hp57, hp58, hp59, hp60, hp61, hp62, hp63, hp64, hp65, hp66, hp67, hp68, hp69, hp70⟩ := F
  refine lv_aload_n hx hb dX11_number_0 rfl (lv_at hl 0 rfl) ?_
  refine lv_iload_n hx hb dX11_number_1 rfl (lv_at hl 2 rfl) ?_
  refine th_gor (th_runV (As := [.int p]) (rest := []) C hS.1 (RX11, TX11, 20) rfl gV_RX11_151 hp0 (t_X11_partyOf iz_p hp0 hp31) hl rfl rfl rfl rfl ⟨Nat.le_of_ble_eq_true rfl, Nat.le_of_ble_eq_true rfl⟩ (Nat.le_of_ble_eq_true rfl) ⟨Nat.le_of_ble_eq_true rfl, Nat.le_of_ble_eq_true rfl⟩ dX11_number_2) ?_
  refine lv_astoreN (lv' := [(4, .null), (0, .ref x), (1, .int wh), (2, .int p), (3, .int dy)]) hx hb dX11_number_5 hl (by decide) rfl (fun ls hl => ?_)
  refine lv_iload_n hx hb dX11_number_7 rfl (lv_at hl 2 rfl) ?_
  refine lv_bipush (v := 10) hx hb dX11_number_8 (by decide) ?_
  refine lv_bipush (v := 25) hx hb dX11_number_10 (by decide) ?_
  refine th_goi (th_runS (As := [.int wh, .int 10, .int 25]) (rest := []) C hS.1 gS_RX11_112 (t_X11_between iz_wh li_10 li_25) hl rfl rfl rfl rfl ⟨Nat.le_of_ble_eq_true rfl, Nat.le_of_ble_eq_true rfl⟩ (Nat.le_of_ble_eq_true rfl) ⟨Nat.le_of_ble_eq_true rfl, Nat.le_of_ble_eq_true rfl⟩ dX11_number_12) (fun r3635 hq3636 => ?_)
  refine lv_istore (lv' := [(5, .int r3635), (4, .null), (0, .ref x), (1, .int wh), (2, .int p), (3, .int dy)]) hx hb dX11_number_15 hl (by decide) rfl (fun ls hl => ?_)
  refine lv_aloadN hx hb dX11_number_17 (lv_at hl 1 rfl) ?_
  refine lv_ifnullN hx hb (tgt := 43) dX11_number_19 (by decide) ?_
  refine lv_iconst (v := (-1)) hx hb dX11_number_43 (by decide) ?_
  exact th_reti C (by have hfin := li_n1; omega) dX11_number_44

set_option maxHeartbeats 400000 in
set_option maxRecDepth 100000 in
theorem t_X11_decides {l : Launch} {D : va_G} {dA : Nat → ClassId} {K : Kmap} {V : Vmap} {sz : Nat} {x : Nat} {p dy : Int32} {p_i dy_i : Int} (iz_p : p.toInt = p_i) (iz_dy : dy.toInt = dy_i) (F : FX K V x) : Met l yX11_decides (wsOf yX11_decides cX11_decides 4 (some .int)) { frames := 1, cells := 0, slots := 0, locals := 21 } (PC D dA K V sz [.ref x, .int p, .int dy]) (PQi (fun r => (r.toInt = (-1)))) 0 0 noFree := by
  refine th_body (by decide +kernel) (Nat.le_of_ble_eq_true rfl) (fun pZ eZ sZ mZ belowZ methZ cZ C hR hsz hnm ls hl => ?_)
  have C : CX pZ sZ mZ [.ref x, .int p, .int dy].toArray methZ cZ cX11_decides 4 (some .int) RX11 D dA := C
  have hx := C.1; have hb := C.2.1
  have hl : lv_has ls 4 [(0, .ref x), (1, .int p), (2, .int dy)] := hl
  subst hsz
  have hS : ST D dA K sZ.heap K V sZ.heap [] := ST.rf hR
  have r_p := th_rng p; rw [iz_p] at r_p
  have r_dy := th_rng dy; rw [iz_dy] at r_dy
  have F0 := F
  obtain ⟨la, he, gr, wa, fd, co, sd, lw, rd, se, st, pa, pl, t1, t2, t3, t4, t5, t6, c6, t7, c7, sp, su, hp0, hp1, hp2, hp3, hp4, hp5, hp6, hp7, hp8, hp9, hp10, hp11, hp12, hp13, hp14, hp15, hp16, hp17, hp18, hp19, hp20, hp21, hp22, hp23, hp24, hp25, hp26, hp27, hp28, hp29, hp30, hp31, hp32, hp33, hp34, hp35, hp36, hp37, hp38, hp39, hp40, hp41, hp42, hp43, hp44, hp45, hp46, hp47, hp48, hp49, hp50, hp51, hp52, hp53, hp54, hp55, hp56, hp57, hp58, hp59, hp60, hp61, hp62, hp63, hp64, hp65, hp66, hp67, hp68, hp69, hp70⟩ := F
  refine lv_aload_n hx hb dX11_decides_0 rfl (lv_at hl 0 rfl) ?_
  refine lv_iload_n hx hb dX11_decides_1 rfl (lv_at hl 1 rfl) ?_
  refine th_gor (th_runV (As := [.int p]) (rest := []) C hS.1 (RX11, TX11, 20) rfl gV_RX11_151 hp0 (t_X11_partyOf iz_p hp0 hp31) hl rfl rfl rfl rfl ⟨Nat.le_of_ble_eq_true rfl, Nat.le_of_ble_eq_true rfl⟩ (Nat.le_of_ble_eq_true rfl) ⟨Nat.le_of_ble_eq_true rfl, Nat.le_of_ble_eq_true rfl⟩ dX11_decides_2) ?_
  refine lv_astore_nN (lv' := [(3, .null), (0, .ref x), (1, .int p), (2, .int dy)]) hx hb dX11_decides_5 rfl hl (by decide) rfl (fun ls hl => ?_)
  refine lv_aload_nN hx hb dX11_decides_6 rfl (lv_at hl 0 rfl) ?_
  refine lv_ifnullN hx hb (tgt := 17) dX11_decides_7 (by decide) ?_
  refine lv_iconst (v := (-1)) hx hb dX11_decides_17 (by decide) ?_
  exact th_reti C (by have hfin := li_n1; omega) dX11_decides_18

set_option maxHeartbeats 400000 in
set_option maxRecDepth 100000 in
theorem t_X11_work {l : Launch} {D : va_G} {dA : Nat → ClassId} {K : Kmap} {V : Vmap} {sz : Nat} {x : Nat} {kd p c fr to pe noi : Int32} {kd_i p_i c_i fr_i to_i pe_i noi_i : Int} (iz_kd : kd.toInt = kd_i) (iz_p : p.toInt = p_i) (iz_c : c.toInt = c_i) (iz_fr : fr.toInt = fr_i) (iz_to : to.toInt = to_i) (iz_pe : pe.toInt = pe_i) (iz_noi : noi.toInt = noi_i) (F : FX K V x) : Met l yX11_work (wsOf yX11_work cX11_work 9 (some .int)) { frames := 1, cells := 0, slots := 0, locals := 22 } (PC D dA K V sz [.ref x, .int kd, .int p, .int c, .int fr, .int to, .int pe, .int noi]) (PQi (fun r => (r.toInt = (-1)))) 0 0 noFree := by
  refine th_body (by decide +kernel) (Nat.le_of_ble_eq_true rfl) (fun pZ eZ sZ mZ belowZ methZ cZ C hR hsz hnm ls hl => ?_)
  have C : CX pZ sZ mZ [.ref x, .int kd, .int p, .int c, .int fr, .int to, .int pe, .int noi].toArray methZ cZ cX11_work 9 (some .int) RX11 D dA := C
  have hx := C.1; have hb := C.2.1
  have hl : lv_has ls 9 [(0, .ref x), (1, .int kd), (2, .int p), (3, .int c), (4, .int fr), (5, .int to), (6, .int pe), (7, .int noi)] := hl
  subst hsz
  have hS : ST D dA K sZ.heap K V sZ.heap [] := ST.rf hR
  have r_kd := th_rng kd; rw [iz_kd] at r_kd
  have r_p := th_rng p; rw [iz_p] at r_p
  have r_c := th_rng c; rw [iz_c] at r_c
  have r_fr := th_rng fr; rw [iz_fr] at r_fr
  have r_to := th_rng to; rw [iz_to] at r_to
  have r_pe := th_rng pe; rw [iz_pe] at r_pe
  have r_noi := th_rng noi; rw [iz_noi] at r_noi
  have F0 := F
  obtain ⟨la, he, gr, wa, fd, co, sd, lw, rd, se, st, pa, pl, t1, t2, t3, t4, t5, t6, c6, t7, c7, sp, su, hp0, hp1, hp2, hp3, hp4, hp5, hp6, hp7, hp8, hp9, hp10, hp11, hp12, hp13, hp14, hp15, hp16, hp17, hp18, hp19, hp20, hp21, hp22, hp23, hp24, hp25, hp26, hp27, hp28, hp29, hp30, hp31, hp32, hp33, hp34, hp35, hp36, hp37, hp38, hp39, hp40, hp41, hp42, hp43, hp44, hp45, hp46, hp47, hp48, hp49, hp50, hp51, hp52, hp53, hp54, hp55, hp56, hp57, hp58, hp59, hp60, hp61, hp62, hp63, hp64, hp65, hp66, hp67, hp68, hp69, hp70⟩ := F
  refine lv_iload_n hx hb dX11_work_0 rfl (lv_at hl 1 rfl) ?_
  refine lv_iconst (v := 0) hx hb dX11_work_1 (by decide) ?_
  refine lv_bipush (v := 9) hx hb dX11_work_2 (by decide) ?_
  refine th_goi (th_runS (As := [.int kd, .int 0, .int 9]) (rest := []) C hS.1 gS_RX11_112 (t_X11_between iz_kd li_0 li_9) hl rfl rfl rfl rfl ⟨Nat.le_of_ble_eq_true rfl, Nat.le_of_ble_eq_true rfl⟩ (Nat.le_of_ble_eq_true rfl) ⟨Nat.le_of_ble_eq_true rfl, Nat.le_of_ble_eq_true rfl⟩ dX11_work_4) (fun r3639 hq3640 => ?_)
  refine th_if_eq (X := r3639.toInt) (tgt := 41) hx hb dX11_work_7 (by decide) rfl (fun c3641 => ?_) (fun c3641 => ?_)
  · replace hq3640 := Or.resolve_left hq3640 (fun h => absurd h.2 (by omega))
    refine lv_iconst (v := (-1)) hx hb dX11_work_41 (by decide) ?_
    exact th_reti C (by have hfin := li_n1; omega) dX11_work_42
  · replace hq3640 := Or.resolve_right hq3640 (fun h => absurd h.2 (by omega))
    refine lv_aload_n hx hb dX11_work_10 rfl (lv_at hl 0 rfl) ?_
    refine lv_iload_n hx hb dX11_work_11 rfl (lv_at hl 2 rfl) ?_
    refine th_gor (th_runV (As := [.int p]) (rest := []) C hS.1 (RX11, TX11, 20) rfl gV_RX11_151 hp0 (t_X11_partyOf iz_p hp0 hp31) hl rfl rfl rfl rfl ⟨Nat.le_of_ble_eq_true rfl, Nat.le_of_ble_eq_true rfl⟩ (Nat.le_of_ble_eq_true rfl) ⟨Nat.le_of_ble_eq_true rfl, Nat.le_of_ble_eq_true rfl⟩ dX11_work_12) ?_
    refine lv_ifnullN hx hb (tgt := 41) dX11_work_15 (by decide) ?_
    refine lv_iconst (v := (-1)) hx hb dX11_work_41 (by decide) ?_
    exact th_reti C (by have hfin := li_n1; omega) dX11_work_42

set_option maxHeartbeats 400000 in
set_option maxRecDepth 100000 in
theorem t_X11_tell {l : Launch} {D : va_G} {dA : Nat → ClassId} {K : Kmap} {V : Vmap} {sz : Nat} {x : Nat} {w wh : Int32} {w_i wh_i : Int} (iz_w : w.toInt = w_i) (iz_wh : wh.toInt = wh_i) (F : FX K V x) : Met l yX11_tell (wsOf yX11_tell cX11_tell 4 (some .boolean)) { frames := 1, cells := 0, slots := 0, locals := 21 } (PC D dA K V sz [.ref x, .int w, .int wh]) (PQi (fun r => (r.toInt = 0))) 0 0 noFree := by
  refine th_body (by decide +kernel) (Nat.le_of_ble_eq_true rfl) (fun pZ eZ sZ mZ belowZ methZ cZ C hR hsz hnm ls hl => ?_)
  have C : CX pZ sZ mZ [.ref x, .int w, .int wh].toArray methZ cZ cX11_tell 4 (some .boolean) RX11 D dA := C
  have hx := C.1; have hb := C.2.1
  have hl : lv_has ls 4 [(0, .ref x), (1, .int w), (2, .int wh)] := hl
  subst hsz
  have hS : ST D dA K sZ.heap K V sZ.heap [] := ST.rf hR
  have r_w := th_rng w; rw [iz_w] at r_w
  have r_wh := th_rng wh; rw [iz_wh] at r_wh
  have F0 := F
  obtain ⟨la, he, gr, wa, fd, co, sd, lw, rd, se, st, pa, pl, t1, t2, t3, t4, t5, t6, c6, t7, c7, sp, su, hp0, hp1, hp2, hp3, hp4, hp5, hp6, hp7, hp8, hp9, hp10, hp11, hp12, hp13, hp14, hp15, hp16, hp17, hp18, hp19, hp20, hp21, hp22, hp23, hp24, hp25, hp26, hp27, hp28, hp29, hp30, hp31, hp32, hp33, hp34, hp35, hp36, hp37, hp38, hp39, hp40, hp41, hp42, hp43, hp44, hp45, hp46, hp47, hp48, hp49, hp50, hp51, hp52, hp53, hp54, hp55, hp56, hp57, hp58, hp59, hp60, hp61, hp62, hp63, hp64, hp65, hp66, hp67, hp68, hp69, hp70⟩ := F
  refine lv_aload_n hx hb dX11_tell_0 rfl (lv_at hl 0 rfl) ?_
  refine lv_iload_n hx hb dX11_tell_1 rfl (lv_at hl 1 rfl) ?_
  refine th_gor (th_runV (As := [.int w]) (rest := []) C hS.1 (RX11, TX11, 20) rfl gV_RX11_309 hp0 (t_X11_workOf iz_w hp0 hp35) hl rfl rfl rfl rfl ⟨Nat.le_of_ble_eq_true rfl, Nat.le_of_ble_eq_true rfl⟩ (Nat.le_of_ble_eq_true rfl) ⟨Nat.le_of_ble_eq_true rfl, Nat.le_of_ble_eq_true rfl⟩ dX11_tell_2) ?_
  refine lv_astore_nN (lv' := [(3, .null), (0, .ref x), (1, .int w), (2, .int wh)]) hx hb dX11_tell_5 rfl hl (by decide) rfl (fun ls hl => ?_)
  refine lv_aload_nN hx hb dX11_tell_6 rfl (lv_at hl 0 rfl) ?_
  refine lv_ifnonnullN hx hb dX11_tell_7 ?_
  refine lv_iconst (v := 0) hx hb dX11_tell_10 (by decide) ?_
  exact th_retz C (by have hfin := li_0; omega) (by have hfin := li_0; omega) dX11_tell_11

set_option maxHeartbeats 400000 in
set_option maxRecDepth 100000 in
theorem t_X11_study {l : Launch} {D : va_G} {dA : Nat → ClassId} {K : Kmap} {V : Vmap} {sz : Nat} {x : Nat} {w ha : Int32} {w_i ha_i : Int} (iz_w : w.toInt = w_i) (iz_ha : ha.toInt = ha_i) (F : FX K V x) : Met l yX11_study (wsOf yX11_study cX11_study 4 (some .boolean)) { frames := 1, cells := 0, slots := 0, locals := 21 } (PC D dA K V sz [.ref x, .int w, .int ha]) (PQi (fun r => (r.toInt = 0))) 0 0 noFree := by
  refine th_body (by decide +kernel) (Nat.le_of_ble_eq_true rfl) (fun pZ eZ sZ mZ belowZ methZ cZ C hR hsz hnm ls hl => ?_)
  have C : CX pZ sZ mZ [.ref x, .int w, .int ha].toArray methZ cZ cX11_study 4 (some .boolean) RX11 D dA := C
  have hx := C.1; have hb := C.2.1
  have hl : lv_has ls 4 [(0, .ref x), (1, .int w), (2, .int ha)] := hl
  subst hsz
  have hS : ST D dA K sZ.heap K V sZ.heap [] := ST.rf hR
  have r_w := th_rng w; rw [iz_w] at r_w
  have r_ha := th_rng ha; rw [iz_ha] at r_ha
  have F0 := F
  obtain ⟨la, he, gr, wa, fd, co, sd, lw, rd, se, st, pa, pl, t1, t2, t3, t4, t5, t6, c6, t7, c7, sp, su, hp0, hp1, hp2, hp3, hp4, hp5, hp6, hp7, hp8, hp9, hp10, hp11, hp12, hp13, hp14, hp15, hp16, hp17, hp18, hp19, hp20, hp21, hp22, hp23, hp24, hp25, hp26, hp27, hp28, hp29, hp30, hp31, hp32, hp33, hp34, hp35, hp36, hp37, hp38, hp39, hp40, hp41, hp42, hp43, hp44, hp45, hp46, hp47, hp48, hp49, hp50, hp51, hp52, hp53, hp54, hp55, hp56, hp57, hp58, hp59, hp60, hp61, hp62, hp63, hp64, hp65, hp66, hp67, hp68, hp69, hp70⟩ := F
  refine lv_aload_n hx hb dX11_study_0 rfl (lv_at hl 0 rfl) ?_
  refine lv_iload_n hx hb dX11_study_1 rfl (lv_at hl 1 rfl) ?_
  refine th_gor (th_runV (As := [.int w]) (rest := []) C hS.1 (RX11, TX11, 20) rfl gV_RX11_309 hp0 (t_X11_workOf iz_w hp0 hp35) hl rfl rfl rfl rfl ⟨Nat.le_of_ble_eq_true rfl, Nat.le_of_ble_eq_true rfl⟩ (Nat.le_of_ble_eq_true rfl) ⟨Nat.le_of_ble_eq_true rfl, Nat.le_of_ble_eq_true rfl⟩ dX11_study_2) ?_
  refine lv_astore_nN (lv' := [(3, .null), (0, .ref x), (1, .int w), (2, .int ha)]) hx hb dX11_study_5 rfl hl (by decide) rfl (fun ls hl => ?_)
  refine lv_aload_nN hx hb dX11_study_6 rfl (lv_at hl 0 rfl) ?_
  refine lv_ifnullN hx hb (tgt := 29) dX11_study_7 (by decide) ?_
  refine lv_iconst (v := 0) hx hb dX11_study_29 (by decide) ?_
  exact th_retz C (by have hfin := li_0; omega) (by have hfin := li_0; omega) dX11_study_30

set_option maxHeartbeats 400000 in
set_option maxRecDepth 100000 in
theorem t_X11_say {l : Launch} {D : va_G} {dA : Nat → ClassId} {K : Kmap} {V : Vmap} {sz : Nat} {x : Nat} {p w ye : Int32} {p_i w_i ye_i : Int} (iz_p : p.toInt = p_i) (iz_w : w.toInt = w_i) (iz_ye : ye.toInt = ye_i) (F : FX K V x) : Met l yX11_say (wsOf yX11_say cX11_say 6 (some .boolean)) { frames := 1, cells := 0, slots := 0, locals := 21 } (PC D dA K V sz [.ref x, .int p, .int w, .int ye]) (PQi (fun r => (r.toInt = 0))) 0 0 noFree := by
  refine th_body (by decide +kernel) (Nat.le_of_ble_eq_true rfl) (fun pZ eZ sZ mZ belowZ methZ cZ C hR hsz hnm ls hl => ?_)
  have C : CX pZ sZ mZ [.ref x, .int p, .int w, .int ye].toArray methZ cZ cX11_say 6 (some .boolean) RX11 D dA := C
  have hx := C.1; have hb := C.2.1
  have hl : lv_has ls 6 [(0, .ref x), (1, .int p), (2, .int w), (3, .int ye)] := hl
  subst hsz
  have hS : ST D dA K sZ.heap K V sZ.heap [] := ST.rf hR
  have r_p := th_rng p; rw [iz_p] at r_p
  have r_w := th_rng w; rw [iz_w] at r_w
  have r_ye := th_rng ye; rw [iz_ye] at r_ye
  have F0 := F
  obtain ⟨la, he, gr, wa, fd, co, sd, lw, rd, se, st, pa, pl, t1, t2, t3, t4, t5, t6, c6, t7, c7, sp, su, hp0, hp1, hp2, hp3, hp4, hp5, hp6, hp7, hp8, hp9, hp10, hp11, hp12, hp13, hp14, hp15, hp16, hp17, hp18, hp19, hp20, hp21, hp22, hp23, hp24, hp25, hp26, hp27, hp28, hp29, hp30, hp31, hp32, hp33, hp34, hp35, hp36, hp37, hp38, hp39, hp40, hp41, hp42, hp43, hp44, hp45, hp46, hp47, hp48, hp49, hp50, hp51, hp52, hp53, hp54, hp55, hp56, hp57, hp58, hp59, hp60, hp61, hp62, hp63, hp64, hp65, hp66, hp67, hp68, hp69, hp70⟩ := F
  refine lv_aload_n hx hb dX11_say_0 rfl (lv_at hl 0 rfl) ?_
  refine lv_iload_n hx hb dX11_say_1 rfl (lv_at hl 2 rfl) ?_
  refine th_gor (th_runV (As := [.int w]) (rest := []) C hS.1 (RX11, TX11, 20) rfl gV_RX11_309 hp0 (t_X11_workOf iz_w hp0 hp35) hl rfl rfl rfl rfl ⟨Nat.le_of_ble_eq_true rfl, Nat.le_of_ble_eq_true rfl⟩ (Nat.le_of_ble_eq_true rfl) ⟨Nat.le_of_ble_eq_true rfl, Nat.le_of_ble_eq_true rfl⟩ dX11_say_2) ?_
  refine lv_astoreN (lv' := [(4, .null), (0, .ref x), (1, .int p), (2, .int w), (3, .int ye)]) hx hb dX11_say_5 hl (by decide) rfl (fun ls hl => ?_)
  refine lv_aload_n hx hb dX11_say_7 rfl (lv_at hl 1 rfl) ?_
  refine lv_iload_n hx hb dX11_say_8 rfl (lv_at hl 2 rfl) ?_
  refine th_gor (th_runV (As := [.int p]) (rest := []) C hS.1 (RX11, TX11, 20) rfl gV_RX11_151 hp0 (t_X11_partyOf iz_p hp0 hp31) hl rfl rfl rfl rfl ⟨Nat.le_of_ble_eq_true rfl, Nat.le_of_ble_eq_true rfl⟩ (Nat.le_of_ble_eq_true rfl) ⟨Nat.le_of_ble_eq_true rfl, Nat.le_of_ble_eq_true rfl⟩ dX11_say_9) ?_
  refine lv_ifnullN hx hb (tgt := 20) dX11_say_12 (by decide) ?_
  refine lv_iconst (v := 0) hx hb dX11_say_20 (by decide) ?_
  exact th_retz C (by have hfin := li_0; omega) (by have hfin := li_0; omega) dX11_say_21

set_option maxHeartbeats 400000 in
set_option maxRecDepth 100000 in
theorem t_X11_may {l : Launch} {D : va_G} {dA : Nat → ClassId} {K : Kmap} {V : Vmap} {sz : Nat} {x : Nat} {w dy ow : Int32} {w_i dy_i ow_i : Int} (iz_w : w.toInt = w_i) (iz_dy : dy.toInt = dy_i) (iz_ow : ow.toInt = ow_i) (F : FX K V x) : Met l yX11_may (wsOf yX11_may cX11_may 5 (some .int)) { frames := 1, cells := 0, slots := 0, locals := 21 } (PC D dA K V sz [.ref x, .int w, .int dy, .int ow]) (PQi (fun r => (r.toInt = (-1)))) 0 0 noFree := by
  refine th_body (by decide +kernel) (Nat.le_of_ble_eq_true rfl) (fun pZ eZ sZ mZ belowZ methZ cZ C hR hsz hnm ls hl => ?_)
  have C : CX pZ sZ mZ [.ref x, .int w, .int dy, .int ow].toArray methZ cZ cX11_may 5 (some .int) RX11 D dA := C
  have hx := C.1; have hb := C.2.1
  have hl : lv_has ls 5 [(0, .ref x), (1, .int w), (2, .int dy), (3, .int ow)] := hl
  subst hsz
  have hS : ST D dA K sZ.heap K V sZ.heap [] := ST.rf hR
  have r_w := th_rng w; rw [iz_w] at r_w
  have r_dy := th_rng dy; rw [iz_dy] at r_dy
  have r_ow := th_rng ow; rw [iz_ow] at r_ow
  have F0 := F
  obtain ⟨la, he, gr, wa, fd, co, sd, lw, rd, se, st, pa, pl, t1, t2, t3, t4, t5, t6, c6, t7, c7, sp, su, hp0, hp1, hp2, hp3, hp4, hp5, hp6, hp7, hp8, hp9, hp10, hp11, hp12, hp13, hp14, hp15, hp16, hp17, hp18, hp19, hp20, hp21, hp22, hp23, hp24, hp25, hp26, hp27, hp28, hp29, hp30, hp31, hp32, hp33, hp34, hp35, hp36, hp37, hp38, hp39, hp40, hp41, hp42, hp43, hp44, hp45, hp46, hp47, hp48, hp49, hp50, hp51, hp52, hp53, hp54, hp55, hp56, hp57, hp58, hp59, hp60, hp61, hp62, hp63, hp64, hp65, hp66, hp67, hp68, hp69, hp70⟩ := F
  refine lv_aload_n hx hb dX11_may_0 rfl (lv_at hl 0 rfl) ?_
  refine lv_iload_n hx hb dX11_may_1 rfl (lv_at hl 1 rfl) ?_
  refine th_gor (th_runV (As := [.int w]) (rest := []) C hS.1 (RX11, TX11, 20) rfl gV_RX11_309 hp0 (t_X11_workOf iz_w hp0 hp35) hl rfl rfl rfl rfl ⟨Nat.le_of_ble_eq_true rfl, Nat.le_of_ble_eq_true rfl⟩ (Nat.le_of_ble_eq_true rfl) ⟨Nat.le_of_ble_eq_true rfl, Nat.le_of_ble_eq_true rfl⟩ dX11_may_2) ?_
  refine lv_astoreN (lv' := [(4, .null), (0, .ref x), (1, .int w), (2, .int dy), (3, .int ow)]) hx hb dX11_may_5 hl (by decide) rfl (fun ls hl => ?_)
  refine lv_aloadN hx hb dX11_may_7 (lv_at hl 0 rfl) ?_
  refine lv_ifnullN hx hb (tgt := 19) dX11_may_9 (by decide) ?_
  refine lv_iconst (v := (-1)) hx hb dX11_may_19 (by decide) ?_
  exact th_reti C (by have hfin := li_n1; omega) dX11_may_20

set_option maxHeartbeats 400000 in
set_option maxRecDepth 100000 in
theorem t_X11_why {l : Launch} {D : va_G} {dA : Nat → ClassId} {K : Kmap} {V : Vmap} {sz : Nat} {x : Nat} {w dy ow wh : Int32} {w_i dy_i ow_i wh_i : Int} (iz_w : w.toInt = w_i) (iz_dy : dy.toInt = dy_i) (iz_ow : ow.toInt = ow_i) (iz_wh : wh.toInt = wh_i) (F : FX K V x) : Met l yX11_why (wsOf yX11_why cX11_why 6 (some .int)) { frames := 1, cells := 0, slots := 0, locals := 21 } (PC D dA K V sz [.ref x, .int w, .int dy, .int ow, .int wh]) (PQi (fun r => (r.toInt = (-1)))) 0 0 noFree := by
  refine th_body (by decide +kernel) (Nat.le_of_ble_eq_true rfl) (fun pZ eZ sZ mZ belowZ methZ cZ C hR hsz hnm ls hl => ?_)
  have C : CX pZ sZ mZ [.ref x, .int w, .int dy, .int ow, .int wh].toArray methZ cZ cX11_why 6 (some .int) RX11 D dA := C
  have hx := C.1; have hb := C.2.1
  have hl : lv_has ls 6 [(0, .ref x), (1, .int w), (2, .int dy), (3, .int ow), (4, .int wh)] := hl
  subst hsz
  have hS : ST D dA K sZ.heap K V sZ.heap [] := ST.rf hR
  have r_w := th_rng w; rw [iz_w] at r_w
  have r_dy := th_rng dy; rw [iz_dy] at r_dy
  have r_ow := th_rng ow; rw [iz_ow] at r_ow
  have r_wh := th_rng wh; rw [iz_wh] at r_wh
  have F0 := F
  obtain ⟨la, he, gr, wa, fd, co, sd, lw, rd, se, st, pa, pl, t1, t2, t3, t4, t5, t6, c6, t7, c7, sp, su, hp0, hp1, hp2, hp3, hp4, hp5, hp6, hp7, hp8, hp9, hp10, hp11, hp12, hp13, hp14, hp15, hp16, hp17, hp18, hp19, hp20, hp21, hp22, hp23, hp24, hp25, hp26, hp27, hp28, hp29, hp30, hp31, hp32, hp33, hp34, hp35, hp36, hp37, hp38, hp39, hp40, hp41, hp42, hp43, hp44, hp45, hp46, hp47, hp48, hp49, hp50, hp51, hp52, hp53, hp54, hp55, hp56, hp57, hp58, hp59, hp60, hp61, hp62, hp63, hp64, hp65, hp66, hp67, hp68, hp69, hp70⟩ := F
  refine lv_aload_n hx hb dX11_why_0 rfl (lv_at hl 0 rfl) ?_
  refine lv_iload_n hx hb dX11_why_1 rfl (lv_at hl 1 rfl) ?_
  refine th_gor (th_runV (As := [.int w]) (rest := []) C hS.1 (RX11, TX11, 20) rfl gV_RX11_309 hp0 (t_X11_workOf iz_w hp0 hp35) hl rfl rfl rfl rfl ⟨Nat.le_of_ble_eq_true rfl, Nat.le_of_ble_eq_true rfl⟩ (Nat.le_of_ble_eq_true rfl) ⟨Nat.le_of_ble_eq_true rfl, Nat.le_of_ble_eq_true rfl⟩ dX11_why_2) ?_
  refine lv_astoreN (lv' := [(5, .null), (0, .ref x), (1, .int w), (2, .int dy), (3, .int ow), (4, .int wh)]) hx hb dX11_why_5 hl (by decide) rfl (fun ls hl => ?_)
  refine lv_aloadN hx hb dX11_why_7 (lv_at hl 0 rfl) ?_
  refine lv_ifnullN hx hb (tgt := 29) dX11_why_9 (by decide) ?_
  refine lv_iconst (v := (-1)) hx hb dX11_why_29 (by decide) ?_
  exact th_reti C (by have hfin := li_n1; omega) dX11_why_30
