set_option maxHeartbeats 400000 in
set_option maxRecDepth 100000 in
theorem t_X12_text {l : Launch} {D : va_G} {dA : Nat → ClassId} {K : Kmap} {V : Vmap} {sz : Nat} {x : Nat} {fr to n : Int32} {fr_i to_i n_i : Int} (iz_fr : fr.toInt = fr_i) (iz_to : to.toInt = to_i) (iz_n : n.toInt = n_i) (F : FM K V x) : Met l yX12_text (wsOf yX12_text cX12_text 7 (some .int)) { frames := 1, cells := 0, slots := 0, locals := 22 } (PC D dA K V sz [.ref x, .int fr, .int to, .int n]) (PQi (fun r => (r.toInt = (-1)))) 0 0 noFree := by
  refine th_body (by decide +kernel) (Nat.le_of_ble_eq_true rfl) (fun pZ eZ sZ mZ belowZ methZ cZ C hR hsz hnm ls hl => ?_)
  have C : CX pZ sZ mZ [.ref x, .int fr, .int to, .int n].toArray methZ cZ cX12_text 7 (some .int) RX12 D dA := C
  have hx := C.1; have hb := C.2.1
  have hl : lv_has ls 7 [(0, .ref x), (1, .int fr), (2, .int to), (3, .int n)] := hl
  subst hsz
  have hS : ST D dA K sZ.heap K V sZ.heap [] := ST.rf hR
  have r_fr := th_rng fr; rw [iz_fr] at r_fr
  have r_to := th_rng to; rw [iz_to] at r_to
  have r_n := th_rng n; rw [iz_n] at r_n
  have F0 := F
  refine lv_iload_n hx hb dX12_text_0 rfl (lv_at hl 1 rfl) ?_
  refine th_goi (th_runS (As := [.int fr]) (rest := []) C hS.1 gS_RX12_409 (t_X12_isDay iz_fr) hl rfl rfl rfl rfl ⟨Nat.le_of_ble_eq_true rfl, Nat.le_of_ble_eq_true rfl⟩ (Nat.le_of_ble_eq_true rfl) ⟨Nat.le_of_ble_eq_true rfl, Nat.le_of_ble_eq_true rfl⟩ dX12_text_1) (fun r4239 hq4240 => ?_)
  refine th_if_eq (X := r4239.toInt) (tgt := 46) hx hb dX12_text_4 (by decide) rfl (fun c4241 => ?_) (fun c4241 => ?_)
  · replace hq4240 := Or.resolve_left hq4240 (fun h => absurd h.2 (by omega))
    refine lv_iconst (v := (-1)) hx hb dX12_text_46 (by decide) ?_
    exact th_reti C (by have hfin := li_n1; omega) dX12_text_47
  · replace hq4240 := Or.resolve_right hq4240 (fun h => absurd h.2 (by omega))
    refine lv_iload_n hx hb dX12_text_7 rfl (lv_at hl 2 rfl) ?_
    refine lv_iload_n hx hb dX12_text_8 rfl (lv_at hl 1 rfl) ?_
    refine lv_sipush (v := 3599) hx hb dX12_text_9 (by decide) ?_
    refine th_goi (th_runS (As := [.int to, .int fr, .int 3599]) (rest := []) C hS.1 gS_RX12_371 (t_X12_in iz_to iz_fr li_3599) hl rfl rfl rfl rfl ⟨Nat.le_of_ble_eq_true rfl, Nat.le_of_ble_eq_true rfl⟩ (Nat.le_of_ble_eq_true rfl) ⟨Nat.le_of_ble_eq_true rfl, Nat.le_of_ble_eq_true rfl⟩ dX12_text_12) (fun r4242 hq4243 => ?_)
    refine th_if_eq (X := r4242.toInt) (tgt := 46) hx hb dX12_text_15 (by decide) rfl (fun c4244 => ?_) (fun c4244 => ?_)
    · replace hq4243 := Or.resolve_left hq4243 (fun h => absurd h.2 (by omega))
      refine lv_iconst (v := (-1)) hx hb dX12_text_46 (by decide) ?_
      exact th_reti C (by have hfin := li_n1; omega) dX12_text_47
    · replace hq4243 := Or.resolve_right hq4243 (fun h => absurd h.2 (by omega))
      refine lv_iload_n hx hb dX12_text_18 rfl (lv_at hl 3 rfl) ?_
      refine lv_iconst (v := 1) hx hb dX12_text_19 (by decide) ?_
      refine lv_sipush (v := 200) hx hb dX12_text_20 (by decide) ?_
      refine th_goi (th_runS (As := [.int n, .int 1, .int 200]) (rest := []) C hS.1 gS_RX12_371 (t_X12_in iz_n li_1 li_200) hl rfl rfl rfl rfl ⟨Nat.le_of_ble_eq_true rfl, Nat.le_of_ble_eq_true rfl⟩ (Nat.le_of_ble_eq_true rfl) ⟨Nat.le_of_ble_eq_true rfl, Nat.le_of_ble_eq_true rfl⟩ dX12_text_23) (fun r4245 hq4246 => ?_)
      refine th_if_eq (X := r4245.toInt) (tgt := 46) hx hb dX12_text_26 (by decide) rfl (fun c4247 => ?_) (fun c4247 => ?_)
      · replace hq4246 := Or.resolve_left hq4246 (fun h => absurd h.2 (by omega))
        refine lv_iconst (v := (-1)) hx hb dX12_text_46 (by decide) ?_
        exact th_reti C (by have hfin := li_n1; omega) dX12_text_47
      · replace hq4246 := Or.resolve_right hq4246 (fun h => absurd h.2 (by omega))
        refine lv_iload_n hx hb dX12_text_29 rfl (lv_at hl 3 rfl) ?_
        refine lv_aload_n hx hb dX12_text_30 rfl (lv_at hl 0 rfl) ?_
        refine th_get C hS.1 F.1 fl_RX12_436 (F.2.2.1 (30, 0) (by decide)) dX12_text_31 ?_
        refine th_icmp_gt (X := n_i) (Y := 0) (tgt := 46) hx hb dX12_text_34 (by decide) iz_n li_0 (fun c4248 => ?_) (fun c4248 => absurd c4248 (by omega))
        refine lv_iconst (v := (-1)) hx hb dX12_text_46 (by decide) ?_
        exact th_reti C (by have hfin := li_n1; omega) dX12_text_47

set_option maxHeartbeats 400000 in
set_option maxRecDepth 100000 in
theorem t_X12_yes {l : Launch} {D : va_G} {dA : Nat → ClassId} {K : Kmap} {V : Vmap} {sz : Nat} {x : Nat} {p i : Int32} {p_i i_i : Int} (iz_p : p.toInt = p_i) (iz_i : i.toInt = i_i) (F : FM K V x) : Met l yX12_yes (wsOf yX12_yes cX12_yes 3 (some .boolean)) { frames := 1, cells := 0, slots := 0, locals := 21 } (PC D dA K V sz [.ref x, .int p, .int i]) (PQi (fun r => (r.toInt = 0))) 0 0 noFree := by
  refine th_body (by decide +kernel) (Nat.le_of_ble_eq_true rfl) (fun pZ eZ sZ mZ belowZ methZ cZ C hR hsz hnm ls hl => ?_)
  have C : CX pZ sZ mZ [.ref x, .int p, .int i].toArray methZ cZ cX12_yes 3 (some .boolean) RX12 D dA := C
  have hx := C.1; have hb := C.2.1
  have hl : lv_has ls 3 [(0, .ref x), (1, .int p), (2, .int i)] := hl
  subst hsz
  have hS : ST D dA K sZ.heap K V sZ.heap [] := ST.rf hR
  have r_p := th_rng p; rw [iz_p] at r_p
  have r_i := th_rng i; rw [iz_i] at r_i
  have F0 := F
  refine lv_aload_n hx hb dX12_yes_0 rfl (lv_at hl 0 rfl) ?_
  refine lv_iload_n hx hb dX12_yes_1 rfl (lv_at hl 1 rfl) ?_
  refine th_goi (th_runV (As := [.int p]) (rest := []) C hS.1 (RX12, TX12, 151) rfl gV_RX12_406 F.1 (t_X12_isParty iz_p F.1 (F.2.2.1 (9, 0) (by decide))) hl rfl rfl rfl rfl ⟨Nat.le_of_ble_eq_true rfl, Nat.le_of_ble_eq_true rfl⟩ (Nat.le_of_ble_eq_true rfl) ⟨Nat.le_of_ble_eq_true rfl, Nat.le_of_ble_eq_true rfl⟩ dX12_yes_2) (fun r4249 hq4250 => ?_)
  refine th_if_eq (X := r4249.toInt) (tgt := 35) hx hb dX12_yes_5 (by decide) rfl (fun c4251 => ?_) (fun c4251 => absurd c4251 (by omega))
  refine lv_iconst (v := 0) hx hb dX12_yes_35 (by decide) ?_
  exact th_retz C (by have hfin := li_0; omega) (by have hfin := li_0; omega) dX12_yes_36

set_option maxHeartbeats 400000 in
set_option maxRecDepth 100000 in
theorem t_X12_reading {l : Launch} {D : va_G} {dA : Nat → ClassId} {K : Kmap} {V : Vmap} {sz : Nat} {x : Nat} {p i j n : Int32} {p_i i_i j_i n_i : Int} (iz_p : p.toInt = p_i) (iz_i : i.toInt = i_i) (iz_j : j.toInt = j_i) (iz_n : n.toInt = n_i) (F : FM K V x) : Met l yX12_reading (wsOf yX12_reading cX12_reading 7 (some .int)) { frames := 1, cells := 0, slots := 0, locals := 21 } (PC D dA K V sz [.ref x, .int p, .int i, .int j, .int n]) (PQi (fun r => (r.toInt = (-1)))) 0 0 noFree := by
  refine th_body (by decide +kernel) (Nat.le_of_ble_eq_true rfl) (fun pZ eZ sZ mZ belowZ methZ cZ C hR hsz hnm ls hl => ?_)
  have C : CX pZ sZ mZ [.ref x, .int p, .int i, .int j, .int n].toArray methZ cZ cX12_reading 7 (some .int) RX12 D dA := C
  have hx := C.1; have hb := C.2.1
  have hl : lv_has ls 7 [(0, .ref x), (1, .int p), (2, .int i), (3, .int j), (4, .int n)] := hl
  subst hsz
  have hS : ST D dA K sZ.heap K V sZ.heap [] := ST.rf hR
  have r_p := th_rng p; rw [iz_p] at r_p
  have r_i := th_rng i; rw [iz_i] at r_i
  have r_j := th_rng j; rw [iz_j] at r_j
  have r_n := th_rng n; rw [iz_n] at r_n
  have F0 := F
  refine lv_aload_n hx hb dX12_reading_0 rfl (lv_at hl 0 rfl) ?_
  refine lv_iload_n hx hb dX12_reading_1 rfl (lv_at hl 1 rfl) ?_
  refine th_goi (th_runV (As := [.int p]) (rest := []) C hS.1 (RX12, TX12, 151) rfl gV_RX12_406 F.1 (t_X12_isParty iz_p F.1 (F.2.2.1 (9, 0) (by decide))) hl rfl rfl rfl rfl ⟨Nat.le_of_ble_eq_true rfl, Nat.le_of_ble_eq_true rfl⟩ (Nat.le_of_ble_eq_true rfl) ⟨Nat.le_of_ble_eq_true rfl, Nat.le_of_ble_eq_true rfl⟩ dX12_reading_2) (fun r4252 hq4253 => ?_)
  refine th_if_eq (X := r4252.toInt) (tgt := 63) hx hb dX12_reading_5 (by decide) rfl (fun c4254 => ?_) (fun c4254 => absurd c4254 (by omega))
  refine lv_iconst (v := (-1)) hx hb dX12_reading_63 (by decide) ?_
  exact th_reti C (by have hfin := li_n1; omega) dX12_reading_64

set_option maxHeartbeats 400000 in
set_option maxRecDepth 100000 in
theorem t_X12_counts {l : Launch} {D : va_G} {dA : Nat → ClassId} {K : Kmap} {V : Vmap} {sz : Nat} {x : Nat} {i p dy : Int32} {i_i p_i dy_i : Int} (iz_i : i.toInt = i_i) (iz_p : p.toInt = p_i) (iz_dy : dy.toInt = dy_i) (F : FM K V x) : Met l yX12_counts (wsOf yX12_counts cX12_counts 6 (some .int)) { frames := 1, cells := 0, slots := 0, locals := 21 } (PC D dA K V sz [.ref x, .int i, .int p, .int dy]) (PQi (fun r => (r.toInt = (-1)))) 0 0 noFree := by
  refine th_body (by decide +kernel) (Nat.le_of_ble_eq_true rfl) (fun pZ eZ sZ mZ belowZ methZ cZ C hR hsz hnm ls hl => ?_)
  have C : CX pZ sZ mZ [.ref x, .int i, .int p, .int dy].toArray methZ cZ cX12_counts 6 (some .int) RX12 D dA := C
  have hx := C.1; have hb := C.2.1
  have hl : lv_has ls 6 [(0, .ref x), (1, .int i), (2, .int p), (3, .int dy)] := hl
  subst hsz
  have hS : ST D dA K sZ.heap K V sZ.heap [] := ST.rf hR
  have r_i := th_rng i; rw [iz_i] at r_i
  have r_p := th_rng p; rw [iz_p] at r_p
  have r_dy := th_rng dy; rw [iz_dy] at r_dy
  have F0 := F
  refine lv_aload_n hx hb dX12_counts_0 rfl (lv_at hl 0 rfl) ?_
  refine lv_iload_n hx hb dX12_counts_1 rfl (lv_at hl 1 rfl) ?_
  refine th_goi (th_runV (As := [.int i]) (rest := []) C hS.1 (RX12, TX12, 151) rfl gV_RX12_541 F.1 (t_X12_isText iz_i F.1 (F.2.2.1 (47, 0) (by decide))) hl rfl rfl rfl rfl ⟨Nat.le_of_ble_eq_true rfl, Nat.le_of_ble_eq_true rfl⟩ (Nat.le_of_ble_eq_true rfl) ⟨Nat.le_of_ble_eq_true rfl, Nat.le_of_ble_eq_true rfl⟩ dX12_counts_2) (fun r4255 hq4256 => ?_)
  refine th_if_eq (X := r4255.toInt) (tgt := 23) hx hb dX12_counts_5 (by decide) rfl (fun c4257 => ?_) (fun c4257 => absurd c4257 (by omega))
  refine lv_iconst (v := (-1)) hx hb dX12_counts_23 (by decide) ?_
  exact th_reti C (by have hfin := li_n1; omega) dX12_counts_24

set_option maxHeartbeats 400000 in
set_option maxRecDepth 100000 in
theorem t_X12_number {l : Launch} {D : va_G} {dA : Nat → ClassId} {K : Kmap} {V : Vmap} {sz : Nat} {x : Nat} {wh p dy : Int32} {wh_i p_i dy_i : Int} (iz_wh : wh.toInt = wh_i) (iz_p : p.toInt = p_i) (iz_dy : dy.toInt = dy_i) (F : FM K V x) : Met l yX12_number (wsOf yX12_number cX12_number 4 (some .int)) { frames := 1, cells := 0, slots := 0, locals := 21 } (PC D dA K V sz [.ref x, .int wh, .int p, .int dy]) (PQi (fun r => (r.toInt = (-1)))) 0 0 noFree := by
  refine th_body (by decide +kernel) (Nat.le_of_ble_eq_true rfl) (fun pZ eZ sZ mZ belowZ methZ cZ C hR hsz hnm ls hl => ?_)
  have C : CX pZ sZ mZ [.ref x, .int wh, .int p, .int dy].toArray methZ cZ cX12_number 4 (some .int) RX12 D dA := C
  have hx := C.1; have hb := C.2.1
  have hl : lv_has ls 4 [(0, .ref x), (1, .int wh), (2, .int p), (3, .int dy)] := hl
  subst hsz
  have hS : ST D dA K sZ.heap K V sZ.heap [] := ST.rf hR
  have r_wh := th_rng wh; rw [iz_wh] at r_wh
  have r_p := th_rng p; rw [iz_p] at r_p
  have r_dy := th_rng dy; rw [iz_dy] at r_dy
  have F0 := F
  refine lv_aload_n hx hb dX12_number_0 rfl (lv_at hl 0 rfl) ?_
  refine lv_iload_n hx hb dX12_number_1 rfl (lv_at hl 2 rfl) ?_
  refine th_goi (th_runV (As := [.int p]) (rest := []) C hS.1 (RX12, TX12, 151) rfl gV_RX12_406 F.1 (t_X12_isParty iz_p F.1 (F.2.2.1 (9, 0) (by decide))) hl rfl rfl rfl rfl ⟨Nat.le_of_ble_eq_true rfl, Nat.le_of_ble_eq_true rfl⟩ (Nat.le_of_ble_eq_true rfl) ⟨Nat.le_of_ble_eq_true rfl, Nat.le_of_ble_eq_true rfl⟩ dX12_number_2) (fun r4258 hq4259 => ?_)
  refine th_if_eq (X := r4258.toInt) (tgt := 15) hx hb dX12_number_5 (by decide) rfl (fun c4260 => ?_) (fun c4260 => absurd c4260 (by omega))
  refine lv_iconst (v := (-1)) hx hb dX12_number_15 (by decide) ?_
  exact th_reti C (by have hfin := li_n1; omega) dX12_number_16

set_option maxHeartbeats 400000 in
set_option maxRecDepth 100000 in
theorem t_X12_decides {l : Launch} {D : va_G} {dA : Nat → ClassId} {K : Kmap} {V : Vmap} {sz : Nat} {x : Nat} {p dy : Int32} {p_i dy_i : Int} (iz_p : p.toInt = p_i) (iz_dy : dy.toInt = dy_i) (F : FM K V x) : Met l yX12_decides (wsOf yX12_decides cX12_decides 3 (some .int)) { frames := 1, cells := 0, slots := 0, locals := 21 } (PC D dA K V sz [.ref x, .int p, .int dy]) (PQi (fun r => (r.toInt = (-1)))) 0 0 noFree := by
  refine th_body (by decide +kernel) (Nat.le_of_ble_eq_true rfl) (fun pZ eZ sZ mZ belowZ methZ cZ C hR hsz hnm ls hl => ?_)
  have C : CX pZ sZ mZ [.ref x, .int p, .int dy].toArray methZ cZ cX12_decides 3 (some .int) RX12 D dA := C
  have hx := C.1; have hb := C.2.1
  have hl : lv_has ls 3 [(0, .ref x), (1, .int p), (2, .int dy)] := hl
  subst hsz
  have hS : ST D dA K sZ.heap K V sZ.heap [] := ST.rf hR
  have r_p := th_rng p; rw [iz_p] at r_p
  have r_dy := th_rng dy; rw [iz_dy] at r_dy
  have F0 := F
  refine lv_aload_n hx hb dX12_decides_0 rfl (lv_at hl 0 rfl) ?_
  refine lv_iload_n hx hb dX12_decides_1 rfl (lv_at hl 1 rfl) ?_
  refine th_goi (th_runV (As := [.int p]) (rest := []) C hS.1 (RX12, TX12, 151) rfl gV_RX12_406 F.1 (t_X12_isParty iz_p F.1 (F.2.2.1 (9, 0) (by decide))) hl rfl rfl rfl rfl ⟨Nat.le_of_ble_eq_true rfl, Nat.le_of_ble_eq_true rfl⟩ (Nat.le_of_ble_eq_true rfl) ⟨Nat.le_of_ble_eq_true rfl, Nat.le_of_ble_eq_true rfl⟩ dX12_decides_2) (fun r4261 hq4262 => ?_)
  refine th_if_eq (X := r4261.toInt) (tgt := 15) hx hb dX12_decides_5 (by decide) rfl (fun c4263 => ?_) (fun c4263 => absurd c4263 (by omega))
  refine lv_iconst (v := (-1)) hx hb dX12_decides_15 (by decide) ?_
  exact th_reti C (by have hfin := li_n1; omega) dX12_decides_16

set_option maxHeartbeats 400000 in
set_option maxRecDepth 100000 in
theorem t_X12_work {l : Launch} {D : va_G} {dA : Nat → ClassId} {K : Kmap} {V : Vmap} {sz : Nat} {x : Nat} {kd p c fr to pe noi : Int32} {kd_i p_i c_i fr_i to_i pe_i noi_i : Int} (iz_kd : kd.toInt = kd_i) (iz_p : p.toInt = p_i) (iz_c : c.toInt = c_i) (iz_fr : fr.toInt = fr_i) (iz_to : to.toInt = to_i) (iz_pe : pe.toInt = pe_i) (iz_noi : noi.toInt = noi_i) (F : FM K V x) : Met l yX12_work (wsOf yX12_work cX12_work 9 (some .int)) { frames := 1, cells := 0, slots := 0, locals := 22 } (PC D dA K V sz [.ref x, .int kd, .int p, .int c, .int fr, .int to, .int pe, .int noi]) (PQi (fun r => (r.toInt = (-1)))) 0 0 noFree := by
  refine th_body (by decide +kernel) (Nat.le_of_ble_eq_true rfl) (fun pZ eZ sZ mZ belowZ methZ cZ C hR hsz hnm ls hl => ?_)
  have C : CX pZ sZ mZ [.ref x, .int kd, .int p, .int c, .int fr, .int to, .int pe, .int noi].toArray methZ cZ cX12_work 9 (some .int) RX12 D dA := C
  have hx := C.1; have hb := C.2.1
  have hl : lv_has ls 9 [(0, .ref x), (1, .int kd), (2, .int p), (3, .int c), (4, .int fr), (5, .int to), (6, .int pe), (7, .int noi)] := hl
  subst hsz
  have hS : ST D dA K sZ.heap K V sZ.heap [] := ST.rf hR
  have r_kd := th_rng kd; rw [iz_kd] at r_kd
  have r_p := th_rng p; rw [iz_p] at r_p
  have r_c := th_rng c; rw [iz_c] at r_c
  have r_fr := th_rng fr; rw [iz_fr] at r_fr
  have r_to := th_rng to; rw [iz_to] at r_to
  have r_pe := th_rng pe; rw [iz_pe] at r_pe
  have r_noi := th_rng noi; rw [iz_noi] at r_noi
  have F0 := F
  refine lv_iload_n hx hb dX12_work_0 rfl (lv_at hl 1 rfl) ?_
  refine lv_iconst (v := 0) hx hb dX12_work_1 (by decide) ?_
  refine lv_bipush (v := 9) hx hb dX12_work_2 (by decide) ?_
  refine th_goi (th_runS (As := [.int kd, .int 0, .int 9]) (rest := []) C hS.1 gS_RX12_371 (t_X12_in iz_kd li_0 li_9) hl rfl rfl rfl rfl ⟨Nat.le_of_ble_eq_true rfl, Nat.le_of_ble_eq_true rfl⟩ (Nat.le_of_ble_eq_true rfl) ⟨Nat.le_of_ble_eq_true rfl, Nat.le_of_ble_eq_true rfl⟩ dX12_work_4) (fun r4264 hq4265 => ?_)
  refine th_if_eq (X := r4264.toInt) (tgt := 86) hx hb dX12_work_7 (by decide) rfl (fun c4266 => ?_) (fun c4266 => ?_)
  · replace hq4265 := Or.resolve_left hq4265 (fun h => absurd h.2 (by omega))
    refine lv_iconst (v := (-1)) hx hb dX12_work_86 (by decide) ?_
    exact th_reti C (by have hfin := li_n1; omega) dX12_work_87
  · replace hq4265 := Or.resolve_right hq4265 (fun h => absurd h.2 (by omega))
    refine lv_aload_n hx hb dX12_work_10 rfl (lv_at hl 0 rfl) ?_
    refine lv_iload_n hx hb dX12_work_11 rfl (lv_at hl 2 rfl) ?_
    refine th_goi (th_runV (As := [.int p]) (rest := []) C hS.1 (RX12, TX12, 151) rfl gV_RX12_406 F.1 (t_X12_isParty iz_p F.1 (F.2.2.1 (9, 0) (by decide))) hl rfl rfl rfl rfl ⟨Nat.le_of_ble_eq_true rfl, Nat.le_of_ble_eq_true rfl⟩ (Nat.le_of_ble_eq_true rfl) ⟨Nat.le_of_ble_eq_true rfl, Nat.le_of_ble_eq_true rfl⟩ dX12_work_12) (fun r4267 hq4268 => ?_)
    refine th_if_eq (X := r4267.toInt) (tgt := 86) hx hb dX12_work_15 (by decide) rfl (fun c4269 => ?_) (fun c4269 => absurd c4269 (by omega))
    refine lv_iconst (v := (-1)) hx hb dX12_work_86 (by decide) ?_
    exact th_reti C (by have hfin := li_n1; omega) dX12_work_87

set_option maxHeartbeats 400000 in
set_option maxRecDepth 100000 in
theorem t_X12_tell {l : Launch} {D : va_G} {dA : Nat → ClassId} {K : Kmap} {V : Vmap} {sz : Nat} {x : Nat} {w wh : Int32} {w_i wh_i : Int} (iz_w : w.toInt = w_i) (iz_wh : wh.toInt = wh_i) (F : FM K V x) : Met l yX12_tell (wsOf yX12_tell cX12_tell 3 (some .boolean)) { frames := 1, cells := 0, slots := 0, locals := 21 } (PC D dA K V sz [.ref x, .int w, .int wh]) (PQi (fun r => (r.toInt = 0))) 0 0 noFree := by
  refine th_body (by decide +kernel) (Nat.le_of_ble_eq_true rfl) (fun pZ eZ sZ mZ belowZ methZ cZ C hR hsz hnm ls hl => ?_)
  have C : CX pZ sZ mZ [.ref x, .int w, .int wh].toArray methZ cZ cX12_tell 3 (some .boolean) RX12 D dA := C
  have hx := C.1; have hb := C.2.1
  have hl : lv_has ls 3 [(0, .ref x), (1, .int w), (2, .int wh)] := hl
  subst hsz
  have hS : ST D dA K sZ.heap K V sZ.heap [] := ST.rf hR
  have r_w := th_rng w; rw [iz_w] at r_w
  have r_wh := th_rng wh; rw [iz_wh] at r_wh
  have F0 := F
  refine lv_aload_n hx hb dX12_tell_0 rfl (lv_at hl 0 rfl) ?_
  refine lv_iload_n hx hb dX12_tell_1 rfl (lv_at hl 1 rfl) ?_
  refine th_goi (th_runV (As := [.int w]) (rest := []) C hS.1 (RX12, TX12, 151) rfl gV_RX12_566 F.1 (t_X12_isWork iz_w F.1 (F.2.2.1 (66, 0) (by decide))) hl rfl rfl rfl rfl ⟨Nat.le_of_ble_eq_true rfl, Nat.le_of_ble_eq_true rfl⟩ (Nat.le_of_ble_eq_true rfl) ⟨Nat.le_of_ble_eq_true rfl, Nat.le_of_ble_eq_true rfl⟩ dX12_tell_2) (fun r4270 hq4271 => ?_)
  refine th_if_eq (X := r4270.toInt) (tgt := 40) hx hb dX12_tell_5 (by decide) rfl (fun c4272 => ?_) (fun c4272 => absurd c4272 (by omega))
  refine lv_iconst (v := 0) hx hb dX12_tell_40 (by decide) ?_
  exact th_retz C (by have hfin := li_0; omega) (by have hfin := li_0; omega) dX12_tell_41

set_option maxHeartbeats 400000 in
set_option maxRecDepth 100000 in
theorem t_X12_study {l : Launch} {D : va_G} {dA : Nat → ClassId} {K : Kmap} {V : Vmap} {sz : Nat} {x : Nat} {w ha : Int32} {w_i ha_i : Int} (iz_w : w.toInt = w_i) (iz_ha : ha.toInt = ha_i) (F : FM K V x) : Met l yX12_study (wsOf yX12_study cX12_study 3 (some .boolean)) { frames := 1, cells := 0, slots := 0, locals := 21 } (PC D dA K V sz [.ref x, .int w, .int ha]) (PQi (fun r => (r.toInt = 0))) 0 0 noFree := by
  refine th_body (by decide +kernel) (Nat.le_of_ble_eq_true rfl) (fun pZ eZ sZ mZ belowZ methZ cZ C hR hsz hnm ls hl => ?_)
  have C : CX pZ sZ mZ [.ref x, .int w, .int ha].toArray methZ cZ cX12_study 3 (some .boolean) RX12 D dA := C
  have hx := C.1; have hb := C.2.1
  have hl : lv_has ls 3 [(0, .ref x), (1, .int w), (2, .int ha)] := hl
  subst hsz
  have hS : ST D dA K sZ.heap K V sZ.heap [] := ST.rf hR
  have r_w := th_rng w; rw [iz_w] at r_w
  have r_ha := th_rng ha; rw [iz_ha] at r_ha
  have F0 := F
  refine lv_aload_n hx hb dX12_study_0 rfl (lv_at hl 0 rfl) ?_
  refine lv_iload_n hx hb dX12_study_1 rfl (lv_at hl 1 rfl) ?_
  refine th_goi (th_runV (As := [.int w]) (rest := []) C hS.1 (RX12, TX12, 151) rfl gV_RX12_566 F.1 (t_X12_isWork iz_w F.1 (F.2.2.1 (66, 0) (by decide))) hl rfl rfl rfl rfl ⟨Nat.le_of_ble_eq_true rfl, Nat.le_of_ble_eq_true rfl⟩ (Nat.le_of_ble_eq_true rfl) ⟨Nat.le_of_ble_eq_true rfl, Nat.le_of_ble_eq_true rfl⟩ dX12_study_2) (fun r4273 hq4274 => ?_)
  refine th_if_eq (X := r4273.toInt) (tgt := 29) hx hb dX12_study_5 (by decide) rfl (fun c4275 => ?_) (fun c4275 => absurd c4275 (by omega))
  refine lv_iconst (v := 0) hx hb dX12_study_29 (by decide) ?_
  exact th_retz C (by have hfin := li_0; omega) (by have hfin := li_0; omega) dX12_study_30

set_option maxHeartbeats 400000 in
set_option maxRecDepth 100000 in
theorem t_X12_say {l : Launch} {D : va_G} {dA : Nat → ClassId} {K : Kmap} {V : Vmap} {sz : Nat} {x : Nat} {p w ye : Int32} {p_i w_i ye_i : Int} (iz_p : p.toInt = p_i) (iz_w : w.toInt = w_i) (iz_ye : ye.toInt = ye_i) (F : FM K V x) : Met l yX12_say (wsOf yX12_say cX12_say 4 (some .boolean)) { frames := 1, cells := 0, slots := 0, locals := 21 } (PC D dA K V sz [.ref x, .int p, .int w, .int ye]) (PQi (fun r => (r.toInt = 0))) 0 0 noFree := by
  refine th_body (by decide +kernel) (Nat.le_of_ble_eq_true rfl) (fun pZ eZ sZ mZ belowZ methZ cZ C hR hsz hnm ls hl => ?_)
  have C : CX pZ sZ mZ [.ref x, .int p, .int w, .int ye].toArray methZ cZ cX12_say 4 (some .boolean) RX12 D dA := C
  have hx := C.1; have hb := C.2.1
  have hl : lv_has ls 4 [(0, .ref x), (1, .int p), (2, .int w), (3, .int ye)] := hl
  subst hsz
  have hS : ST D dA K sZ.heap K V sZ.heap [] := ST.rf hR
  have r_p := th_rng p; rw [iz_p] at r_p
  have r_w := th_rng w; rw [iz_w] at r_w
  have r_ye := th_rng ye; rw [iz_ye] at r_ye
  have F0 := F
  refine lv_aload_n hx hb dX12_say_0 rfl (lv_at hl 0 rfl) ?_
  refine lv_iload_n hx hb dX12_say_1 rfl (lv_at hl 1 rfl) ?_
  refine th_goi (th_runV (As := [.int p]) (rest := []) C hS.1 (RX12, TX12, 151) rfl gV_RX12_406 F.1 (t_X12_isParty iz_p F.1 (F.2.2.1 (9, 0) (by decide))) hl rfl rfl rfl rfl ⟨Nat.le_of_ble_eq_true rfl, Nat.le_of_ble_eq_true rfl⟩ (Nat.le_of_ble_eq_true rfl) ⟨Nat.le_of_ble_eq_true rfl, Nat.le_of_ble_eq_true rfl⟩ dX12_say_2) (fun r4276 hq4277 => ?_)
  refine th_if_eq (X := r4276.toInt) (tgt := 16) hx hb dX12_say_5 (by decide) rfl (fun c4278 => ?_) (fun c4278 => absurd c4278 (by omega))
  refine lv_iconst (v := 0) hx hb dX12_say_16 (by decide) ?_
  exact th_retz C (by have hfin := li_0; omega) (by have hfin := li_0; omega) dX12_say_17

set_option maxHeartbeats 400000 in
set_option maxRecDepth 100000 in
theorem t_X12_may {l : Launch} {D : va_G} {dA : Nat → ClassId} {K : Kmap} {V : Vmap} {sz : Nat} {x : Nat} {w dy ow : Int32} {w_i dy_i ow_i : Int} (iz_w : w.toInt = w_i) (iz_dy : dy.toInt = dy_i) (iz_ow : ow.toInt = ow_i) (F : FM K V x) : Met l yX12_may (wsOf yX12_may cX12_may 4 (some .int)) { frames := 1, cells := 0, slots := 0, locals := 21 } (PC D dA K V sz [.ref x, .int w, .int dy, .int ow]) (PQi (fun r => (r.toInt = (-1)))) 0 0 noFree := by
  refine th_body (by decide +kernel) (Nat.le_of_ble_eq_true rfl) (fun pZ eZ sZ mZ belowZ methZ cZ C hR hsz hnm ls hl => ?_)
  have C : CX pZ sZ mZ [.ref x, .int w, .int dy, .int ow].toArray methZ cZ cX12_may 4 (some .int) RX12 D dA := C
  have hx := C.1; have hb := C.2.1
  have hl : lv_has ls 4 [(0, .ref x), (1, .int w), (2, .int dy), (3, .int ow)] := hl
  subst hsz
  have hS : ST D dA K sZ.heap K V sZ.heap [] := ST.rf hR
  have r_w := th_rng w; rw [iz_w] at r_w
  have r_dy := th_rng dy; rw [iz_dy] at r_dy
  have r_ow := th_rng ow; rw [iz_ow] at r_ow
  have F0 := F
  refine lv_aload_n hx hb dX12_may_0 rfl (lv_at hl 0 rfl) ?_
  refine lv_iload_n hx hb dX12_may_1 rfl (lv_at hl 1 rfl) ?_
  refine th_goi (th_runV (As := [.int w]) (rest := []) C hS.1 (RX12, TX12, 151) rfl gV_RX12_566 F.1 (t_X12_isWork iz_w F.1 (F.2.2.1 (66, 0) (by decide))) hl rfl rfl rfl rfl ⟨Nat.le_of_ble_eq_true rfl, Nat.le_of_ble_eq_true rfl⟩ (Nat.le_of_ble_eq_true rfl) ⟨Nat.le_of_ble_eq_true rfl, Nat.le_of_ble_eq_true rfl⟩ dX12_may_2) (fun r4279 hq4280 => ?_)
  refine th_if_eq (X := r4279.toInt) (tgt := 25) hx hb dX12_may_5 (by decide) rfl (fun c4281 => ?_) (fun c4281 => absurd c4281 (by omega))
  refine lv_iconst (v := (-1)) hx hb dX12_may_25 (by decide) ?_
  exact th_reti C (by have hfin := li_n1; omega) dX12_may_26

set_option maxHeartbeats 400000 in
set_option maxRecDepth 100000 in
theorem t_X12_why {l : Launch} {D : va_G} {dA : Nat → ClassId} {K : Kmap} {V : Vmap} {sz : Nat} {x : Nat} {w dy ow wh : Int32} {w_i dy_i ow_i wh_i : Int} (iz_w : w.toInt = w_i) (iz_dy : dy.toInt = dy_i) (iz_ow : ow.toInt = ow_i) (iz_wh : wh.toInt = wh_i) (F : FM K V x) : Met l yX12_why (wsOf yX12_why cX12_why 5 (some .int)) { frames := 1, cells := 0, slots := 0, locals := 21 } (PC D dA K V sz [.ref x, .int w, .int dy, .int ow, .int wh]) (PQi (fun r => (r.toInt = (-1)))) 0 0 noFree := by
  refine th_body (by decide +kernel) (Nat.le_of_ble_eq_true rfl) (fun pZ eZ sZ mZ belowZ methZ cZ C hR hsz hnm ls hl => ?_)
  have C : CX pZ sZ mZ [.ref x, .int w, .int dy, .int ow, .int wh].toArray methZ cZ cX12_why 5 (some .int) RX12 D dA := C
  have hx := C.1; have hb := C.2.1
  have hl : lv_has ls 5 [(0, .ref x), (1, .int w), (2, .int dy), (3, .int ow), (4, .int wh)] := hl
  subst hsz
  have hS : ST D dA K sZ.heap K V sZ.heap [] := ST.rf hR
  have r_w := th_rng w; rw [iz_w] at r_w
  have r_dy := th_rng dy; rw [iz_dy] at r_dy
  have r_ow := th_rng ow; rw [iz_ow] at r_ow
  have r_wh := th_rng wh; rw [iz_wh] at r_wh
  have F0 := F
  refine lv_aload_n hx hb dX12_why_0 rfl (lv_at hl 0 rfl) ?_
  refine lv_iload_n hx hb dX12_why_1 rfl (lv_at hl 1 rfl) ?_
  refine th_goi (th_runV (As := [.int w]) (rest := []) C hS.1 (RX12, TX12, 151) rfl gV_RX12_566 F.1 (t_X12_isWork iz_w F.1 (F.2.2.1 (66, 0) (by decide))) hl rfl rfl rfl rfl ⟨Nat.le_of_ble_eq_true rfl, Nat.le_of_ble_eq_true rfl⟩ (Nat.le_of_ble_eq_true rfl) ⟨Nat.le_of_ble_eq_true rfl, Nat.le_of_ble_eq_true rfl⟩ dX12_why_2) (fun r4282 hq4283 => ?_)
  refine th_if_eq (X := r4282.toInt) (tgt := 35) hx hb dX12_why_5 (by decide) rfl (fun c4284 => ?_) (fun c4284 => absurd c4284 (by omega))
  refine lv_iconst (v := (-1)) hx hb dX12_why_35 (by decide) ?_
  exact th_reti C (by have hfin := li_n1; omega) dX12_why_36

set_option maxHeartbeats 400000 in
set_option maxRecDepth 100000 in
theorem t_X12_whose {l : Launch} {D : va_G} {dA : Nat → ClassId} {K : Kmap} {V : Vmap} {sz : Nat} {x : Nat} {p c : Int32} {p_i c_i : Int} (iz_p : p.toInt = p_i) (iz_c : c.toInt = c_i) (F : FM K V x) : Met l yX12_whose (wsOf yX12_whose cX12_whose 5 (some .int)) { frames := 1, cells := 0, slots := 0, locals := 21 } (PC D dA K V sz [.ref x, .int p, .int c]) (PQi (fun r => (r.toInt = (-1)))) 0 0 noFree := by
  refine th_body (by decide +kernel) (Nat.le_of_ble_eq_true rfl) (fun pZ eZ sZ mZ belowZ methZ cZ C hR hsz hnm ls hl => ?_)
  have C : CX pZ sZ mZ [.ref x, .int p, .int c].toArray methZ cZ cX12_whose 5 (some .int) RX12 D dA := C
  have hx := C.1; have hb := C.2.1
  have hl : lv_has ls 5 [(0, .ref x), (1, .int p), (2, .int c)] := hl
  subst hsz
  have hS : ST D dA K sZ.heap K V sZ.heap [] := ST.rf hR
  have r_p := th_rng p; rw [iz_p] at r_p
  have r_c := th_rng c; rw [iz_c] at r_c
  have F0 := F
  refine lv_aload_n hx hb dX12_whose_0 rfl (lv_at hl 0 rfl) ?_
  refine lv_iload_n hx hb dX12_whose_1 rfl (lv_at hl 1 rfl) ?_
  refine th_goi (th_runV (As := [.int p]) (rest := []) C hS.1 (RX12, TX12, 151) rfl gV_RX12_406 F.1 (t_X12_isParty iz_p F.1 (F.2.2.1 (9, 0) (by decide))) hl rfl rfl rfl rfl ⟨Nat.le_of_ble_eq_true rfl, Nat.le_of_ble_eq_true rfl⟩ (Nat.le_of_ble_eq_true rfl) ⟨Nat.le_of_ble_eq_true rfl, Nat.le_of_ble_eq_true rfl⟩ dX12_whose_2) (fun r4285 hq4286 => ?_)
  refine th_if_eq (X := r4285.toInt) (tgt := 16) hx hb dX12_whose_5 (by decide) rfl (fun c4287 => ?_) (fun c4287 => absurd c4287 (by omega))
  refine lv_iconst (v := (-1)) hx hb dX12_whose_16 (by decide) ?_
  exact th_reti C (by have hfin := li_n1; omega) dX12_whose_17

set_option maxHeartbeats 400000 in
set_option maxRecDepth 100000 in
theorem t_X12_ship {l : Launch} {D : va_G} {dA : Nat → ClassId} {K : Kmap} {V : Vmap} {sz : Nat} {x : Nat} {p ro stg : Int32} {p_i ro_i stg_i : Int} (iz_p : p.toInt = p_i) (iz_ro : ro.toInt = ro_i) (iz_stg : stg.toInt = stg_i) (F : FM K V x) : Met l yX12_ship (wsOf yX12_ship cX12_ship 4 (some .int)) { frames := 1, cells := 0, slots := 0, locals := 21 } (PC D dA K V sz [.ref x, .int p, .int ro, .int stg]) (PQi (fun r => (r.toInt = (-1)))) 0 0 noFree := by
  refine th_body (by decide +kernel) (Nat.le_of_ble_eq_true rfl) (fun pZ eZ sZ mZ belowZ methZ cZ C hR hsz hnm ls hl => ?_)
  have C : CX pZ sZ mZ [.ref x, .int p, .int ro, .int stg].toArray methZ cZ cX12_ship 4 (some .int) RX12 D dA := C
  have hx := C.1; have hb := C.2.1
  have hl : lv_has ls 4 [(0, .ref x), (1, .int p), (2, .int ro), (3, .int stg)] := hl
  subst hsz
  have hS : ST D dA K sZ.heap K V sZ.heap [] := ST.rf hR
  have r_p := th_rng p; rw [iz_p] at r_p
  have r_ro := th_rng ro; rw [iz_ro] at r_ro
  have r_stg := th_rng stg; rw [iz_stg] at r_stg
  have F0 := F
  refine lv_aload_n hx hb dX12_ship_0 rfl (lv_at hl 0 rfl) ?_
  refine lv_iload_n hx hb dX12_ship_1 rfl (lv_at hl 1 rfl) ?_
  refine th_goi (th_runV (As := [.int p]) (rest := []) C hS.1 (RX12, TX12, 151) rfl gV_RX12_406 F.1 (t_X12_isParty iz_p F.1 (F.2.2.1 (9, 0) (by decide))) hl rfl rfl rfl rfl ⟨Nat.le_of_ble_eq_true rfl, Nat.le_of_ble_eq_true rfl⟩ (Nat.le_of_ble_eq_true rfl) ⟨Nat.le_of_ble_eq_true rfl, Nat.le_of_ble_eq_true rfl⟩ dX12_ship_2) (fun r4288 hq4289 => ?_)
  refine th_if_eq (X := r4288.toInt) (tgt := 38) hx hb dX12_ship_5 (by decide) rfl (fun c4290 => ?_) (fun c4290 => absurd c4290 (by omega))
  refine lv_iconst (v := (-1)) hx hb dX12_ship_38 (by decide) ?_
  exact th_reti C (by have hfin := li_n1; omega) dX12_ship_39
