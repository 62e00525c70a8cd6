set_option maxHeartbeats 400000 in
set_option maxRecDepth 100000 in
theorem t_X11_sea {l : Launch} {D : va_G} {dA : Nat → ClassId} {K : Kmap} {V : Vmap} {sz : Nat} {x : Nat} {se1 dy : Int32} {se1_i dy_i : Int} (iz_se1 : se1.toInt = se1_i) (iz_dy : dy.toInt = dy_i) (F : FX K V x) : Met l yX11_sea (wsOf yX11_sea cX11_sea 3 (some .boolean)) { frames := 2, cells := 0, slots := 0, locals := 42 } (PC D dA K V sz [.ref x, .int se1, .int dy]) (HQi D dA K (fun r K1 V1 => (∀ b, K b = some (0, 11) → V1 b = V b) ∧ ((((0 ≤ se1_i ∧ se1_i ≤ 3) ∧ (1 ≤ dy_i ∧ dy_i ≤ 90)) ∧ r.toInt = 1) ∨ (((0 > se1_i ∨ se1_i > 3) ∨ (1 > dy_i ∨ dy_i > 90)) ∧ r.toInt = 0)))) 0 0 (AK K sz) := by
  refine th_body (by decide +kernel) (Nat.le_of_ble_eq_true rfl) (fun pZ eZ sZ mZ belowZ methZ cZ C hR hsz hnm ls hl => ?_)
  have C : CX pZ sZ mZ [.ref x, .int se1, .int dy].toArray methZ cZ cX11_sea 3 (some .boolean) RX11 D dA := C
  have hx := C.1; have hb := C.2.1
  have hl : lv_has ls 3 [(0, .ref x), (1, .int se1), (2, .int dy)] := hl
  subst hsz
  have hS : ST D dA K sZ.heap K V sZ.heap [] := ST.rf hR
  have r_se1 := th_rng se1; rw [iz_se1] at r_se1
  have r_dy := th_rng dy; rw [iz_dy] at r_dy
  have F0 := F
  obtain ⟨ad, hF⟩ := F
  refine lv_iload_n hx hb dX11_sea_0 rfl (lv_at hl 1 rfl) ?_
  refine th_goi (th_runS (As := [.int se1]) (rest := []) C hS.1 gS_RX11_394 (t_X11_isSea iz_se1) hl rfl rfl rfl rfl ⟨Nat.le_of_ble_eq_true rfl, Nat.le_of_ble_eq_true rfl⟩ (Nat.le_of_ble_eq_true rfl) ⟨Nat.le_of_ble_eq_true rfl, Nat.le_of_ble_eq_true rfl⟩ dX11_sea_1) (fun r3678 hq3679 => ?_)
  refine th_if_eq (X := r3678.toInt) (tgt := 17) hx hb dX11_sea_4 (by decide) rfl (fun c3680 => ?_) (fun c3680 => ?_)
  · replace hq3679 := Or.resolve_left hq3679 (fun h => absurd h.2 (by omega))
    refine lv_iconst (v := 0) hx hb dX11_sea_17 (by decide) ?_
    exact th_retzH (post := fun r K1 V1 => (∀ b, K b = some (0, 11) → V1 b = V b) ∧ ((((0 ≤ se1_i ∧ se1_i ≤ 3) ∧ (1 ≤ dy_i ∧ dy_i ≤ 90)) ∧ r.toInt = 1) ∨ (((0 > se1_i ∨ se1_i > 3) ∨ (1 > dy_i ∨ dy_i > 90)) ∧ r.toInt = 0))) (cells := 0) (slots := 0) (mc := 0) (ms := 0) C hS (by have hfin := li_0; omega) ⟨(fun b hb => rfl), (Or.inr (⟨by omega, li_0⟩))⟩ (Nat.le_of_ble_eq_true rfl) (Nat.le_of_ble_eq_true rfl) dX11_sea_18
  · replace hq3679 := Or.resolve_right hq3679 (fun h => absurd h.2 (by omega))
    refine lv_iload_n hx hb dX11_sea_7 rfl (lv_at hl 2 rfl) ?_
    refine lv_iconst (v := 1) hx hb dX11_sea_8 (by decide) ?_
    refine lv_bipush (v := 90) hx hb dX11_sea_9 (by decide) ?_
    refine th_goi (th_runS (As := [.int dy, .int 1, .int 90]) (rest := []) C hS.1 gS_RX11_112 (t_X11_between iz_dy li_1 li_90) hl rfl rfl rfl rfl ⟨Nat.le_of_ble_eq_true rfl, Nat.le_of_ble_eq_true rfl⟩ (Nat.le_of_ble_eq_true rfl) ⟨Nat.le_of_ble_eq_true rfl, Nat.le_of_ble_eq_true rfl⟩ dX11_sea_11) (fun r3681 hq3682 => ?_)
    refine th_if_ne (X := r3681.toInt) (tgt := 19) hx hb dX11_sea_14 (by decide) rfl (fun c3683 => ?_) (fun c3683 => ?_)
    · replace hq3682 := Or.resolve_right hq3682 (fun h => absurd h.2 (by omega))
      refine lv_aload_n hx hb dX11_sea_19 rfl (lv_at hl 0 rfl) ?_
      refine th_get C hS.1 (FX.f0 hF) fl_RX11_12 (FX.f1 hF) dX11_sea_20 ?_
      refine th_get C hS.1 (FX.f2 hF) fl_RX11_400 (FX.f16 hF) dX11_sea_23 ?_
      refine lv_iload_n hx hb dX11_sea_26 rfl (lv_at hl 1 rfl) ?_
      refine lv_iload_n hx hb dX11_sea_27 rfl (lv_at hl 2 rfl) ?_
      refine th_govH hS rfl (th_runS (As := [.ref (ad 6), .int se1, .int dy]) (rest := []) C hS.1 gS_RX11_108 (t_X4_put iz_se1 iz_dy (FX.f17 hF) (by decide)) hl rfl rfl rfl rfl ⟨Nat.le_of_ble_eq_true rfl, Nat.le_of_ble_eq_true rfl⟩ (Nat.le_of_ble_eq_true rfl) ⟨Nat.le_of_ble_eq_true rfl, Nat.le_of_ble_eq_true rfl⟩ dX11_sea_28) (fun K3686 V3687 H locs1 hq3685 hE3688 hS => ?_)
      obtain ⟨rfl, hF3689⟩ := hq3685
      refine lv_iconst (v := 1) hx hb dX11_sea_31 (by decide) ?_
      exact th_retzH (post := fun r K1 V1 => (∀ b, K b = some (0, 11) → V1 b = V b) ∧ ((((0 ≤ se1_i ∧ se1_i ≤ 3) ∧ (1 ≤ dy_i ∧ dy_i ≤ 90)) ∧ r.toInt = 1) ∨ (((0 > se1_i ∨ se1_i > 3) ∨ (1 > dy_i ∨ dy_i > 90)) ∧ r.toInt = 0))) (cells := 0) (slots := 0) (mc := 0) (ms := 0) C hS (by have hfin := li_1; omega) ⟨(fun b hb  => (hF3689 _ (by rw [hb]; exact fun h => by cases h) (K_ne hb (FX.f17 hF) (by decide)))), (Or.inl ⟨by omega, li_1⟩)⟩ (Nat.le_of_ble_eq_true rfl) (Nat.le_of_ble_eq_true rfl) dX11_sea_32
    · replace hq3682 := Or.resolve_left hq3682 (fun h => absurd h.2 (by omega))
      refine lv_iconst (v := 0) hx hb dX11_sea_17 (by decide) ?_
      exact th_retzH (post := fun r K1 V1 => (∀ b, K b = some (0, 11) → V1 b = V b) ∧ ((((0 ≤ se1_i ∧ se1_i ≤ 3) ∧ (1 ≤ dy_i ∧ dy_i ≤ 90)) ∧ r.toInt = 1) ∨ (((0 > se1_i ∨ se1_i > 3) ∨ (1 > dy_i ∨ dy_i > 90)) ∧ r.toInt = 0))) (cells := 0) (slots := 0) (mc := 0) (ms := 0) C hS (by have hfin := li_0; omega) ⟨(fun b hb => rfl), (Or.inr (⟨by omega, li_0⟩))⟩ (Nat.le_of_ble_eq_true rfl) (Nat.le_of_ble_eq_true rfl) dX11_sea_18

set_option maxHeartbeats 400000 in
set_option maxRecDepth 100000 in
theorem t_X11_voyage {l : Launch} {D : va_G} {dA : Nat → ClassId} {K : Kmap} {V : Vmap} {sz : Nat} {x : Nat} {sh1 se1 sn dr : Int32} {sh1_i se1_i sn_i dr_i : Int} (iz_sh1 : sh1.toInt = sh1_i) (iz_se1 : se1.toInt = se1_i) (iz_sn : sn.toInt = sn_i) (iz_dr : dr.toInt = dr_i) (F : FX K V x) : Met l yX11_voyage (wsOf yX11_voyage cX11_voyage 7 (some .boolean)) { frames := 3, cells := 0, slots := 0, locals := 66 } (PC D dA K V sz [.ref x, .int sh1, .int se1, .int sn, .int dr]) (PQi (fun r => (r.toInt = 0))) 0 0 noFree := by
  refine th_body (by decide +kernel) (Nat.le_of_ble_eq_true rfl) (fun pZ eZ sZ mZ belowZ methZ cZ C hR hsz hnm ls hl => ?_)
  have C : CX pZ sZ mZ [.ref x, .int sh1, .int se1, .int sn, .int dr].toArray methZ cZ cX11_voyage 7 (some .boolean) RX11 D dA := C
  have hx := C.1; have hb := C.2.1
  have hl : lv_has ls 7 [(0, .ref x), (1, .int sh1), (2, .int se1), (3, .int sn), (4, .int dr)] := hl
  subst hsz
  have hS : ST D dA K sZ.heap K V sZ.heap [] := ST.rf hR
  have r_sh1 := th_rng sh1; rw [iz_sh1] at r_sh1
  have r_se1 := th_rng se1; rw [iz_se1] at r_se1
  have r_sn := th_rng sn; rw [iz_sn] at r_sn
  have r_dr := th_rng dr; rw [iz_dr] at r_dr
  have F0 := F
  obtain ⟨ad, hF⟩ := F
  refine lv_aload_n hx hb dX11_voyage_0 rfl (lv_at hl 0 rfl) ?_
  refine lv_iload_n hx hb dX11_voyage_1 rfl (lv_at hl 1 rfl) ?_
  refine th_gor (th_runV (As := [.int sh1]) (rest := []) C hS.1 (RX11, TX11, 20) rfl gV_RX11_403 (FX.f0 hF) (t_X11_shipOf iz_sh1 (FX.f0 hF) (FX.f36 hF)) hl rfl rfl rfl rfl ⟨Nat.le_of_ble_eq_true rfl, Nat.le_of_ble_eq_true rfl⟩ (Nat.le_of_ble_eq_true rfl) ⟨Nat.le_of_ble_eq_true rfl, Nat.le_of_ble_eq_true rfl⟩ dX11_voyage_2) ?_
  refine lv_astoreN (lv' := [(5, .null), (0, .ref x), (1, .int sh1), (2, .int se1), (3, .int sn), (4, .int dr)]) hx hb dX11_voyage_5 hl (by decide) rfl (fun ls hl => ?_)
  refine lv_aload_n hx hb dX11_voyage_7 rfl (lv_at hl 1 rfl) ?_
  refine lv_iload_n hx hb dX11_voyage_8 rfl (lv_at hl 4 rfl) ?_
  refine th_gor (th_runV (As := [.int sn]) (rest := []) C hS.1 (RX11, TX11, 20) rfl gV_RX11_195 (FX.f0 hF) (t_X11_standingStation iz_sn (FX.f0 hF) (FX.f34 hF)) hl rfl rfl rfl rfl ⟨Nat.le_of_ble_eq_true rfl, Nat.le_of_ble_eq_true rfl⟩ (Nat.le_of_ble_eq_true rfl) ⟨Nat.le_of_ble_eq_true rfl, Nat.le_of_ble_eq_true rfl⟩ dX11_voyage_9) ?_
  refine lv_astoreN (lv' := [(6, .null), (5, .null), (0, .ref x), (1, .int sh1), (2, .int se1), (3, .int sn), (4, .int dr)]) hx hb dX11_voyage_12 hl (by decide) rfl (fun ls hl => ?_)
  refine lv_aloadN hx hb dX11_voyage_14 (lv_at hl 1 rfl) ?_
  refine lv_ifnullN hx hb (tgt := 45) dX11_voyage_16 (by decide) ?_
  refine lv_iconst (v := 0) hx hb dX11_voyage_45 (by decide) ?_
  exact th_retz C (by have hfin := li_0; omega) (by have hfin := li_0; omega) dX11_voyage_46

set_option maxHeartbeats 400000 in
set_option maxRecDepth 100000 in
theorem t_X11_sledge {l : Launch} {D : va_G} {dA : Nat → ClassId} {K : Kmap} {V : Vmap} {sz : Nat} {x : Nat} {fr to dr : Int32} {fr_i to_i dr_i : Int} (iz_fr : fr.toInt = fr_i) (iz_to : to.toInt = to_i) (iz_dr : dr.toInt = dr_i) (F : FX K V x) : Met l yX11_sledge (wsOf yX11_sledge cX11_sledge 8 (some .int)) { frames := 3, cells := 0, slots := 0, locals := 66 } (PC D dA K V sz [.ref x, .int fr, .int to, .int dr]) (PQi (fun r => (r.toInt = (-1)))) 0 0 noFree := by
  refine th_body (by decide +kernel) (Nat.le_of_ble_eq_true rfl) (fun pZ eZ sZ mZ belowZ methZ cZ C hR hsz hnm ls hl => ?_)
  have C : CX pZ sZ mZ [.ref x, .int fr, .int to, .int dr].toArray methZ cZ cX11_sledge 8 (some .int) RX11 D dA := C
  have hx := C.1; have hb := C.2.1
  have hl : lv_has ls 8 [(0, .ref x), (1, .int fr), (2, .int to), (3, .int dr)] := hl
  subst hsz
  have hS : ST D dA K sZ.heap K V sZ.heap [] := ST.rf hR
  have r_fr := th_rng fr; rw [iz_fr] at r_fr
  have r_to := th_rng to; rw [iz_to] at r_to
  have r_dr := th_rng dr; rw [iz_dr] at r_dr
  have F0 := F
  obtain ⟨ad, hF⟩ := F
  refine lv_aload_n hx hb dX11_sledge_0 rfl (lv_at hl 0 rfl) ?_
  refine lv_iload_n hx hb dX11_sledge_1 rfl (lv_at hl 1 rfl) ?_
  refine th_gor (th_runV (As := [.int fr]) (rest := []) C hS.1 (RX11, TX11, 20) rfl gV_RX11_195 (FX.f0 hF) (t_X11_standingStation iz_fr (FX.f0 hF) (FX.f34 hF)) hl rfl rfl rfl rfl ⟨Nat.le_of_ble_eq_true rfl, Nat.le_of_ble_eq_true rfl⟩ (Nat.le_of_ble_eq_true rfl) ⟨Nat.le_of_ble_eq_true rfl, Nat.le_of_ble_eq_true rfl⟩ dX11_sledge_2) ?_
  refine lv_astoreN (lv' := [(4, .null), (0, .ref x), (1, .int fr), (2, .int to), (3, .int dr)]) hx hb dX11_sledge_5 hl (by decide) rfl (fun ls hl => ?_)
  refine lv_aload_n hx hb dX11_sledge_7 rfl (lv_at hl 1 rfl) ?_
  refine lv_iload_n hx hb dX11_sledge_8 rfl (lv_at hl 3 rfl) ?_
  refine th_gor (th_runV (As := [.int to]) (rest := []) C hS.1 (RX11, TX11, 20) rfl gV_RX11_195 (FX.f0 hF) (t_X11_standingStation iz_to (FX.f0 hF) (FX.f34 hF)) hl rfl rfl rfl rfl ⟨Nat.le_of_ble_eq_true rfl, Nat.le_of_ble_eq_true rfl⟩ (Nat.le_of_ble_eq_true rfl) ⟨Nat.le_of_ble_eq_true rfl, Nat.le_of_ble_eq_true rfl⟩ dX11_sledge_9) ?_
  refine lv_astoreN (lv' := [(5, .null), (4, .null), (0, .ref x), (1, .int fr), (2, .int to), (3, .int dr)]) hx hb dX11_sledge_12 hl (by decide) rfl (fun ls hl => ?_)
  refine lv_aloadN hx hb dX11_sledge_14 (lv_at hl 1 rfl) ?_
  refine lv_ifnullN hx hb (tgt := 42) dX11_sledge_16 (by decide) ?_
  refine lv_iconst (v := (-1)) hx hb dX11_sledge_42 (by decide) ?_
  exact th_reti C (by have hfin := li_n1; omega) dX11_sledge_43

set_option maxHeartbeats 400000 in
set_option maxRecDepth 100000 in
theorem t_X11_people {l : Launch} {D : va_G} {dA : Nat → ClassId} {K : Kmap} {V : Vmap} {sz : Nat} {x : Nat} {k n : Int32} {k_i n_i : Int} (iz_k : k.toInt = k_i) (iz_n : n.toInt = n_i) (F : FX K V x) : Met l yX11_people (wsOf yX11_people cX11_people 4 (some .boolean)) { frames := 3, cells := 0, slots := 0, locals := 66 } (PC D dA K V sz [.ref x, .int k, .int n]) (PQi (fun r => (r.toInt = 0))) 0 0 noFree := by
  refine th_body (by decide +kernel) (Nat.le_of_ble_eq_true rfl) (fun pZ eZ sZ mZ belowZ methZ cZ C hR hsz hnm ls hl => ?_)
  have C : CX pZ sZ mZ [.ref x, .int k, .int n].toArray methZ cZ cX11_people 4 (some .boolean) RX11 D dA := C
  have hx := C.1; have hb := C.2.1
  have hl : lv_has ls 4 [(0, .ref x), (1, .int k), (2, .int n)] := hl
  subst hsz
  have hS : ST D dA K sZ.heap K V sZ.heap [] := ST.rf hR
  have r_k := th_rng k; rw [iz_k] at r_k
  have r_n := th_rng n; rw [iz_n] at r_n
  have F0 := F
  obtain ⟨ad, hF⟩ := F
  refine lv_aload_n hx hb dX11_people_0 rfl (lv_at hl 0 rfl) ?_
  refine lv_iload_n hx hb dX11_people_1 rfl (lv_at hl 1 rfl) ?_
  refine th_gor (th_runV (As := [.int k]) (rest := []) C hS.1 (RX11, TX11, 20) rfl gV_RX11_195 (FX.f0 hF) (t_X11_standingStation iz_k (FX.f0 hF) (FX.f34 hF)) hl rfl rfl rfl rfl ⟨Nat.le_of_ble_eq_true rfl, Nat.le_of_ble_eq_true rfl⟩ (Nat.le_of_ble_eq_true rfl) ⟨Nat.le_of_ble_eq_true rfl, Nat.le_of_ble_eq_true rfl⟩ dX11_people_2) ?_
  refine lv_astore_nN (lv' := [(3, .null), (0, .ref x), (1, .int k), (2, .int n)]) hx hb dX11_people_5 rfl hl (by decide) rfl (fun ls hl => ?_)
  refine lv_aload_nN hx hb dX11_people_6 rfl (lv_at hl 0 rfl) ?_
  refine lv_ifnullN hx hb (tgt := 39) dX11_people_7 (by decide) ?_
  refine lv_iconst (v := 0) hx hb dX11_people_39 (by decide) ?_
  exact th_retz C (by have hfin := li_0; omega) (by have hfin := li_0; omega) dX11_people_40

set_option maxHeartbeats 400000 in
set_option maxRecDepth 100000 in
theorem t_X11_hide {l : Launch} {D : va_G} {dA : Nat → ClassId} {K : Kmap} {V : Vmap} {sz : Nat} {x : Nat} {k n : Int32} {k_i n_i : Int} (iz_k : k.toInt = k_i) (iz_n : n.toInt = n_i) (F : FX K V x) : Met l yX11_hide (wsOf yX11_hide cX11_hide 4 (some .boolean)) { frames := 3, cells := 0, slots := 0, locals := 66 } (PC D dA K V sz [.ref x, .int k, .int n]) (PQi (fun r => (r.toInt = 0))) 0 0 noFree := by
  refine th_body (by decide +kernel) (Nat.le_of_ble_eq_true rfl) (fun pZ eZ sZ mZ belowZ methZ cZ C hR hsz hnm ls hl => ?_)
  have C : CX pZ sZ mZ [.ref x, .int k, .int n].toArray methZ cZ cX11_hide 4 (some .boolean) RX11 D dA := C
  have hx := C.1; have hb := C.2.1
  have hl : lv_has ls 4 [(0, .ref x), (1, .int k), (2, .int n)] := hl
  subst hsz
  have hS : ST D dA K sZ.heap K V sZ.heap [] := ST.rf hR
  have r_k := th_rng k; rw [iz_k] at r_k
  have r_n := th_rng n; rw [iz_n] at r_n
  have F0 := F
  obtain ⟨ad, hF⟩ := F
  refine lv_aload_n hx hb dX11_hide_0 rfl (lv_at hl 0 rfl) ?_
  refine lv_iload_n hx hb dX11_hide_1 rfl (lv_at hl 1 rfl) ?_
  refine th_gor (th_runV (As := [.int k]) (rest := []) C hS.1 (RX11, TX11, 20) rfl gV_RX11_195 (FX.f0 hF) (t_X11_standingStation iz_k (FX.f0 hF) (FX.f34 hF)) hl rfl rfl rfl rfl ⟨Nat.le_of_ble_eq_true rfl, Nat.le_of_ble_eq_true rfl⟩ (Nat.le_of_ble_eq_true rfl) ⟨Nat.le_of_ble_eq_true rfl, Nat.le_of_ble_eq_true rfl⟩ dX11_hide_2) ?_
  refine lv_astore_nN (lv' := [(3, .null), (0, .ref x), (1, .int k), (2, .int n)]) hx hb dX11_hide_5 rfl hl (by decide) rfl (fun ls hl => ?_)
  refine lv_aload_nN hx hb dX11_hide_6 rfl (lv_at hl 0 rfl) ?_
  refine lv_ifnullN hx hb (tgt := 27) dX11_hide_7 (by decide) ?_
  refine lv_iconst (v := 0) hx hb dX11_hide_27 (by decide) ?_
  exact th_retz C (by have hfin := li_0; omega) (by have hfin := li_0; omega) dX11_hide_28

set_option maxHeartbeats 400000 in
set_option maxRecDepth 100000 in
theorem t_X11_declare {l : Launch} {D : va_G} {dA : Nat → ClassId} {K : Kmap} {V : Vmap} {sz : Nat} {x : Nat} {k pe dr : Int32} {k_i pe_i dr_i : Int} (iz_k : k.toInt = k_i) (iz_pe : pe.toInt = pe_i) (iz_dr : dr.toInt = dr_i) (F : FX K V x) : Met l yX11_declare (wsOf yX11_declare cX11_declare 5 (some .boolean)) { frames := 2, cells := 0, slots := 0, locals := 44 } (PC D dA K V sz [.ref x, .int k, .int pe, .int dr]) (PQi (fun r => (r.toInt = 0))) 0 0 noFree := by
  refine th_body (by decide +kernel) (Nat.le_of_ble_eq_true rfl) (fun pZ eZ sZ mZ belowZ methZ cZ C hR hsz hnm ls hl => ?_)
  have C : CX pZ sZ mZ [.ref x, .int k, .int pe, .int dr].toArray methZ cZ cX11_declare 5 (some .boolean) RX11 D dA := C
  have hx := C.1; have hb := C.2.1
  have hl : lv_has ls 5 [(0, .ref x), (1, .int k), (2, .int pe), (3, .int dr)] := hl
  subst hsz
  have hS : ST D dA K sZ.heap K V sZ.heap [] := ST.rf hR
  have r_k := th_rng k; rw [iz_k] at r_k
  have r_pe := th_rng pe; rw [iz_pe] at r_pe
  have r_dr := th_rng dr; rw [iz_dr] at r_dr
  have F0 := F
  obtain ⟨ad, hF⟩ := F
  refine lv_aload_n hx hb dX11_declare_0 rfl (lv_at hl 0 rfl) ?_
  refine lv_iload_n hx hb dX11_declare_1 rfl (lv_at hl 1 rfl) ?_
  refine lv_iconst (v := 1) hx hb dX11_declare_2 (by decide) ?_
  refine th_gor (th_runV (As := [.int k, .int 1]) (rest := []) C hS.1 (RX11, TX11, 20) rfl gV_RX11_169 (FX.f0 hF) (t_X11_placeOf iz_k li_1 (FX.f0 hF) (FX.f34 hF)) hl rfl rfl rfl rfl ⟨Nat.le_of_ble_eq_true rfl, Nat.le_of_ble_eq_true rfl⟩ (Nat.le_of_ble_eq_true rfl) ⟨Nat.le_of_ble_eq_true rfl, Nat.le_of_ble_eq_true rfl⟩ dX11_declare_3) ?_
  refine lv_astoreN (lv' := [(4, .null), (0, .ref x), (1, .int k), (2, .int pe), (3, .int dr)]) hx hb dX11_declare_6 hl (by decide) rfl (fun ls hl => ?_)
  refine lv_aloadN hx hb dX11_declare_8 (lv_at hl 0 rfl) ?_
  refine lv_ifnullN hx hb (tgt := 35) dX11_declare_10 (by decide) ?_
  refine lv_iconst (v := 0) hx hb dX11_declare_35 (by decide) ?_
  exact th_retz C (by have hfin := li_0; omega) (by have hfin := li_0; omega) dX11_declare_36

set_option maxHeartbeats 400000 in
set_option maxRecDepth 100000 in
theorem t_X11_visit {l : Launch} {D : va_G} {dA : Nat → ClassId} {K : Kmap} {V : Vmap} {sz : Nat} {x : Nat} {p k : Int32} {p_i k_i : Int} (iz_p : p.toInt = p_i) (iz_k : k.toInt = k_i) (F : FX K V x) : Met l yX11_visit (wsOf yX11_visit cX11_visit 6 (some .int)) { frames := 3, cells := 0, slots := 0, locals := 66 } (PC D dA K V sz [.ref x, .int p, .int k]) (PQi (fun r => (r.toInt = (-1)))) 0 0 noFree := by
  refine th_body (by decide +kernel) (Nat.le_of_ble_eq_true rfl) (fun pZ eZ sZ mZ belowZ methZ cZ C hR hsz hnm ls hl => ?_)
  have C : CX pZ sZ mZ [.ref x, .int p, .int k].toArray methZ cZ cX11_visit 6 (some .int) RX11 D dA := C
  have hx := C.1; have hb := C.2.1
  have hl : lv_has ls 6 [(0, .ref x), (1, .int p), (2, .int k)] := hl
  subst hsz
  have hS : ST D dA K sZ.heap K V sZ.heap [] := ST.rf hR
  have r_p := th_rng p; rw [iz_p] at r_p
  have r_k := th_rng k; rw [iz_k] at r_k
  have F0 := F
  obtain ⟨ad, hF⟩ := F
  refine lv_aload_n hx hb dX11_visit_0 rfl (lv_at hl 0 rfl) ?_
  refine lv_iload_n hx hb dX11_visit_1 rfl (lv_at hl 1 rfl) ?_
  refine th_gor (th_runV (As := [.int p]) (rest := []) C hS.1 (RX11, TX11, 20) rfl gV_RX11_151 (FX.f0 hF) (t_X11_partyOf iz_p (FX.f0 hF) (FX.f31 hF)) hl rfl rfl rfl rfl ⟨Nat.le_of_ble_eq_true rfl, Nat.le_of_ble_eq_true rfl⟩ (Nat.le_of_ble_eq_true rfl) ⟨Nat.le_of_ble_eq_true rfl, Nat.le_of_ble_eq_true rfl⟩ dX11_visit_2) ?_
  refine lv_astore_nN (lv' := [(3, .null), (0, .ref x), (1, .int p), (2, .int k)]) hx hb dX11_visit_5 rfl hl (by decide) rfl (fun ls hl => ?_)
  refine lv_aload_n hx hb dX11_visit_6 rfl (lv_at hl 1 rfl) ?_
  refine lv_iload_n hx hb dX11_visit_7 rfl (lv_at hl 3 rfl) ?_
  refine th_gor (th_runV (As := [.int k]) (rest := []) C hS.1 (RX11, TX11, 20) rfl gV_RX11_195 (FX.f0 hF) (t_X11_standingStation iz_k (FX.f0 hF) (FX.f34 hF)) hl rfl rfl rfl rfl ⟨Nat.le_of_ble_eq_true rfl, Nat.le_of_ble_eq_true rfl⟩ (Nat.le_of_ble_eq_true rfl) ⟨Nat.le_of_ble_eq_true rfl, Nat.le_of_ble_eq_true rfl⟩ dX11_visit_8) ?_
  refine lv_astoreN (lv' := [(4, .null), (3, .null), (0, .ref x), (1, .int p), (2, .int k)]) hx hb dX11_visit_11 hl (by decide) rfl (fun ls hl => ?_)
  refine lv_aload_nN hx hb dX11_visit_13 rfl (lv_at hl 1 rfl) ?_
  refine lv_ifnullN hx hb (tgt := 45) dX11_visit_14 (by decide) ?_
  refine lv_iconst (v := (-1)) hx hb dX11_visit_45 (by decide) ?_
  exact th_reti C (by have hfin := li_n1; omega) dX11_visit_46

set_option maxHeartbeats 400000 in
set_option maxRecDepth 100000 in
theorem t_X11_seen {l : Launch} {D : va_G} {dA : Nat → ClassId} {K : Kmap} {V : Vmap} {sz : Nat} {x : Nat} {v wh : Int32} {v_i wh_i : Int} (iz_v : v.toInt = v_i) (iz_wh : wh.toInt = wh_i) (F : FX K V x) : Met l yX11_seen (wsOf yX11_seen cX11_seen 3 (some .int)) { frames := 1, cells := 0, slots := 0, locals := 21 } (PC D dA K V sz [.ref x, .int v, .int wh]) (PQi (fun r => (r.toInt = (-1000000)))) 0 0 noFree := by
  refine th_body (by decide +kernel) (Nat.le_of_ble_eq_true rfl) (fun pZ eZ sZ mZ belowZ methZ cZ C hR hsz hnm ls hl => ?_)
  have C : CX pZ sZ mZ [.ref x, .int v, .int wh].toArray methZ cZ cX11_seen 3 (some .int) RX11 D dA := C
  have hx := C.1; have hb := C.2.1
  have hl : lv_has ls 3 [(0, .ref x), (1, .int v), (2, .int wh)] := hl
  subst hsz
  have hS : ST D dA K sZ.heap K V sZ.heap [] := ST.rf hR
  have r_v := th_rng v; rw [iz_v] at r_v
  have r_wh := th_rng wh; rw [iz_wh] at r_wh
  have F0 := F
  obtain ⟨ad, hF⟩ := F
  refine lv_aload_n hx hb dX11_seen_0 rfl (lv_at hl 0 rfl) ?_
  refine th_get C hS.1 (FX.f0 hF) fl_RX11_76 (FX.f40 hF) dX11_seen_1 ?_
  refine lv_iload_n hx hb dX11_seen_4 rfl (lv_at hl 1 rfl) ?_
  refine th_goi (th_runV (As := [.int v]) (rest := []) C hS.1 (RX8, TX8, 4) rfl gV_RX11_431 (FX.f41 hF) (t_X8_has iz_v (FX.f41 hF) (FX.f42 hF)) hl rfl rfl rfl rfl ⟨Nat.le_of_ble_eq_true rfl, Nat.le_of_ble_eq_true rfl⟩ (Nat.le_of_ble_eq_true rfl) ⟨Nat.le_of_ble_eq_true rfl, Nat.le_of_ble_eq_true rfl⟩ dX11_seen_5) (fun r3709 hq3710 => ?_)
  refine th_if_eq (X := r3709.toInt) (tgt := 20) hx hb dX11_seen_8 (by decide) rfl (fun c3711 => ?_) (fun c3711 => absurd c3711 (by omega))
  refine lv_ldcw (v := (-1000000)) hx hb C.2.2.2.2.2.1 (C.2.2.2.2.2.2.1 _ gw_1169) dX11_seen_20 ?_
  exact th_reti C (by have hfin := li_n1000000; omega) dX11_seen_23

set_option maxHeartbeats 400000 in
set_option maxRecDepth 100000 in
theorem t_X11_day {l : Launch} {D : va_G} {dA : Nat → ClassId} {K : Kmap} {V : Vmap} {sz : Nat} {x : Nat} (F : FX K V x) : Met l yX11_day (wsOf yX11_day cX11_day 2 (some .int)) { frames := 1, cells := 0, slots := 0, locals := 23 } (PC D dA K V sz [.ref x]) (HQi D dA K (fun r K1 V1 => (∀ b, K b = some (0, 11) → V1 b = V b) ∧ ((r.toInt = 1)))) 0 0 (AK K sz) := by
  refine th_body (by decide +kernel) (Nat.le_of_ble_eq_true rfl) (fun pZ eZ sZ mZ belowZ methZ cZ C hR hsz hnm ls hl => ?_)
  have C : CX pZ sZ mZ [.ref x].toArray methZ cZ cX11_day 2 (some .int) RX11 D dA := C
  have hx := C.1; have hb := C.2.1
  have hl : lv_has ls 2 [(0, .ref x)] := hl
  subst hsz
  have hS : ST D dA K sZ.heap K V sZ.heap [] := ST.rf hR
  have F0 := F
  obtain ⟨ad, hF⟩ := F
  refine lv_aload_n hx hb dX11_day_0 rfl (lv_at hl 0 rfl) ?_
  refine th_get C hS.1 (FX.f0 hF) fl_RX11_12 (FX.f1 hF) dX11_day_1 ?_
  refine th_get C hS.1 (FX.f2 hF) fl_RX11_145 (FX.f3 hF) dX11_day_4 ?_
  refine lv_sipush (v := 3599) hx hb dX11_day_7 (by decide) ?_
  refine th_icmp_lt (X := 0) (Y := 3599) (tgt := 15) hx hb dX11_day_10 (by decide) li_0 li_3599 (fun c3712 => ?_) (fun c3712 => absurd c3712 (by omega))
  refine lv_aload_n hx hb dX11_day_15 rfl (lv_at hl 0 rfl) ?_
  refine th_get C hS.1 (FX.f0 hF) fl_RX11_12 (FX.f1 hF) dX11_day_16 ?_
  refine lv_dup hx hb dX11_day_19 rfl ?_
  refine th_get C hS.1 (FX.f2 hF) fl_RX11_145 (FX.f3 hF) dX11_day_20 ?_
  refine lv_iconst (v := 1) hx hb dX11_day_23 (by decide) ?_
  refine lv_iadd hx hb dX11_day_24 ?_
  refine th_is (w := .int 1) (by decide) ?_
  refine th_put C hS (FX.f2 hF) fp_RX11_145 rfl rfl dX11_day_25 (fun V3713 H locs1 hV3714 hS => ?_)
  refine lv_aload_n hx hb dX11_day_28 rfl (lv_at hl 0 rfl) ?_
  have hv3715 : V3713 x 2 = .ref (ad 9) := Eq.trans (uq_ne hV3714 (Or.inl (K_ne (FX.f0 hF) (FX.f2 hF) (by decide)))) (FX.f24 hF)
  refine th_get C hS.1 (FX.f0 hF) fl_RX11_26 hv3715 dX11_day_29 ?_
  refine th_govH hS rfl (th_runV (As := []) (rest := []) C hS.1 (RX6, TX6, 10) rfl gV_RX11_435 (FX.f25 hF) (t_X6_forget (FX.f25 hF)) hl rfl rfl rfl rfl ⟨Nat.le_of_ble_eq_true rfl, Nat.le_of_ble_eq_true rfl⟩ (Nat.le_of_ble_eq_true rfl) ⟨Nat.le_of_ble_eq_true rfl, Nat.le_of_ble_eq_true rfl⟩ dX11_day_32) (fun K3718 V3719 H locs1 hq3717 hE3720 hS => ?_)
  obtain ⟨rfl, hF3721⟩ := hq3717
  refine lv_iconst (v := 0) hx hb dX11_day_35 (by decide) ?_
  refine lv_istore_n (lv' := [(1, .int 0), (0, .ref x)]) hx hb dX11_day_36 rfl hl (by decide) rfl (fun ls hl => ?_)
  refine lv_iload_n hx hb dX11_day_37 rfl (lv_at hl 0 rfl) ?_
  refine lv_aload_n hx hb dX11_day_38 rfl (lv_at hl 1 rfl) ?_
  have hv3723 : V3713 x 8 = .int 0 := Eq.trans (uq_ne hV3714 (Or.inl (K_ne (FX.f0 hF) (FX.f2 hF) (by decide)))) (FX.f35 hF)
  have hv3724 : V3719 x 8 = .int 0 := Eq.trans (congrFun (hF3721 _ (by rw [(FX.f0 hF)]; exact fun h => by cases h) (K_ne (FX.f0 hF) (FX.f25 hF) (by decide))) 8) hv3723
  refine th_get C hS.1 (FX.f0 hF) fl_RX11_55 hv3724 dX11_day_39 ?_
  refine th_icmp_ge (X := 0) (Y := 0) (tgt := 56) hx hb dX11_day_42 (by decide) li_0 li_0 (fun c3725 => ?_) (fun c3725 => absurd c3725 (by omega))
  refine lv_aload_n hx hb dX11_day_56 rfl (lv_at hl 1 rfl) ?_
  have hv3726 : V3713 x 4 = .int 0 := Eq.trans (uq_ne hV3714 (Or.inl (K_ne (FX.f0 hF) (FX.f2 hF) (by decide)))) (FX.f31 hF)
  have hv3727 : V3719 x 4 = .int 0 := Eq.trans (congrFun (hF3721 _ (by rw [(FX.f0 hF)]; exact fun h => by cases h) (K_ne (FX.f0 hF) (FX.f25 hF) (by decide))) 4) hv3726
  refine th_gov (th_runV (As := []) (rest := []) C hS.1 (RX11, TX11, 20) rfl gV_RX11_439 (FX.f0 hF) (t_X11_admitParties (FX.f0 hF) hv3727) hl rfl rfl rfl rfl ⟨Nat.le_of_ble_eq_true rfl, Nat.le_of_ble_eq_true rfl⟩ (Nat.le_of_ble_eq_true rfl) ⟨Nat.le_of_ble_eq_true rfl, Nat.le_of_ble_eq_true rfl⟩ dX11_day_57) ?_
  refine lv_iconst (v := 0) hx hb dX11_day_60 (by decide) ?_
  refine lv_istore_n (lv' := [(1, .int 0), (0, .ref x)]) hx hb dX11_day_61 rfl hl (by decide) rfl (fun ls hl => ?_)
  refine lv_iload_n hx hb dX11_day_62 rfl (lv_at hl 0 rfl) ?_
  refine lv_aload_n hx hb dX11_day_63 rfl (lv_at hl 1 rfl) ?_
  have hv3730 : V3713 x 6 = .int 0 := Eq.trans (uq_ne hV3714 (Or.inl (K_ne (FX.f0 hF) (FX.f2 hF) (by decide)))) (FX.f34 hF)
  have hv3731 : V3719 x 6 = .int 0 := Eq.trans (congrFun (hF3721 _ (by rw [(FX.f0 hF)]; exact fun h => by cases h) (K_ne (FX.f0 hF) (FX.f25 hF) (by decide))) 6) hv3730
  refine th_get C hS.1 (FX.f0 hF) fl_RX11_46 hv3731 dX11_day_64 ?_
  refine th_icmp_ge (X := 0) (Y := 0) (tgt := 81) hx hb dX11_day_67 (by decide) li_0 li_0 (fun c3732 => ?_) (fun c3732 => absurd c3732 (by omega))
  refine lv_iconst (v := 0) hx hb dX11_day_81 (by decide) ?_
  refine lv_istore_n (lv' := [(1, .int 0), (0, .ref x)]) hx hb dX11_day_82 rfl hl (by decide) rfl (fun ls hl => ?_)
  refine lv_iload_n hx hb dX11_day_83 rfl (lv_at hl 0 rfl) ?_
  refine lv_aload_n hx hb dX11_day_84 rfl (lv_at hl 1 rfl) ?_
  have hv3733 : V3713 x 10 = .int 0 := Eq.trans (uq_ne hV3714 (Or.inl (K_ne (FX.f0 hF) (FX.f2 hF) (by decide)))) (FX.f36 hF)
  have hv3734 : V3719 x 10 = .int 0 := Eq.trans (congrFun (hF3721 _ (by rw [(FX.f0 hF)]; exact fun h => by cases h) (K_ne (FX.f0 hF) (FX.f25 hF) (by decide))) 10) hv3733
  refine th_get C hS.1 (FX.f0 hF) fl_RX11_64 hv3734 dX11_day_85 ?_
  refine th_icmp_ge (X := 0) (Y := 0) (tgt := 106) hx hb dX11_day_88 (by decide) li_0 li_0 (fun c3735 => ?_) (fun c3735 => absurd c3735 (by omega))
  refine lv_iconst (v := 0) hx hb dX11_day_106 (by decide) ?_
  refine lv_istore_n (lv' := [(1, .int 0), (0, .ref x)]) hx hb dX11_day_107 rfl hl (by decide) rfl (fun ls hl => ?_)
  refine lv_iload_n hx hb dX11_day_108 rfl (lv_at hl 0 rfl) ?_
  refine lv_aload_n hx hb dX11_day_109 rfl (lv_at hl 1 rfl) ?_
  have hv3736 : V3713 x 11 = .ref (ad 13) := Eq.trans (uq_ne hV3714 (Or.inl (K_ne (FX.f0 hF) (FX.f2 hF) (by decide)))) (FX.f37 hF)
  have hv3737 : V3719 x 11 = .ref (ad 13) := Eq.trans (congrFun (hF3721 _ (by rw [(FX.f0 hF)]; exact fun h => by cases h) (K_ne (FX.f0 hF) (FX.f25 hF) (by decide))) 11) hv3736
  refine th_get C hS.1 (FX.f0 hF) fl_RX11_72 hv3737 dX11_day_110 ?_
  have hv3738 : V3713 (ad 13) 3 = .int 0 := Eq.trans (uq_ne hV3714 (Or.inl (K_ne (FX.f38 hF) (FX.f2 hF) (by decide)))) (FX.f39 hF)
  have hv3739 : V3719 (ad 13) 3 = .int 0 := Eq.trans (congrFun (hF3721 _ (by rw [(FX.f38 hF)]; exact fun h => by cases h) (K_ne (FX.f38 hF) (FX.f25 hF) (by decide))) 3) hv3738
  refine th_get C hS.1 (FX.f38 hF) fl_RX11_199 hv3739 dX11_day_113 ?_
  refine th_icmp_ge (X := 0) (Y := 0) (tgt := 130) hx hb dX11_day_116 (by decide) li_0 li_0 (fun c3740 => ?_) (fun c3740 => absurd c3740 (by omega))
  refine lv_aload_n hx hb dX11_day_130 rfl (lv_at hl 1 rfl) ?_
  have hv3741 : V3713 x 0 = .ref (ad 0) := Eq.trans (uq_ne hV3714 (Or.inl (K_ne (FX.f0 hF) (FX.f2 hF) (by decide)))) (FX.f1 hF)
  have hv3742 : V3719 x 0 = .ref (ad 0) := Eq.trans (congrFun (hF3721 _ (by rw [(FX.f0 hF)]; exact fun h => by cases h) (K_ne (FX.f0 hF) (FX.f25 hF) (by decide))) 0) hv3741
  refine th_get C hS.1 (FX.f0 hF) fl_RX11_12 hv3742 dX11_day_131 ?_
  have hv3743 : V3719 (ad 0) 0 = .int 1 := Eq.trans (congrFun (hF3721 _ (by rw [(FX.f2 hF)]; exact fun h => by cases h) (K_ne (FX.f2 hF) (FX.f25 hF) (by decide))) 0) (uq_same hV3714)
  refine th_get C hS.1 (FX.f2 hF) fl_RX11_145 hv3743 dX11_day_134 ?_
  exact th_retiH (post := fun r K1 V1 => (∀ b, K b = some (0, 11) → V1 b = V b) ∧ ((r.toInt = 1))) (cells := 0) (slots := 0) (mc := 0) (ms := 0) C hS ⟨(fun b hb  => Eq.trans (hF3721 _ (by rw [hb]; exact fun h => by cases h) (K_ne hb (FX.f25 hF) (by decide))) ((uq_other hV3714 (K_ne hb (FX.f2 hF) (by decide))))), (by have hfin := li_1; omega)⟩ (Nat.le_of_ble_eq_true rfl) (Nat.le_of_ble_eq_true rfl) dX11_day_137

set_option maxHeartbeats 400000 in
set_option maxRecDepth 100000 in
theorem t_X11_sound {l : Launch} {D : va_G} {dA : Nat → ClassId} {K : Kmap} {V : Vmap} {sz : Nat} {x : Nat} {k de wr : Int32} {k_i de_i wr_i : Int} (iz_k : k.toInt = k_i) (iz_de : de.toInt = de_i) (iz_wr : wr.toInt = wr_i) (F : FX K V x) : Met l yX11_sound (wsOf yX11_sound cX11_sound 5 (some .boolean)) { frames := 2, cells := 0, slots := 0, locals := 44 } (PC D dA K V sz [.ref x, .int k, .int de, .int wr]) (PQi (fun r => (r.toInt = 0))) 0 0 noFree := by
  refine th_body (by decide +kernel) (Nat.le_of_ble_eq_true rfl) (fun pZ eZ sZ mZ belowZ methZ cZ C hR hsz hnm ls hl => ?_)
  have C : CX pZ sZ mZ [.ref x, .int k, .int de, .int wr].toArray methZ cZ cX11_sound 5 (some .boolean) RX11 D dA := C
  have hx := C.1; have hb := C.2.1
  have hl : lv_has ls 5 [(0, .ref x), (1, .int k), (2, .int de), (3, .int wr)] := hl
  subst hsz
  have hS : ST D dA K sZ.heap K V sZ.heap [] := ST.rf hR
  have r_k := th_rng k; rw [iz_k] at r_k
  have r_de := th_rng de; rw [iz_de] at r_de
  have r_wr := th_rng wr; rw [iz_wr] at r_wr
  have F0 := F
  obtain ⟨ad, hF⟩ := F
  refine lv_aload_n hx hb dX11_sound_0 rfl (lv_at hl 0 rfl) ?_
  refine lv_iload_n hx hb dX11_sound_1 rfl (lv_at hl 1 rfl) ?_
  refine lv_iconst (v := 4) hx hb dX11_sound_2 (by decide) ?_
  refine th_gor (th_runV (As := [.int k, .int 4]) (rest := []) C hS.1 (RX11, TX11, 20) rfl gV_RX11_169 (FX.f0 hF) (t_X11_placeOf iz_k li_4 (FX.f0 hF) (FX.f34 hF)) hl rfl rfl rfl rfl ⟨Nat.le_of_ble_eq_true rfl, Nat.le_of_ble_eq_true rfl⟩ (Nat.le_of_ble_eq_true rfl) ⟨Nat.le_of_ble_eq_true rfl, Nat.le_of_ble_eq_true rfl⟩ dX11_sound_3) ?_
  refine lv_astoreN (lv' := [(4, .null), (0, .ref x), (1, .int k), (2, .int de), (3, .int wr)]) hx hb dX11_sound_6 hl (by decide) rfl (fun ls hl => ?_)
  refine lv_aloadN hx hb dX11_sound_8 (lv_at hl 0 rfl) ?_
  refine lv_ifnullN hx hb (tgt := 35) dX11_sound_10 (by decide) ?_
  refine lv_iconst (v := 0) hx hb dX11_sound_35 (by decide) ?_
  exact th_retz C (by have hfin := li_0; omega) (by have hfin := li_0; omega) dX11_sound_36

set_option maxHeartbeats 400000 in
set_option maxRecDepth 100000 in
theorem t_X11_sure {l : Launch} {D : va_G} {dA : Nat → ClassId} {K : Kmap} {V : Vmap} {sz : Nat} {x : Nat} {k : Int32} {k_i : Int} (iz_k : k.toInt = k_i) (F : FX K V x) : Met l yX11_sure (wsOf yX11_sure cX11_sure 3 (some .int)) { frames := 2, cells := 0, slots := 0, locals := 44 } (PC D dA K V sz [.ref x, .int k]) (PQi (fun r => (r.toInt = (-1)))) 0 0 noFree := by
  refine th_body (by decide +kernel) (Nat.le_of_ble_eq_true rfl) (fun pZ eZ sZ mZ belowZ methZ cZ C hR hsz hnm ls hl => ?_)
  have C : CX pZ sZ mZ [.ref x, .int k].toArray methZ cZ cX11_sure 3 (some .int) RX11 D dA := C
  have hx := C.1; have hb := C.2.1
  have hl : lv_has ls 3 [(0, .ref x), (1, .int k)] := hl
  subst hsz
  have hS : ST D dA K sZ.heap K V sZ.heap [] := ST.rf hR
  have r_k := th_rng k; rw [iz_k] at r_k
  have F0 := F
  obtain ⟨ad, hF⟩ := F
  refine lv_aload_n hx hb dX11_sure_0 rfl (lv_at hl 0 rfl) ?_
  refine lv_iload_n hx hb dX11_sure_1 rfl (lv_at hl 1 rfl) ?_
  refine lv_iconst (v := 4) hx hb dX11_sure_2 (by decide) ?_
  refine th_gor (th_runV (As := [.int k, .int 4]) (rest := []) C hS.1 (RX11, TX11, 20) rfl gV_RX11_169 (FX.f0 hF) (t_X11_placeOf iz_k li_4 (FX.f0 hF) (FX.f34 hF)) hl rfl rfl rfl rfl ⟨Nat.le_of_ble_eq_true rfl, Nat.le_of_ble_eq_true rfl⟩ (Nat.le_of_ble_eq_true rfl) ⟨Nat.le_of_ble_eq_true rfl, Nat.le_of_ble_eq_true rfl⟩ dX11_sure_3) ?_
  refine lv_astore_nN (lv' := [(2, .null), (0, .ref x), (1, .int k)]) hx hb dX11_sure_6 rfl hl (by decide) rfl (fun ls hl => ?_)
  refine lv_aload_nN hx hb dX11_sure_7 rfl (lv_at hl 0 rfl) ?_
  refine lv_ifnonnullN hx hb dX11_sure_8 ?_
  refine lv_iconst (v := (-1)) hx hb dX11_sure_11 (by decide) ?_
  refine lv_goto (tgt := 19) hx hb dX11_sure_12 (by decide) ?_
  exact th_reti C (by have hfin := li_n1; omega) dX11_sure_19

set_option maxHeartbeats 400000 in
set_option maxRecDepth 100000 in
theorem t_X11_drill {l : Launch} {D : va_G} {dA : Nat → ClassId} {K : Kmap} {V : Vmap} {sz : Nat} {x : Nat} {k w : Int32} {k_i w_i : Int} (iz_k : k.toInt = k_i) (iz_w : w.toInt = w_i) (F : FX K V x) : Met l yX11_drill (wsOf yX11_drill cX11_drill 5 (some .int)) { frames := 2, cells := 0, slots := 0, locals := 44 } (PC D dA K V sz [.ref x, .int k, .int w]) (PQi (fun r => (r.toInt = (-1)))) 0 0 noFree := by
  refine th_body (by decide +kernel) (Nat.le_of_ble_eq_true rfl) (fun pZ eZ sZ mZ belowZ methZ cZ C hR hsz hnm ls hl => ?_)
  have C : CX pZ sZ mZ [.ref x, .int k, .int w].toArray methZ cZ cX11_drill 5 (some .int) RX11 D dA := C
  have hx := C.1; have hb := C.2.1
  have hl : lv_has ls 5 [(0, .ref x), (1, .int k), (2, .int w)] := hl
  subst hsz
  have hS : ST D dA K sZ.heap K V sZ.heap [] := ST.rf hR
  have r_k := th_rng k; rw [iz_k] at r_k
  have r_w := th_rng w; rw [iz_w] at r_w
  have F0 := F
  obtain ⟨ad, hF⟩ := F
  refine lv_aload_n hx hb dX11_drill_0 rfl (lv_at hl 0 rfl) ?_
  refine lv_iload_n hx hb dX11_drill_1 rfl (lv_at hl 1 rfl) ?_
  refine lv_iconst (v := 4) hx hb dX11_drill_2 (by decide) ?_
  refine th_gor (th_runV (As := [.int k, .int 4]) (rest := []) C hS.1 (RX11, TX11, 20) rfl gV_RX11_169 (FX.f0 hF) (t_X11_placeOf iz_k li_4 (FX.f0 hF) (FX.f34 hF)) hl rfl rfl rfl rfl ⟨Nat.le_of_ble_eq_true rfl, Nat.le_of_ble_eq_true rfl⟩ (Nat.le_of_ble_eq_true rfl) ⟨Nat.le_of_ble_eq_true rfl, Nat.le_of_ble_eq_true rfl⟩ dX11_drill_3) ?_
  refine lv_astore_nN (lv' := [(3, .null), (0, .ref x), (1, .int k), (2, .int w)]) hx hb dX11_drill_6 rfl hl (by decide) rfl (fun ls hl => ?_)
  refine lv_aload_n hx hb dX11_drill_7 rfl (lv_at hl 1 rfl) ?_
  refine lv_iload_n hx hb dX11_drill_8 rfl (lv_at hl 3 rfl) ?_
  refine th_gor (th_runV (As := [.int w]) (rest := []) C hS.1 (RX11, TX11, 20) rfl gV_RX11_309 (FX.f0 hF) (t_X11_workOf iz_w (FX.f0 hF) (FX.f35 hF)) hl rfl rfl rfl rfl ⟨Nat.le_of_ble_eq_true rfl, Nat.le_of_ble_eq_true rfl⟩ (Nat.le_of_ble_eq_true rfl) ⟨Nat.le_of_ble_eq_true rfl, Nat.le_of_ble_eq_true rfl⟩ dX11_drill_9) ?_
  refine lv_astoreN (lv' := [(4, .null), (3, .null), (0, .ref x), (1, .int k), (2, .int w)]) hx hb dX11_drill_12 hl (by decide) rfl (fun ls hl => ?_)
  refine lv_aload_nN hx hb dX11_drill_14 rfl (lv_at hl 1 rfl) ?_
  refine lv_ifnullN hx hb (tgt := 44) dX11_drill_15 (by decide) ?_
  refine lv_iconst (v := (-1)) hx hb dX11_drill_44 (by decide) ?_
  exact th_reti C (by have hfin := li_n1; omega) dX11_drill_45

set_option maxHeartbeats 400000 in
set_option maxRecDepth 100000 in
theorem t_X11_speed {l : Launch} {D : va_G} {dA : Nat → ClassId} {K : Kmap} {V : Vmap} {sz : Nat} {x : Nat} {pt n : Int32} {pt_i n_i : Int} (iz_pt : pt.toInt = pt_i) (iz_n : n.toInt = n_i) (F : FX K V x) : Met l yX11_speed (wsOf yX11_speed cX11_speed 3 (some .boolean)) { frames := 1, cells := 0, slots := 0, locals := 22 } (PC D dA K V sz [.ref x, .int pt, .int n]) (HQi D dA K (fun r K1 V1 => (∀ b, K b = some (0, 11) → V1 b = V b) ∧ ((((pt_i = (-1) ∧ (0 ≤ n_i ∧ n_i ≤ 1000)) ∨ ((0 ≤ pt_i ∧ pt_i ≤ 9) ∧ (1 ≤ n_i ∧ n_i ≤ 200))) ∧ r.toInt = 1) ∨ (((pt_i ≠ (-1) ∨ (0 > n_i ∨ n_i > 1000)) ∧ ((0 > pt_i ∨ pt_i > 9) ∨ (1 > n_i ∨ n_i > 200))) ∧ r.toInt = 0)))) 0 0 (AK K sz) := by
  refine th_body (by decide +kernel) (Nat.le_of_ble_eq_true rfl) (fun pZ eZ sZ mZ belowZ methZ cZ C hR hsz hnm ls hl => ?_)
  have C : CX pZ sZ mZ [.ref x, .int pt, .int n].toArray methZ cZ cX11_speed 3 (some .boolean) RX11 D dA := C
  have hx := C.1; have hb := C.2.1
  have hl : lv_has ls 3 [(0, .ref x), (1, .int pt), (2, .int n)] := hl
  subst hsz
  have hS : ST D dA K sZ.heap K V sZ.heap [] := ST.rf hR
  have r_pt := th_rng pt; rw [iz_pt] at r_pt
  have r_n := th_rng n; rw [iz_n] at r_n
  have F0 := F
  obtain ⟨ad, hF⟩ := F
  refine lv_iload_n hx hb dX11_speed_0 rfl (lv_at hl 1 rfl) ?_
  refine lv_iconst (v := (-1)) hx hb dX11_speed_1 (by decide) ?_
  refine th_icmp_ne (X := pt_i) (Y := (-1)) (tgt := 28) hx hb dX11_speed_2 (by decide) iz_pt li_n1 (fun c3752 => ?_) (fun c3752 => ?_)
  · refine lv_iload_n hx hb dX11_speed_28 rfl (lv_at hl 1 rfl) ?_
    refine lv_iconst (v := 0) hx hb dX11_speed_29 (by decide) ?_
    refine lv_bipush (v := 9) hx hb dX11_speed_30 (by decide) ?_
    refine th_goi (th_runS (As := [.int pt, .int 0, .int 9]) (rest := []) C hS.1 gS_RX11_112 (t_X11_between iz_pt li_0 li_9) hl rfl rfl rfl rfl ⟨Nat.le_of_ble_eq_true rfl, Nat.le_of_ble_eq_true rfl⟩ (Nat.le_of_ble_eq_true rfl) ⟨Nat.le_of_ble_eq_true rfl, Nat.le_of_ble_eq_true rfl⟩ dX11_speed_32) (fun r3753 hq3754 => ?_)
    refine th_if_eq (X := r3753.toInt) (tgt := 60) hx hb dX11_speed_35 (by decide) rfl (fun c3755 => ?_) (fun c3755 => ?_)
    · replace hq3754 := Or.resolve_left hq3754 (fun h => absurd h.2 (by omega))
      refine lv_iconst (v := 0) hx hb dX11_speed_60 (by decide) ?_
      exact th_retzH (post := fun r K1 V1 => (∀ b, K b = some (0, 11) → V1 b = V b) ∧ ((((pt_i = (-1) ∧ (0 ≤ n_i ∧ n_i ≤ 1000)) ∨ ((0 ≤ pt_i ∧ pt_i ≤ 9) ∧ (1 ≤ n_i ∧ n_i ≤ 200))) ∧ r.toInt = 1) ∨ (((pt_i ≠ (-1) ∨ (0 > n_i ∨ n_i > 1000)) ∧ ((0 > pt_i ∨ pt_i > 9) ∨ (1 > n_i ∨ n_i > 200))) ∧ r.toInt = 0))) (cells := 0) (slots := 0) (mc := 0) (ms := 0) C hS (by have hfin := li_0; omega) ⟨(fun b hb => rfl), (Or.inr (⟨by omega, li_0⟩))⟩ (Nat.le_of_ble_eq_true rfl) (Nat.le_of_ble_eq_true rfl) dX11_speed_61
    · replace hq3754 := Or.resolve_right hq3754 (fun h => absurd h.2 (by omega))
      refine lv_iload_n hx hb dX11_speed_38 rfl (lv_at hl 2 rfl) ?_
      refine lv_iconst (v := 1) hx hb dX11_speed_39 (by decide) ?_
      refine lv_sipush (v := 200) hx hb dX11_speed_40 (by decide) ?_
      refine th_goi (th_runS (As := [.int n, .int 1, .int 200]) (rest := []) C hS.1 gS_RX11_112 (t_X11_between iz_n li_1 li_200) hl rfl rfl rfl rfl ⟨Nat.le_of_ble_eq_true rfl, Nat.le_of_ble_eq_true rfl⟩ (Nat.le_of_ble_eq_true rfl) ⟨Nat.le_of_ble_eq_true rfl, Nat.le_of_ble_eq_true rfl⟩ dX11_speed_43) (fun r3756 hq3757 => ?_)
      refine th_if_eq (X := r3756.toInt) (tgt := 60) hx hb dX11_speed_46 (by decide) rfl (fun c3758 => ?_) (fun c3758 => ?_)
      · replace hq3757 := Or.resolve_left hq3757 (fun h => absurd h.2 (by omega))
        refine lv_iconst (v := 0) hx hb dX11_speed_60 (by decide) ?_
        exact th_retzH (post := fun r K1 V1 => (∀ b, K b = some (0, 11) → V1 b = V b) ∧ ((((pt_i = (-1) ∧ (0 ≤ n_i ∧ n_i ≤ 1000)) ∨ ((0 ≤ pt_i ∧ pt_i ≤ 9) ∧ (1 ≤ n_i ∧ n_i ≤ 200))) ∧ r.toInt = 1) ∨ (((pt_i ≠ (-1) ∨ (0 > n_i ∨ n_i > 1000)) ∧ ((0 > pt_i ∨ pt_i > 9) ∨ (1 > n_i ∨ n_i > 200))) ∧ r.toInt = 0))) (cells := 0) (slots := 0) (mc := 0) (ms := 0) C hS (by have hfin := li_0; omega) ⟨(fun b hb => rfl), (Or.inr (⟨by omega, li_0⟩))⟩ (Nat.le_of_ble_eq_true rfl) (Nat.le_of_ble_eq_true rfl) dX11_speed_61
      · replace hq3757 := Or.resolve_right hq3757 (fun h => absurd h.2 (by omega))
        refine lv_aload_n hx hb dX11_speed_49 rfl (lv_at hl 0 rfl) ?_
        refine th_get C hS.1 (FX.f0 hF) fl_RX11_94 (FX.f66 hF) dX11_speed_50 ?_
        refine lv_iload_n hx hb dX11_speed_53 rfl (lv_at hl 1 rfl) ?_
        refine lv_iload_n hx hb dX11_speed_54 rfl (lv_at hl 2 rfl) ?_
        refine th_govH hS rfl (th_runS (As := [.ref (ad 22), .int pt, .int n]) (rest := []) C hS.1 gS_RX11_108 (t_X4_put iz_pt iz_n (FX.f67 hF) (by decide)) hl rfl rfl rfl rfl ⟨Nat.le_of_ble_eq_true rfl, Nat.le_of_ble_eq_true rfl⟩ (Nat.le_of_ble_eq_true rfl) ⟨Nat.le_of_ble_eq_true rfl, Nat.le_of_ble_eq_true rfl⟩ dX11_speed_55) (fun K3761 V3762 H locs1 hq3760 hE3763 hS => ?_)
        obtain ⟨rfl, hF3764⟩ := hq3760
        refine lv_iconst (v := 1) hx hb dX11_speed_58 (by decide) ?_
        exact th_retzH (post := fun r K1 V1 => (∀ b, K b = some (0, 11) → V1 b = V b) ∧ ((((pt_i = (-1) ∧ (0 ≤ n_i ∧ n_i ≤ 1000)) ∨ ((0 ≤ pt_i ∧ pt_i ≤ 9) ∧ (1 ≤ n_i ∧ n_i ≤ 200))) ∧ r.toInt = 1) ∨ (((pt_i ≠ (-1) ∨ (0 > n_i ∨ n_i > 1000)) ∧ ((0 > pt_i ∨ pt_i > 9) ∨ (1 > n_i ∨ n_i > 200))) ∧ r.toInt = 0))) (cells := 0) (slots := 0) (mc := 0) (ms := 0) C hS (by have hfin := li_1; omega) ⟨(fun b hb  => (hF3764 _ (by rw [hb]; exact fun h => by cases h) (K_ne hb (FX.f67 hF) (by decide)))), (Or.inl ⟨by omega, li_1⟩)⟩ (Nat.le_of_ble_eq_true rfl) (Nat.le_of_ble_eq_true rfl) dX11_speed_59
  · refine lv_iload_n hx hb dX11_speed_5 rfl (lv_at hl 2 rfl) ?_
    refine lv_iconst (v := 0) hx hb dX11_speed_6 (by decide) ?_
    refine lv_sipush (v := 1000) hx hb dX11_speed_7 (by decide) ?_
    refine th_goi (th_runS (As := [.int n, .int 0, .int 1000]) (rest := []) C hS.1 gS_RX11_112 (t_X11_between iz_n li_0 li_1000) hl rfl rfl rfl rfl ⟨Nat.le_of_ble_eq_true rfl, Nat.le_of_ble_eq_true rfl⟩ (Nat.le_of_ble_eq_true rfl) ⟨Nat.le_of_ble_eq_true rfl, Nat.le_of_ble_eq_true rfl⟩ dX11_speed_10) (fun r3766 hq3767 => ?_)
    refine th_if_eq (X := r3766.toInt) (tgt := 28) hx hb dX11_speed_13 (by decide) rfl (fun c3768 => ?_) (fun c3768 => ?_)
    · replace hq3767 := Or.resolve_left hq3767 (fun h => absurd h.2 (by omega))
      refine lv_iload_n hx hb dX11_speed_28 rfl (lv_at hl 1 rfl) ?_
      refine lv_iconst (v := 0) hx hb dX11_speed_29 (by decide) ?_
      refine lv_bipush (v := 9) hx hb dX11_speed_30 (by decide) ?_
      refine th_goi (th_runS (As := [.int pt, .int 0, .int 9]) (rest := []) C hS.1 gS_RX11_112 (t_X11_between iz_pt li_0 li_9) hl rfl rfl rfl rfl ⟨Nat.le_of_ble_eq_true rfl, Nat.le_of_ble_eq_true rfl⟩ (Nat.le_of_ble_eq_true rfl) ⟨Nat.le_of_ble_eq_true rfl, Nat.le_of_ble_eq_true rfl⟩ dX11_speed_32) (fun r3769 hq3770 => ?_)
      refine th_if_eq (X := r3769.toInt) (tgt := 60) hx hb dX11_speed_35 (by decide) rfl (fun c3771 => ?_) (fun c3771 => absurd c3771 (by omega))
      refine lv_iconst (v := 0) hx hb dX11_speed_60 (by decide) ?_
      exact th_retzH (post := fun r K1 V1 => (∀ b, K b = some (0, 11) → V1 b = V b) ∧ ((((pt_i = (-1) ∧ (0 ≤ n_i ∧ n_i ≤ 1000)) ∨ ((0 ≤ pt_i ∧ pt_i ≤ 9) ∧ (1 ≤ n_i ∧ n_i ≤ 200))) ∧ r.toInt = 1) ∨ (((pt_i ≠ (-1) ∨ (0 > n_i ∨ n_i > 1000)) ∧ ((0 > pt_i ∨ pt_i > 9) ∨ (1 > n_i ∨ n_i > 200))) ∧ r.toInt = 0))) (cells := 0) (slots := 0) (mc := 0) (ms := 0) C hS (by have hfin := li_0; omega) ⟨(fun b hb => rfl), (Or.inr (⟨by omega, li_0⟩))⟩ (Nat.le_of_ble_eq_true rfl) (Nat.le_of_ble_eq_true rfl) dX11_speed_61
    · replace hq3767 := Or.resolve_right hq3767 (fun h => absurd h.2 (by omega))
      refine lv_aload_n hx hb dX11_speed_16 rfl (lv_at hl 0 rfl) ?_
      refine th_get C hS.1 (FX.f0 hF) fl_RX11_94 (FX.f66 hF) dX11_speed_17 ?_
      refine lv_bipush (v := 10) hx hb dX11_speed_20 (by decide) ?_
      refine lv_iload_n hx hb dX11_speed_22 rfl (lv_at hl 2 rfl) ?_
      refine th_govH hS rfl (th_runS (As := [.ref (ad 22), .int 10, .int n]) (rest := []) C hS.1 gS_RX11_108 (t_X4_put li_10 iz_n (FX.f67 hF) (by decide)) hl rfl rfl rfl rfl ⟨Nat.le_of_ble_eq_true rfl, Nat.le_of_ble_eq_true rfl⟩ (Nat.le_of_ble_eq_true rfl) ⟨Nat.le_of_ble_eq_true rfl, Nat.le_of_ble_eq_true rfl⟩ dX11_speed_23) (fun K3774 V3775 H locs1 hq3773 hE3776 hS => ?_)
      obtain ⟨rfl, hF3777⟩ := hq3773
      refine lv_iconst (v := 1) hx hb dX11_speed_26 (by decide) ?_
      exact th_retzH (post := fun r K1 V1 => (∀ b, K b = some (0, 11) → V1 b = V b) ∧ ((((pt_i = (-1) ∧ (0 ≤ n_i ∧ n_i ≤ 1000)) ∨ ((0 ≤ pt_i ∧ pt_i ≤ 9) ∧ (1 ≤ n_i ∧ n_i ≤ 200))) ∧ r.toInt = 1) ∨ (((pt_i ≠ (-1) ∨ (0 > n_i ∨ n_i > 1000)) ∧ ((0 > pt_i ∨ pt_i > 9) ∨ (1 > n_i ∨ n_i > 200))) ∧ r.toInt = 0))) (cells := 0) (slots := 0) (mc := 0) (ms := 0) C hS (by have hfin := li_1; omega) ⟨(fun b hb  => (hF3777 _ (by rw [hb]; exact fun h => by cases h) (K_ne hb (FX.f67 hF) (by decide)))), (Or.inl ⟨by omega, li_1⟩)⟩ (Nat.le_of_ble_eq_true rfl) (Nat.le_of_ble_eq_true rfl) dX11_speed_27

set_option maxHeartbeats 400000 in
set_option maxRecDepth 100000 in
theorem t_X11_birds {l : Launch} {D : va_G} {dA : Nat → ClassId} {K : Kmap} {V : Vmap} {sz : Nat} {x : Nat} {k yr n : Int32} {k_i yr_i n_i : Int} (iz_k : k.toInt = k_i) (iz_yr : yr.toInt = yr_i) (iz_n : n.toInt = n_i) (F : FX K V x) : Met l yX11_birds (wsOf yX11_birds cX11_birds 5 (some .boolean)) { frames := 2, cells := 0, slots := 0, locals := 44 } (PC D dA K V sz [.ref x, .int k, .int yr, .int n]) (PQi (fun r => (r.toInt = 0))) 0 0 noFree := by
  refine th_body (by decide +kernel) (Nat.le_of_ble_eq_true rfl) (fun pZ eZ sZ mZ belowZ methZ cZ C hR hsz hnm ls hl => ?_)
  have C : CX pZ sZ mZ [.ref x, .int k, .int yr, .int n].toArray methZ cZ cX11_birds 5 (some .boolean) RX11 D dA := C
  have hx := C.1; have hb := C.2.1
  have hl : lv_has ls 5 [(0, .ref x), (1, .int k), (2, .int yr), (3, .int n)] := hl
  subst hsz
  have hS : ST D dA K sZ.heap K V sZ.heap [] := ST.rf hR
  have r_k := th_rng k; rw [iz_k] at r_k
  have r_yr := th_rng yr; rw [iz_yr] at r_yr
  have r_n := th_rng n; rw [iz_n] at r_n
  have F0 := F
  obtain ⟨ad, hF⟩ := F
  refine lv_aload_n hx hb dX11_birds_0 rfl (lv_at hl 0 rfl) ?_
  refine lv_iload_n hx hb dX11_birds_1 rfl (lv_at hl 1 rfl) ?_
  refine lv_iconst (v := 5) hx hb dX11_birds_2 (by decide) ?_
  refine th_gor (th_runV (As := [.int k, .int 5]) (rest := []) C hS.1 (RX11, TX11, 20) rfl gV_RX11_169 (FX.f0 hF) (t_X11_placeOf iz_k li_5 (FX.f0 hF) (FX.f34 hF)) hl rfl rfl rfl rfl ⟨Nat.le_of_ble_eq_true rfl, Nat.le_of_ble_eq_true rfl⟩ (Nat.le_of_ble_eq_true rfl) ⟨Nat.le_of_ble_eq_true rfl, Nat.le_of_ble_eq_true rfl⟩ dX11_birds_3) ?_
  refine lv_astoreN (lv' := [(4, .null), (0, .ref x), (1, .int k), (2, .int yr), (3, .int n)]) hx hb dX11_birds_6 hl (by decide) rfl (fun ls hl => ?_)
  refine lv_aloadN hx hb dX11_birds_8 (lv_at hl 0 rfl) ?_
  refine lv_ifnullN hx hb (tgt := 30) dX11_birds_10 (by decide) ?_
  refine lv_iconst (v := 0) hx hb dX11_birds_30 (by decide) ?_
  exact th_retz C (by have hfin := li_0; omega) (by have hfin := li_0; omega) dX11_birds_31

set_option maxHeartbeats 400000 in
set_option maxRecDepth 100000 in
theorem t_X11_loss {l : Launch} {D : va_G} {dA : Nat → ClassId} {K : Kmap} {V : Vmap} {sz : Nat} {x : Nat} {k a b e1 wh : Int32} {k_i a_i b_i e1_i wh_i : Int} (iz_k : k.toInt = k_i) (iz_a : a.toInt = a_i) (iz_b : b.toInt = b_i) (iz_e1 : e1.toInt = e1_i) (iz_wh : wh.toInt = wh_i) (F : FX K V x) : Met l yX11_loss (wsOf yX11_loss cX11_loss 10 (some .int)) { frames := 2, cells := 0, slots := 0, locals := 44 } (PC D dA K V sz [.ref x, .int k, .int a, .int b, .int e1, .int wh]) (PQi (fun r => (r.toInt = (-1000000)))) 0 0 noFree := by
  refine th_body (by decide +kernel) (Nat.le_of_ble_eq_true rfl) (fun pZ eZ sZ mZ belowZ methZ cZ C hR hsz hnm ls hl => ?_)
  have C : CX pZ sZ mZ [.ref x, .int k, .int a, .int b, .int e1, .int wh].toArray methZ cZ cX11_loss 10 (some .int) RX11 D dA := C
  have hx := C.1; have hb := C.2.1
  have hl : lv_has ls 10 [(0, .ref x), (1, .int k), (2, .int a), (3, .int b), (4, .int e1), (5, .int wh)] := hl
  subst hsz
  have hS : ST D dA K sZ.heap K V sZ.heap [] := ST.rf hR
  have r_k := th_rng k; rw [iz_k] at r_k
  have r_a := th_rng a; rw [iz_a] at r_a
  have r_b := th_rng b; rw [iz_b] at r_b
  have r_e1 := th_rng e1; rw [iz_e1] at r_e1
  have r_wh := th_rng wh; rw [iz_wh] at r_wh
  have F0 := F
  obtain ⟨ad, hF⟩ := F
  refine lv_aload_n hx hb dX11_loss_0 rfl (lv_at hl 0 rfl) ?_
  refine lv_iload_n hx hb dX11_loss_1 rfl (lv_at hl 1 rfl) ?_
  refine lv_iconst (v := 5) hx hb dX11_loss_2 (by decide) ?_
  refine th_gor (th_runV (As := [.int k, .int 5]) (rest := []) C hS.1 (RX11, TX11, 20) rfl gV_RX11_169 (FX.f0 hF) (t_X11_placeOf iz_k li_5 (FX.f0 hF) (FX.f34 hF)) hl rfl rfl rfl rfl ⟨Nat.le_of_ble_eq_true rfl, Nat.le_of_ble_eq_true rfl⟩ (Nat.le_of_ble_eq_true rfl) ⟨Nat.le_of_ble_eq_true rfl, Nat.le_of_ble_eq_true rfl⟩ dX11_loss_3) ?_
  refine lv_astoreN (lv' := [(6, .null), (0, .ref x), (1, .int k), (2, .int a), (3, .int b), (4, .int e1), (5, .int wh)]) hx hb dX11_loss_6 hl (by decide) rfl (fun ls hl => ?_)
  refine lv_aloadN hx hb dX11_loss_8 (lv_at hl 0 rfl) ?_
  refine lv_ifnullN hx hb (tgt := 53) dX11_loss_10 (by decide) ?_
  refine lv_ldcw (v := (-1000000)) hx hb C.2.2.2.2.2.1 (C.2.2.2.2.2.2.1 _ gw_1169) dX11_loss_53 ?_
  exact th_reti C (by have hfin := li_n1000000; omega) dX11_loss_56

set_option maxHeartbeats 400000 in
set_option maxRecDepth 100000 in
theorem t_X11_noise {l : Launch} {D : va_G} {dA : Nat → ClassId} {K : Kmap} {V : Vmap} {sz : Nat} {x : Nat} {k yr : Int32} {k_i yr_i : Int} (iz_k : k.toInt = k_i) (iz_yr : yr.toInt = yr_i) (F : FX K V x) : Met l yX11_noise (wsOf yX11_noise cX11_noise 4 (some .int)) { frames := 2, cells := 0, slots := 0, locals := 44 } (PC D dA K V sz [.ref x, .int k, .int yr]) (PQi (fun r => (r.toInt = (-1)))) 0 0 noFree := by
  refine th_body (by decide +kernel) (Nat.le_of_ble_eq_true rfl) (fun pZ eZ sZ mZ belowZ methZ cZ C hR hsz hnm ls hl => ?_)
  have C : CX pZ sZ mZ [.ref x, .int k, .int yr].toArray methZ cZ cX11_noise 4 (some .int) RX11 D dA := C
  have hx := C.1; have hb := C.2.1
  have hl : lv_has ls 4 [(0, .ref x), (1, .int k), (2, .int yr)] := hl
  subst hsz
  have hS : ST D dA K sZ.heap K V sZ.heap [] := ST.rf hR
  have r_k := th_rng k; rw [iz_k] at r_k
  have r_yr := th_rng yr; rw [iz_yr] at r_yr
  have F0 := F
  obtain ⟨ad, hF⟩ := F
  refine lv_aload_n hx hb dX11_noise_0 rfl (lv_at hl 0 rfl) ?_
  refine lv_iload_n hx hb dX11_noise_1 rfl (lv_at hl 1 rfl) ?_
  refine lv_iconst (v := 5) hx hb dX11_noise_2 (by decide) ?_
  refine th_gor (th_runV (As := [.int k, .int 5]) (rest := []) C hS.1 (RX11, TX11, 20) rfl gV_RX11_169 (FX.f0 hF) (t_X11_placeOf iz_k li_5 (FX.f0 hF) (FX.f34 hF)) hl rfl rfl rfl rfl ⟨Nat.le_of_ble_eq_true rfl, Nat.le_of_ble_eq_true rfl⟩ (Nat.le_of_ble_eq_true rfl) ⟨Nat.le_of_ble_eq_true rfl, Nat.le_of_ble_eq_true rfl⟩ dX11_noise_3) ?_
  refine lv_astore_nN (lv' := [(3, .null), (0, .ref x), (1, .int k), (2, .int yr)]) hx hb dX11_noise_6 rfl hl (by decide) rfl (fun ls hl => ?_)
  refine lv_aload_nN hx hb dX11_noise_7 rfl (lv_at hl 0 rfl) ?_
  refine lv_ifnullN hx hb (tgt := 18) dX11_noise_8 (by decide) ?_
  refine lv_iconst (v := (-1)) hx hb dX11_noise_18 (by decide) ?_
  refine lv_goto (tgt := 30) hx hb dX11_noise_19 (by decide) ?_
  exact th_reti C (by have hfin := li_n1; omega) dX11_noise_30

set_option maxHeartbeats 400000 in
set_option maxRecDepth 100000 in
theorem t_X11_caught {l : Launch} {D : va_G} {dA : Nat → ClassId} {K : Kmap} {V : Vmap} {sz : Nat} {x : Nat} {sh1 kd se1 tn dy : Int32} {sh1_i kd_i se1_i tn_i dy_i : Int} (iz_sh1 : sh1.toInt = sh1_i) (iz_kd : kd.toInt = kd_i) (iz_se1 : se1.toInt = se1_i) (iz_tn : tn.toInt = tn_i) (iz_dy : dy.toInt = dy_i) (F : FX K V x) : Met l yX11_caught (wsOf yX11_caught cX11_caught 6 (some .int)) { frames := 1, cells := 0, slots := 0, locals := 21 } (PC D dA K V sz [.ref x, .int sh1, .int kd, .int se1, .int tn, .int dy]) (PQi (fun r => (r.toInt = (-1)))) 0 0 noFree := by
  refine th_body (by decide +kernel) (Nat.le_of_ble_eq_true rfl) (fun pZ eZ sZ mZ belowZ methZ cZ C hR hsz hnm ls hl => ?_)
  have C : CX pZ sZ mZ [.ref x, .int sh1, .int kd, .int se1, .int tn, .int dy].toArray methZ cZ cX11_caught 6 (some .int) RX11 D dA := C
  have hx := C.1; have hb := C.2.1
  have hl : lv_has ls 6 [(0, .ref x), (1, .int sh1), (2, .int kd), (3, .int se1), (4, .int tn), (5, .int dy)] := hl
  subst hsz
  have hS : ST D dA K sZ.heap K V sZ.heap [] := ST.rf hR
  have r_sh1 := th_rng sh1; rw [iz_sh1] at r_sh1
  have r_kd := th_rng kd; rw [iz_kd] at r_kd
  have r_se1 := th_rng se1; rw [iz_se1] at r_se1
  have r_tn := th_rng tn; rw [iz_tn] at r_tn
  have r_dy := th_rng dy; rw [iz_dy] at r_dy
  have F0 := F
  obtain ⟨ad, hF⟩ := F
  refine lv_aload_n hx hb dX11_caught_0 rfl (lv_at hl 0 rfl) ?_
  refine lv_iload_n hx hb dX11_caught_1 rfl (lv_at hl 1 rfl) ?_
  refine th_gor (th_runV (As := [.int sh1]) (rest := []) C hS.1 (RX11, TX11, 20) rfl gV_RX11_403 (FX.f0 hF) (t_X11_shipOf iz_sh1 (FX.f0 hF) (FX.f36 hF)) hl rfl rfl rfl rfl ⟨Nat.le_of_ble_eq_true rfl, Nat.le_of_ble_eq_true rfl⟩ (Nat.le_of_ble_eq_true rfl) ⟨Nat.le_of_ble_eq_true rfl, Nat.le_of_ble_eq_true rfl⟩ dX11_caught_2) ?_
  refine lv_ifnullN hx hb (tgt := 36) dX11_caught_5 (by decide) ?_
  refine lv_iconst (v := (-1)) hx hb dX11_caught_36 (by decide) ?_
  exact th_reti C (by have hfin := li_n1; omega) dX11_caught_37

set_option maxHeartbeats 400000 in
set_option maxRecDepth 100000 in
theorem t_X11_over {l : Launch} {D : va_G} {dA : Nat → ClassId} {K : Kmap} {V : Vmap} {sz : Nat} {x : Nat} (F : FX K V x) : Met l yX11_over (wsOf yX11_over cX11_over 4 (some .int)) { frames := 0, cells := 0, slots := 0, locals := 0 } (PC D dA K V sz [.ref x]) (PQi (fun r => (r.toInt = (-1)))) 0 0 noFree := by
  refine th_body (by decide +kernel) (Nat.le_of_ble_eq_true rfl) (fun pZ eZ sZ mZ belowZ methZ cZ C hR hsz hnm ls hl => ?_)
  have C : CX pZ sZ mZ [.ref x].toArray methZ cZ cX11_over 4 (some .int) RX11 D dA := C
  have hx := C.1; have hb := C.2.1
  have hl : lv_has ls 4 [(0, .ref x)] := hl
  subst hsz
  have hS : ST D dA K sZ.heap K V sZ.heap [] := ST.rf hR
  have F0 := F
  obtain ⟨ad, hF⟩ := F
  refine lv_iconst (v := (-1)) hx hb dX11_over_0 (by decide) ?_
  refine lv_istore_n (lv' := [(1, .int (-1)), (0, .ref x)]) hx hb dX11_over_1 rfl hl (by decide) rfl (fun ls hl => ?_)
  refine lv_iconst (v := 0) hx hb dX11_over_2 (by decide) ?_
  refine lv_istore_n (lv' := [(2, .int 0), (1, .int (-1)), (0, .ref x)]) hx hb dX11_over_3 rfl hl (by decide) rfl (fun ls hl => ?_)
  refine lv_iload_n hx hb dX11_over_4 rfl (lv_at hl 0 rfl) ?_
  refine lv_aload_n hx hb dX11_over_5 rfl (lv_at hl 2 rfl) ?_
  refine th_get C hS.1 (FX.f0 hF) fl_RX11_82 (FX.f46 hF) dX11_over_6 ?_
  refine th_get C hS.1 (FX.f47 hF) fl_RX11_199 (FX.f48 hF) dX11_over_9 ?_
  refine th_icmp_ge (X := 0) (Y := 0) (tgt := 67) hx hb dX11_over_12 (by decide) li_0 li_0 (fun c3787 => ?_) (fun c3787 => absurd c3787 (by omega))
  refine lv_iload_n hx hb dX11_over_67 rfl (lv_at hl 1 rfl) ?_
  exact th_reti C (by have hfin := li_n1; omega) dX11_over_68

set_option maxHeartbeats 400000 in
set_option maxRecDepth 100000 in
theorem t_X11_doubt {l : Launch} {D : va_G} {dA : Nat → ClassId} {K : Kmap} {V : Vmap} {sz : Nat} {x : Nat} {wh : Int32} {wh_i : Int} (iz_wh : wh.toInt = wh_i) (F : FX K V x) : Met l yX11_doubt (wsOf yX11_doubt cX11_doubt 4 (some .int)) { frames := 1, cells := 0, slots := 0, locals := 22 } (PC D dA K V sz [.ref x, .int wh]) (PQi (fun r => (r.toInt = (-1)))) 0 0 noFree := by
  refine th_body (by decide +kernel) (Nat.le_of_ble_eq_true rfl) (fun pZ eZ sZ mZ belowZ methZ cZ C hR hsz hnm ls hl => ?_)
  have C : CX pZ sZ mZ [.ref x, .int wh].toArray methZ cZ cX11_doubt 4 (some .int) RX11 D dA := C
  have hx := C.1; have hb := C.2.1
  have hl : lv_has ls 4 [(0, .ref x), (1, .int wh)] := hl
  subst hsz
  have hS : ST D dA K sZ.heap K V sZ.heap [] := ST.rf hR
  have r_wh := th_rng wh; rw [iz_wh] at r_wh
  have F0 := F
  obtain ⟨ad, hF⟩ := F
  refine lv_iload_n hx hb dX11_doubt_0 rfl (lv_at hl 1 rfl) ?_
  refine lv_iconst (v := 0) hx hb dX11_doubt_1 (by decide) ?_
  refine lv_iconst (v := 1) hx hb dX11_doubt_2 (by decide) ?_
  refine th_goi (th_runS (As := [.int wh, .int 0, .int 1]) (rest := []) C hS.1 gS_RX11_112 (t_X11_between iz_wh li_0 li_1) hl rfl rfl rfl rfl ⟨Nat.le_of_ble_eq_true rfl, Nat.le_of_ble_eq_true rfl⟩ (Nat.le_of_ble_eq_true rfl) ⟨Nat.le_of_ble_eq_true rfl, Nat.le_of_ble_eq_true rfl⟩ dX11_doubt_3) (fun r3788 hq3789 => ?_)
  refine th_if_ne (X := r3788.toInt) (tgt := 11) hx hb dX11_doubt_6 (by decide) rfl (fun c3790 => ?_) (fun c3790 => ?_)
  · replace hq3789 := Or.resolve_right hq3789 (fun h => absurd h.2 (by omega))
    refine lv_iconst (v := 0) hx hb dX11_doubt_11 (by decide) ?_
    refine lv_istore_n (lv' := [(2, .int 0), (0, .ref x), (1, .int wh)]) hx hb dX11_doubt_12 rfl hl (by decide) rfl (fun ls hl => ?_)
    refine lv_iload_n hx hb dX11_doubt_13 rfl (lv_at hl 0 rfl) ?_
    refine lv_aload_n hx hb dX11_doubt_14 rfl (lv_at hl 1 rfl) ?_
    refine th_get C hS.1 (FX.f0 hF) fl_RX11_82 (FX.f46 hF) dX11_doubt_15 ?_
    refine th_get C hS.1 (FX.f47 hF) fl_RX11_199 (FX.f48 hF) dX11_doubt_18 ?_
    refine th_icmp_ge (X := 0) (Y := 0) (tgt := 70) hx hb dX11_doubt_21 (by decide) li_0 li_0 (fun c3791 => ?_) (fun c3791 => absurd c3791 (by omega))
    refine lv_iconst (v := (-1)) hx hb dX11_doubt_70 (by decide) ?_
    exact th_reti C (by have hfin := li_n1; omega) dX11_doubt_71
  · replace hq3789 := Or.resolve_left hq3789 (fun h => absurd h.2 (by omega))
    refine lv_iconst (v := (-1)) hx hb dX11_doubt_9 (by decide) ?_
    exact th_reti C (by have hfin := li_n1; omega) dX11_doubt_10

set_option maxHeartbeats 400000 in
set_option maxRecDepth 100000 in
theorem t_X11_word {l : Launch} {D : va_G} {dA : Nat → ClassId} {K : Kmap} {V : Vmap} {sz : Nat} {x : Nat} {wo : Int32} {wo_i : Int} (iz_wo : wo.toInt = wo_i) (F : FX K V x) : Met l yX11_word (wsOf yX11_word cX11_word 2 (some .int)) { frames := 2, cells := 0, slots := 0, locals := 51 } (PC D dA K V sz [.ref x, .int wo]) (HQi D dA K (fun r K1 V1 => (∀ b, K b = some (0, 11) → V1 b = V b) ∧ (((0 ≤ wo_i ∧ wo_i ≤ 1000) ∧ r.toInt = 0) ∨ ((0 > wo_i ∨ wo_i > 1000) ∧ r.toInt = (-1))))) 0 0 (AK K sz) := by
  refine th_body (by decide +kernel) (Nat.le_of_ble_eq_true rfl) (fun pZ eZ sZ mZ belowZ methZ cZ C hR hsz hnm ls hl => ?_)
  have C : CX pZ sZ mZ [.ref x, .int wo].toArray methZ cZ cX11_word 2 (some .int) RX11 D dA := C
  have hx := C.1; have hb := C.2.1
  have hl : lv_has ls 2 [(0, .ref x), (1, .int wo)] := hl
  subst hsz
  have hS : ST D dA K sZ.heap K V sZ.heap [] := ST.rf hR
  have r_wo := th_rng wo; rw [iz_wo] at r_wo
  have F0 := F
  obtain ⟨ad, hF⟩ := F
  refine lv_iload_n hx hb dX11_word_0 rfl (lv_at hl 1 rfl) ?_
  refine lv_iconst (v := 0) hx hb dX11_word_1 (by decide) ?_
  refine lv_sipush (v := 1000) hx hb dX11_word_2 (by decide) ?_
  refine th_goi (th_runS (As := [.int wo, .int 0, .int 1000]) (rest := []) C hS.1 gS_RX11_112 (t_X11_between iz_wo li_0 li_1000) hl rfl rfl rfl rfl ⟨Nat.le_of_ble_eq_true rfl, Nat.le_of_ble_eq_true rfl⟩ (Nat.le_of_ble_eq_true rfl) ⟨Nat.le_of_ble_eq_true rfl, Nat.le_of_ble_eq_true rfl⟩ dX11_word_5) (fun r3792 hq3793 => ?_)
  refine th_if_eq (X := r3792.toInt) (tgt := 26) hx hb dX11_word_8 (by decide) rfl (fun c3794 => ?_) (fun c3794 => ?_)
  · replace hq3793 := Or.resolve_left hq3793 (fun h => absurd h.2 (by omega))
    refine lv_iconst (v := (-1)) hx hb dX11_word_26 (by decide) ?_
    exact th_retiH (post := fun r K1 V1 => (∀ b, K b = some (0, 11) → V1 b = V b) ∧ (((0 ≤ wo_i ∧ wo_i ≤ 1000) ∧ r.toInt = 0) ∨ ((0 > wo_i ∨ wo_i > 1000) ∧ r.toInt = (-1)))) (cells := 0) (slots := 0) (mc := 0) (ms := 0) C hS ⟨(fun b hb => rfl), (Or.inr (⟨by omega, li_n1⟩))⟩ (Nat.le_of_ble_eq_true rfl) (Nat.le_of_ble_eq_true rfl) dX11_word_27
  · replace hq3793 := Or.resolve_right hq3793 (fun h => absurd h.2 (by omega))
    refine lv_aload_n hx hb dX11_word_11 rfl (lv_at hl 0 rfl) ?_
    refine th_get C hS.1 (FX.f0 hF) fl_RX11_88 (FX.f52 hF) dX11_word_12 ?_
    refine lv_iload_n hx hb dX11_word_15 rfl (lv_at hl 1 rfl) ?_
    refine lv_iconst (v := 0) hx hb dX11_word_16 (by decide) ?_
    refine lv_iconst (v := 0) hx hb dX11_word_17 (by decide) ?_
    refine lv_iconst (v := 0) hx hb dX11_word_18 (by decide) ?_
    refine lv_iconst (v := 0) hx hb dX11_word_19 (by decide) ?_
    refine th_goiH hS rfl (th_runV (As := [.int wo, .int 0, .int 0, .int 0, .int 0]) (rest := []) C hS.1 (RX8, TX8, 4) rfl gV_RX11_205 (FX.f53 hF) (t_X8_append_7 iz_wo li_0 li_0 li_0 li_0 li_0 (FX.f53 hF) (FX.f54 hF) (FX.f55 hF) (FX.f56 hF) (FX.f57 hF) (FX.f58 hF) (by omega) (by omega)) hl rfl rfl rfl rfl ⟨Nat.le_of_ble_eq_true rfl, Nat.le_of_ble_eq_true rfl⟩ (Nat.le_of_ble_eq_true rfl) ⟨Nat.le_of_ble_eq_true rfl, Nat.le_of_ble_eq_true rfl⟩ dX11_word_20) (fun r3795 K3797 V3798 H locs1 hq3796 hE3799 hS => ?_)
    obtain ⟨rfl, hF3800, hA3801, hA3802, hA3803, ⟨z3805, hA3804, hz3805⟩, hr3806⟩ := hq3796
    refine lv_goto (tgt := 27) hx hb dX11_word_23 (by decide) ?_
    exact th_retiH (post := fun r K1 V1 => (∀ b, K b = some (0, 11) → V1 b = V b) ∧ (((0 ≤ wo_i ∧ wo_i ≤ 1000) ∧ r.toInt = 0) ∨ ((0 > wo_i ∨ wo_i > 1000) ∧ r.toInt = (-1)))) (cells := 0) (slots := 0) (mc := 0) (ms := 0) C hS ⟨(fun b hb  => (hF3800 _ (by rw [hb]; exact fun h => by cases h) (K_ne hb (FX.f57 hF) (by decide)) (K_ne hb (FX.f53 hF) (by decide)))), (Or.inl ⟨by omega, by omega⟩)⟩ (Nat.le_of_ble_eq_true rfl) (Nat.le_of_ble_eq_true rfl) dX11_word_27

set_option maxHeartbeats 400000 in
set_option maxRecDepth 100000 in
theorem t_X11_asks {l : Launch} {D : va_G} {dA : Nat → ClassId} {K : Kmap} {V : Vmap} {sz : Nat} {x : Nat} {p w ot : Int32} {p_i w_i ot_i : Int} (iz_p : p.toInt = p_i) (iz_w : w.toInt = w_i) (iz_ot : ot.toInt = ot_i) (F : FX K V x) : Met l yX11_asks (wsOf yX11_asks cX11_asks 7 (some .boolean)) { frames := 1, cells := 0, slots := 0, locals := 21 } (PC D dA K V sz [.ref x, .int p, .int w, .int ot]) (PQi (fun r => (r.toInt = 0))) 0 0 noFree := by
  refine th_body (by decide +kernel) (Nat.le_of_ble_eq_true rfl) (fun pZ eZ sZ mZ belowZ methZ cZ C hR hsz hnm ls hl => ?_)
  have C : CX pZ sZ mZ [.ref x, .int p, .int w, .int ot].toArray methZ cZ cX11_asks 7 (some .boolean) RX11 D dA := C
  have hx := C.1; have hb := C.2.1
  have hl : lv_has ls 7 [(0, .ref x), (1, .int p), (2, .int w), (3, .int ot)] := hl
  subst hsz
  have hS : ST D dA K sZ.heap K V sZ.heap [] := ST.rf hR
  have r_p := th_rng p; rw [iz_p] at r_p
  have r_w := th_rng w; rw [iz_w] at r_w
  have r_ot := th_rng ot; rw [iz_ot] at r_ot
  have F0 := F
  obtain ⟨ad, hF⟩ := F
  refine lv_aload_n hx hb dX11_asks_0 rfl (lv_at hl 0 rfl) ?_
  refine lv_iload_n hx hb dX11_asks_1 rfl (lv_at hl 1 rfl) ?_
  refine th_gor (th_runV (As := [.int p]) (rest := []) C hS.1 (RX11, TX11, 20) rfl gV_RX11_151 (FX.f0 hF) (t_X11_partyOf iz_p (FX.f0 hF) (FX.f31 hF)) hl rfl rfl rfl rfl ⟨Nat.le_of_ble_eq_true rfl, Nat.le_of_ble_eq_true rfl⟩ (Nat.le_of_ble_eq_true rfl) ⟨Nat.le_of_ble_eq_true rfl, Nat.le_of_ble_eq_true rfl⟩ dX11_asks_2) ?_
  refine lv_astoreN (lv' := [(4, .null), (0, .ref x), (1, .int p), (2, .int w), (3, .int ot)]) hx hb dX11_asks_5 hl (by decide) rfl (fun ls hl => ?_)
  refine lv_aloadN hx hb dX11_asks_7 (lv_at hl 0 rfl) ?_
  refine lv_ifnullN hx hb (tgt := 44) dX11_asks_9 (by decide) ?_
  refine lv_iconst (v := 0) hx hb dX11_asks_44 (by decide) ?_
  exact th_retz C (by have hfin := li_0; omega) (by have hfin := li_0; omega) dX11_asks_45

set_option maxHeartbeats 400000 in
set_option maxRecDepth 100000 in
theorem t_X11_blocks {l : Launch} {D : va_G} {dA : Nat → ClassId} {K : Kmap} {V : Vmap} {sz : Nat} {x : Nat} {set : Int32} {set_i : Int} (iz_set : set.toInt = set_i) (F : FX K V x) : Met l yX11_blocks (wsOf yX11_blocks cX11_blocks 2 (some .int)) { frames := 1, cells := 0, slots := 0, locals := 24 } (PC D dA K V sz [.ref x, .int set]) (PQi (fun r => (set_i = 0 ∧ r.toInt = 0) ∨ (set_i ≠ 0 ∧ r.toInt = (-1)))) 0 0 noFree := by
  refine th_body (by decide +kernel) (Nat.le_of_ble_eq_true rfl) (fun pZ eZ sZ mZ belowZ methZ cZ C hR hsz hnm ls hl => ?_)
  have C : CX pZ sZ mZ [.ref x, .int set].toArray methZ cZ cX11_blocks 2 (some .int) RX11 D dA := C
  have hx := C.1; have hb := C.2.1
  have hl : lv_has ls 2 [(0, .ref x), (1, .int set)] := hl
  subst hsz
  have hS : ST D dA K sZ.heap K V sZ.heap [] := ST.rf hR
  have r_set := th_rng set; rw [iz_set] at r_set
  have F0 := F
  obtain ⟨ad, hF⟩ := F
  refine lv_iload_n hx hb dX11_blocks_0 rfl (lv_at hl 1 rfl) ?_
  refine lv_iconst (v := 0) hx hb dX11_blocks_1 (by decide) ?_
  refine lv_iconst (v := 1) hx hb dX11_blocks_2 (by decide) ?_
  refine lv_aload_n hx hb dX11_blocks_3 rfl (lv_at hl 0 rfl) ?_
  refine th_get C hS.1 (FX.f0 hF) fl_RX11_88 (FX.f52 hF) dX11_blocks_4 ?_
  refine th_get C hS.1 (FX.f53 hF) fl_RX11_199 (FX.f58 hF) dX11_blocks_7 ?_
  refine lv_ishl hx hb dX11_blocks_10 ?_
  refine th_is (w := .int 1) (by decide) ?_
  refine lv_iconst (v := 1) hx hb dX11_blocks_11 (by decide) ?_
  refine lv_isub hx hb dX11_blocks_12 ?_
  refine th_is (w := .int 0) (by decide) ?_
  refine th_goi (th_runS (As := [.int set, .int 0, .int 0]) (rest := []) C hS.1 gS_RX11_112 (t_X11_between iz_set li_0 li_0) hl rfl rfl rfl rfl ⟨Nat.le_of_ble_eq_true rfl, Nat.le_of_ble_eq_true rfl⟩ (Nat.le_of_ble_eq_true rfl) ⟨Nat.le_of_ble_eq_true rfl, Nat.le_of_ble_eq_true rfl⟩ dX11_blocks_13) (fun r3809 hq3810 => ?_)
  refine th_if_eq (X := r3809.toInt) (tgt := 27) hx hb dX11_blocks_16 (by decide) rfl (fun c3811 => ?_) (fun c3811 => ?_)
  · replace hq3810 := Or.resolve_left hq3810 (fun h => absurd h.2 (by omega))
    refine lv_iconst (v := (-1)) hx hb dX11_blocks_27 (by decide) ?_
    exact th_reti C (Or.inr (⟨by omega, li_n1⟩)) dX11_blocks_28
  · replace hq3810 := Or.resolve_right hq3810 (fun h => absurd h.2 (by omega))
    refine lv_aload_n hx hb dX11_blocks_19 rfl (lv_at hl 0 rfl) ?_
    refine lv_iload_n hx hb dX11_blocks_20 rfl (lv_at hl 1 rfl) ?_
    refine th_goi (th_runV (As := [.int set]) (rest := []) C hS.1 (RX11, TX11, 20) rfl gV_RX11_581 (FX.f0 hF) (t_X11_blockers iz_set (FX.f0 hF) (FX.f31 hF)) hl rfl rfl rfl rfl ⟨Nat.le_of_ble_eq_true rfl, Nat.le_of_ble_eq_true rfl⟩ (Nat.le_of_ble_eq_true rfl) ⟨Nat.le_of_ble_eq_true rfl, Nat.le_of_ble_eq_true rfl⟩ dX11_blocks_21) (fun r3812 hq3813 => ?_)
    refine lv_goto (tgt := 28) hx hb dX11_blocks_24 (by decide) ?_
    exact th_reti C (Or.inl ⟨by omega, by omega⟩) dX11_blocks_28

set_option maxHeartbeats 400000 in
set_option maxRecDepth 100000 in
theorem t_X11_best {l : Launch} {D : va_G} {dA : Nat → ClassId} {K : Kmap} {V : Vmap} {sz : Nat} {x : Nat} (F : FX K V x) : Met l yX11_best (wsOf yX11_best cX11_best 7 (some .int)) { frames := 1, cells := 0, slots := 0, locals := 24 } (PC D dA K V sz [.ref x]) (PQi (fun r => (r.toInt = 0))) 0 0 noFree := by
  refine th_body (by decide +kernel) (Nat.le_of_ble_eq_true rfl) (fun pZ eZ sZ mZ belowZ methZ cZ C hR hsz hnm ls hl => ?_)
  have C : CX pZ sZ mZ [.ref x].toArray methZ cZ cX11_best 7 (some .int) RX11 D dA := C
  have hx := C.1; have hb := C.2.1
  have hl : lv_has ls 7 [(0, .ref x)] := hl
  subst hsz
  have hS : ST D dA K sZ.heap K V sZ.heap [] := ST.rf hR
  have F0 := F
  obtain ⟨ad, hF⟩ := F
  refine lv_aload_n hx hb dX11_best_0 rfl (lv_at hl 0 rfl) ?_
  refine lv_aload_n hx hb dX11_best_1 rfl (lv_at hl 0 rfl) ?_
  refine th_get C hS.1 (FX.f0 hF) fl_RX11_12 (FX.f1 hF) dX11_best_2 ?_
  refine th_get C hS.1 (FX.f2 hF) fl_RX11_145 (FX.f3 hF) dX11_best_5 ?_
  refine th_goi (th_runV (As := [.int 0]) (rest := []) C hS.1 (RX11, TX11, 20) rfl gV_RX11_369 (FX.f0 hF) (t_X11_decidingOn li_0 (FX.f0 hF) (FX.f31 hF)) hl rfl rfl rfl rfl ⟨Nat.le_of_ble_eq_true rfl, Nat.le_of_ble_eq_true rfl⟩ (Nat.le_of_ble_eq_true rfl) ⟨Nat.le_of_ble_eq_true rfl, Nat.le_of_ble_eq_true rfl⟩ dX11_best_8) (fun r3814 hq3815 => ?_)
  refine lv_istore_n (lv' := [(1, .int r3814), (0, .ref x)]) hx hb dX11_best_11 rfl hl (by decide) rfl (fun ls hl => ?_)
  refine lv_iconst (v := 0) hx hb dX11_best_12 (by decide) ?_
  refine lv_istore_n (lv' := [(2, .int 0), (1, .int r3814), (0, .ref x)]) hx hb dX11_best_13 rfl hl (by decide) rfl (fun ls hl => ?_)
  refine lv_iconst (v := 0) hx hb dX11_best_14 (by decide) ?_
  refine lv_istore_n (lv' := [(3, .int 0), (2, .int 0), (1, .int r3814), (0, .ref x)]) hx hb dX11_best_15 rfl hl (by decide) rfl (fun ls hl => ?_)
  refine lv_iconst (v := 1) hx hb dX11_best_16 (by decide) ?_
  refine lv_istore (lv' := [(4, .int 1), (3, .int 0), (2, .int 0), (1, .int r3814), (0, .ref x)]) hx hb dX11_best_17 hl (by decide) rfl (fun ls hl => ?_)
  refine lv_iload hx hb dX11_best_19 (lv_at hl 0 rfl) ?_
  refine lv_iconst (v := 1) hx hb dX11_best_21 (by decide) ?_
  refine lv_aload_n hx hb dX11_best_22 rfl (lv_at hl 4 rfl) ?_
  refine th_get C hS.1 (FX.f0 hF) fl_RX11_88 (FX.f52 hF) dX11_best_23 ?_
  refine th_get C hS.1 (FX.f53 hF) fl_RX11_199 (FX.f58 hF) dX11_best_26 ?_
  refine lv_ishl hx hb dX11_best_29 ?_
  refine th_is (w := .int 1) (by decide) ?_
  refine th_icmp_ge (X := 1) (Y := 1) (tgt := 100) hx hb dX11_best_30 (by decide) li_1 li_1 (fun c3816 => ?_) (fun c3816 => absurd c3816 (by omega))
  refine lv_iload_n hx hb dX11_best_100 rfl (lv_at hl 2 rfl) ?_
  exact th_reti C (by have hfin := li_0; omega) dX11_best_101

set_option maxHeartbeats 400000 in
set_option maxRecDepth 100000 in
theorem t_X11_stop {l : Launch} {D : va_G} {dA : Nat → ClassId} {K : Kmap} {V : Vmap} {sz : Nat} {x : Nat} {k nd : Int32} {k_i nd_i : Int} (iz_k : k.toInt = k_i) (iz_nd : nd.toInt = nd_i) (F : FX K V x) : Met l yX11_stop (wsOf yX11_stop cX11_stop 3 (some .int)) { frames := 3, cells := 0, slots := 0, locals := 66 } (PC D dA K V sz [.ref x, .int k, .int nd]) (PQi (fun r => (r.toInt = (-1)))) 0 0 noFree := by
  refine th_body (by decide +kernel) (Nat.le_of_ble_eq_true rfl) (fun pZ eZ sZ mZ belowZ methZ cZ C hR hsz hnm ls hl => ?_)
  have C : CX pZ sZ mZ [.ref x, .int k, .int nd].toArray methZ cZ cX11_stop 3 (some .int) RX11 D dA := C
  have hx := C.1; have hb := C.2.1
  have hl : lv_has ls 3 [(0, .ref x), (1, .int k), (2, .int nd)] := hl
  subst hsz
  have hS : ST D dA K sZ.heap K V sZ.heap [] := ST.rf hR
  have r_k := th_rng k; rw [iz_k] at r_k
  have r_nd := th_rng nd; rw [iz_nd] at r_nd
  have F0 := F
  obtain ⟨ad, hF⟩ := F
  refine lv_aload_n hx hb dX11_stop_0 rfl (lv_at hl 0 rfl) ?_
  refine lv_iload_n hx hb dX11_stop_1 rfl (lv_at hl 1 rfl) ?_
  refine th_gor (th_runV (As := [.int k]) (rest := []) C hS.1 (RX11, TX11, 20) rfl gV_RX11_195 (FX.f0 hF) (t_X11_standingStation iz_k (FX.f0 hF) (FX.f34 hF)) hl rfl rfl rfl rfl ⟨Nat.le_of_ble_eq_true rfl, Nat.le_of_ble_eq_true rfl⟩ (Nat.le_of_ble_eq_true rfl) ⟨Nat.le_of_ble_eq_true rfl, Nat.le_of_ble_eq_true rfl⟩ dX11_stop_2) ?_
  refine lv_ifnullN hx hb (tgt := 30) dX11_stop_5 (by decide) ?_
  refine lv_iconst (v := (-1)) hx hb dX11_stop_30 (by decide) ?_
  exact th_reti C (by have hfin := li_n1; omega) dX11_stop_31

set_option maxHeartbeats 400000 in
set_option maxRecDepth 100000 in
theorem t_X11_open {l : Launch} {D : va_G} {dA : Nat → ClassId} {K : Kmap} {V : Vmap} {sz : Nat} {x : Nat} {i xx fr to : Int32} {i_i xx_i fr_i to_i : Int} (iz_i : i.toInt = i_i) (iz_xx : xx.toInt = xx_i) (iz_fr : fr.toInt = fr_i) (iz_to : to.toInt = to_i) (F : FX K V x) : Met l yX11_open (wsOf yX11_open cX11_open 5 (some .boolean)) { frames := 1, cells := 0, slots := 0, locals := 22 } (PC D dA K V sz [.ref x, .int i, .int xx, .int fr, .int to]) (PQi (fun r => (r.toInt = 0))) 0 0 noFree := by
  refine th_body (by decide +kernel) (Nat.le_of_ble_eq_true rfl) (fun pZ eZ sZ mZ belowZ methZ cZ C hR hsz hnm ls hl => ?_)
  have C : CX pZ sZ mZ [.ref x, .int i, .int xx, .int fr, .int to].toArray methZ cZ cX11_open 5 (some .boolean) RX11 D dA := C
  have hx := C.1; have hb := C.2.1
  have hl : lv_has ls 5 [(0, .ref x), (1, .int i), (2, .int xx), (3, .int fr), (4, .int to)] := hl
  subst hsz
  have hS : ST D dA K sZ.heap K V sZ.heap [] := ST.rf hR
  have r_i := th_rng i; rw [iz_i] at r_i
  have r_xx := th_rng xx; rw [iz_xx] at r_xx
  have r_fr := th_rng fr; rw [iz_fr] at r_fr
  have r_to := th_rng to; rw [iz_to] at r_to
  have F0 := F
  obtain ⟨ad, hF⟩ := F
  refine lv_iload_n hx hb dX11_open_0 rfl (lv_at hl 1 rfl) ?_
  refine lv_iconst (v := 0) hx hb dX11_open_1 (by decide) ?_
  refine lv_iconst (v := 2) hx hb dX11_open_2 (by decide) ?_
  refine th_goi (th_runS (As := [.int i, .int 0, .int 2]) (rest := []) C hS.1 gS_RX11_112 (t_X11_between iz_i li_0 li_2) hl rfl rfl rfl rfl ⟨Nat.le_of_ble_eq_true rfl, Nat.le_of_ble_eq_true rfl⟩ (Nat.le_of_ble_eq_true rfl) ⟨Nat.le_of_ble_eq_true rfl, Nat.le_of_ble_eq_true rfl⟩ dX11_open_3) (fun r3819 hq3820 => ?_)
  refine th_if_eq (X := r3819.toInt) (tgt := 32) hx hb dX11_open_6 (by decide) rfl (fun c3821 => ?_) (fun c3821 => ?_)
  · replace hq3820 := Or.resolve_left hq3820 (fun h => absurd h.2 (by omega))
    refine lv_iconst (v := 0) hx hb dX11_open_32 (by decide) ?_
    exact th_retz C (by have hfin := li_0; omega) (by have hfin := li_0; omega) dX11_open_33
  · replace hq3820 := Or.resolve_right hq3820 (fun h => absurd h.2 (by omega))
    refine lv_aload_n hx hb dX11_open_9 rfl (lv_at hl 0 rfl) ?_
    refine th_get C hS.1 (FX.f0 hF) fl_RX11_26 (FX.f24 hF) dX11_open_10 ?_
    refine th_get C hS.1 (FX.f25 hF) fl_RX11_593 (FX.f26 hF) dX11_open_13 ?_
    refine lv_iload_n hx hb dX11_open_16 rfl (lv_at hl 2 rfl) ?_
    refine th_goi (th_runV (As := [.int xx]) (rest := []) C hS.1 (RX8, TX8, 4) rfl gV_RX11_431 (FX.f27 hF) (t_X8_has iz_xx (FX.f27 hF) (FX.f28 hF)) hl rfl rfl rfl rfl ⟨Nat.le_of_ble_eq_true rfl, Nat.le_of_ble_eq_true rfl⟩ (Nat.le_of_ble_eq_true rfl) ⟨Nat.le_of_ble_eq_true rfl, Nat.le_of_ble_eq_true rfl⟩ dX11_open_17) (fun r3822 hq3823 => ?_)
    refine th_if_eq (X := r3822.toInt) (tgt := 32) hx hb dX11_open_20 (by decide) rfl (fun c3824 => ?_) (fun c3824 => absurd c3824 (by omega))
    refine lv_iconst (v := 0) hx hb dX11_open_32 (by decide) ?_
    exact th_retz C (by have hfin := li_0; omega) (by have hfin := li_0; omega) dX11_open_33
