set_option maxHeartbeats 400000 in
set_option maxRecDepth 100000 in
theorem t_X12_cover {l : Launch} {D : va_G} {dA : Nat → ClassId} {K : Kmap} {V : Vmap} {sz : Nat} {x : Nat} {se1 mo n : Int32} {se1_i mo_i n_i : Int} (iz_se1 : se1.toInt = se1_i) (iz_mo : mo.toInt = mo_i) (iz_n : n.toInt = n_i) (F : FM K V x) : Met l yX12_cover (wsOf yX12_cover cX12_cover 4 (some .boolean)) { frames := 1, cells := 0, slots := 0, locals := 22 } (PC D dA K V sz [.ref x, .int se1, .int mo, .int n]) (HQi D dA K (fun r K1 V1 => ((((0 ≤ se1_i ∧ se1_i ≤ 3) ∧ (0 ≤ mo_i ∧ mo_i ≤ 11) ∧ (0 ≤ n_i ∧ n_i ≤ 100)) ∧ r.toInt = 1) ∨ (((0 > se1_i ∨ se1_i > 3) ∨ (0 > mo_i ∨ mo_i > 11) ∨ (0 > n_i ∨ n_i > 100)) ∧ r.toInt = 0)))) 0 0 (AK K sz) := by
  refine th_body (by decide +kernel) (Nat.le_of_ble_eq_true rfl) (fun pZ eZ sZ mZ belowZ methZ cZ C hR hsz hnm ls hl => ?_)
  have C : CX pZ sZ mZ [.ref x, .int se1, .int mo, .int n].toArray methZ cZ cX12_cover 4 (some .boolean) RX12 D dA := C
  have hx := C.1; have hb := C.2.1
  have hl : lv_has ls 4 [(0, .ref x), (1, .int se1), (2, .int mo), (3, .int n)] := hl
  subst hsz
  have hS : ST D dA K sZ.heap K V sZ.heap [] := ST.rf hR
  have r_se1 := th_rng se1; rw [iz_se1] at r_se1
  have r_mo := th_rng mo; rw [iz_mo] at r_mo
  have r_n := th_rng n; rw [iz_n] at r_n
  have F0 := F
  obtain ⟨f105, hv_f105, hk_f105⟩ := F.2.1 (105, (1, 48)) (by decide)
  refine lv_iload_n hx hb dX12_cover_0 rfl (lv_at hl 1 rfl) ?_
  refine th_goi (th_runS (As := [.int se1]) (rest := []) C hS.1 gS_RX12_615 (t_X12_isSea iz_se1) hl rfl rfl rfl rfl ⟨Nat.le_of_ble_eq_true rfl, Nat.le_of_ble_eq_true rfl⟩ (Nat.le_of_ble_eq_true rfl) ⟨Nat.le_of_ble_eq_true rfl, Nat.le_of_ble_eq_true rfl⟩ dX12_cover_1) (fun r4291 hq4292 => ?_)
  refine th_if_eq (X := r4291.toInt) (tgt := 27) hx hb dX12_cover_4 (by decide) rfl (fun c4293 => ?_) (fun c4293 => ?_)
  · replace hq4292 := Or.resolve_left hq4292 (fun h => absurd h.2 (by omega))
    refine lv_iconst (v := 0) hx hb dX12_cover_27 (by decide) ?_
    exact th_retzH (post := fun r K1 V1 => ((((0 ≤ se1_i ∧ se1_i ≤ 3) ∧ (0 ≤ mo_i ∧ mo_i ≤ 11) ∧ (0 ≤ n_i ∧ n_i ≤ 100)) ∧ r.toInt = 1) ∨ (((0 > se1_i ∨ se1_i > 3) ∨ (0 > mo_i ∨ mo_i > 11) ∨ (0 > n_i ∨ n_i > 100)) ∧ r.toInt = 0))) (cells := 0) (slots := 0) (mc := 0) (ms := 0) C hS (by have hfin := li_0; omega) (Or.inr (⟨by omega, li_0⟩)) (Nat.le_of_ble_eq_true rfl) (Nat.le_of_ble_eq_true rfl) dX12_cover_28
  · replace hq4292 := Or.resolve_right hq4292 (fun h => absurd h.2 (by omega))
    refine lv_iload_n hx hb dX12_cover_7 rfl (lv_at hl 2 rfl) ?_
    refine lv_iconst (v := 0) hx hb dX12_cover_8 (by decide) ?_
    refine lv_bipush (v := 11) hx hb dX12_cover_9 (by decide) ?_
    refine th_goi (th_runS (As := [.int mo, .int 0, .int 11]) (rest := []) C hS.1 gS_RX12_371 (t_X12_in iz_mo li_0 li_11) hl rfl rfl rfl rfl ⟨Nat.le_of_ble_eq_true rfl, Nat.le_of_ble_eq_true rfl⟩ (Nat.le_of_ble_eq_true rfl) ⟨Nat.le_of_ble_eq_true rfl, Nat.le_of_ble_eq_true rfl⟩ dX12_cover_11) (fun r4294 hq4295 => ?_)
    refine th_if_eq (X := r4294.toInt) (tgt := 27) hx hb dX12_cover_14 (by decide) rfl (fun c4296 => ?_) (fun c4296 => ?_)
    · replace hq4295 := Or.resolve_left hq4295 (fun h => absurd h.2 (by omega))
      refine lv_iconst (v := 0) hx hb dX12_cover_27 (by decide) ?_
      exact th_retzH (post := fun r K1 V1 => ((((0 ≤ se1_i ∧ se1_i ≤ 3) ∧ (0 ≤ mo_i ∧ mo_i ≤ 11) ∧ (0 ≤ n_i ∧ n_i ≤ 100)) ∧ r.toInt = 1) ∨ (((0 > se1_i ∨ se1_i > 3) ∨ (0 > mo_i ∨ mo_i > 11) ∨ (0 > n_i ∨ n_i > 100)) ∧ r.toInt = 0))) (cells := 0) (slots := 0) (mc := 0) (ms := 0) C hS (by have hfin := li_0; omega) (Or.inr (⟨by omega, li_0⟩)) (Nat.le_of_ble_eq_true rfl) (Nat.le_of_ble_eq_true rfl) dX12_cover_28
    · replace hq4295 := Or.resolve_right hq4295 (fun h => absurd h.2 (by omega))
      refine lv_iload_n hx hb dX12_cover_17 rfl (lv_at hl 3 rfl) ?_
      refine lv_iconst (v := 0) hx hb dX12_cover_18 (by decide) ?_
      refine lv_bipush (v := 100) hx hb dX12_cover_19 (by decide) ?_
      refine th_goi (th_runS (As := [.int n, .int 0, .int 100]) (rest := []) C hS.1 gS_RX12_371 (t_X12_in iz_n li_0 li_100) hl rfl rfl rfl rfl ⟨Nat.le_of_ble_eq_true rfl, Nat.le_of_ble_eq_true rfl⟩ (Nat.le_of_ble_eq_true rfl) ⟨Nat.le_of_ble_eq_true rfl, Nat.le_of_ble_eq_true rfl⟩ dX12_cover_21) (fun r4297 hq4298 => ?_)
      refine th_if_ne (X := r4297.toInt) (tgt := 29) hx hb dX12_cover_24 (by decide) rfl (fun c4299 => ?_) (fun c4299 => ?_)
      · replace hq4298 := Or.resolve_right hq4298 (fun h => absurd h.2 (by omega))
        refine lv_aload_n hx hb dX12_cover_29 rfl (lv_at hl 0 rfl) ?_
        refine th_get C hS.1 F.1 fl_RX12_241 hv_f105 dX12_cover_30 ?_
        refine lv_bipush (v := 12) hx hb dX12_cover_33 (by decide) ?_
        refine lv_iload_n hx hb dX12_cover_35 rfl (lv_at hl 1 rfl) ?_
        refine lv_imul hx hb dX12_cover_36 ?_
        refine th_top (X := (12 * se1_i)) (th_mul li_12 iz_se1 (by omega) (by omega)) (fun z4300 hz4300 => ?_)
        refine lv_iload_n hx hb dX12_cover_37 rfl (lv_at hl 2 rfl) ?_
        refine lv_iadd hx hb dX12_cover_38 ?_
        refine th_top (X := ((12 * se1_i) + mo_i)) (th_add hz4300 iz_mo (by omega) (by omega)) (fun z4301 hz4301 => ?_)
        refine lv_iload_n hx hb dX12_cover_39 rfl (lv_at hl 3 rfl) ?_
        refine th_iast C hS hk_f105 (by rw [hz4301]; omega) (by rw [hz4301]; omega) dX12_cover_40 (fun V4302 H locs1 hV4303 hS => ?_)
        refine lv_iconst (v := 1) hx hb dX12_cover_41 (by decide) ?_
        exact th_retzH (post := fun r K1 V1 => ((((0 ≤ se1_i ∧ se1_i ≤ 3) ∧ (0 ≤ mo_i ∧ mo_i ≤ 11) ∧ (0 ≤ n_i ∧ n_i ≤ 100)) ∧ r.toInt = 1) ∨ (((0 > se1_i ∨ se1_i > 3) ∨ (0 > mo_i ∨ mo_i > 11) ∨ (0 > n_i ∨ n_i > 100)) ∧ r.toInt = 0))) (cells := 0) (slots := 0) (mc := 0) (ms := 0) C hS (by have hfin := li_1; omega) (Or.inl ⟨by omega, li_1⟩) (Nat.le_of_ble_eq_true rfl) (Nat.le_of_ble_eq_true rfl) dX12_cover_42
      · replace hq4298 := Or.resolve_left hq4298 (fun h => absurd h.2 (by omega))
        refine lv_iconst (v := 0) hx hb dX12_cover_27 (by decide) ?_
        exact th_retzH (post := fun r K1 V1 => ((((0 ≤ se1_i ∧ se1_i ≤ 3) ∧ (0 ≤ mo_i ∧ mo_i ≤ 11) ∧ (0 ≤ n_i ∧ n_i ≤ 100)) ∧ r.toInt = 1) ∨ (((0 > se1_i ∨ se1_i > 3) ∨ (0 > mo_i ∨ mo_i > 11) ∨ (0 > n_i ∨ n_i > 100)) ∧ r.toInt = 0))) (cells := 0) (slots := 0) (mc := 0) (ms := 0) C hS (by have hfin := li_0; omega) (Or.inr (⟨by omega, li_0⟩)) (Nat.le_of_ble_eq_true rfl) (Nat.le_of_ble_eq_true rfl) dX12_cover_28

set_option maxHeartbeats 400000 in
set_option maxRecDepth 100000 in
theorem t_X12_sea {l : Launch} {D : va_G} {dA : Nat → ClassId} {K : Kmap} {V : Vmap} {sz : Nat} {x : Nat} {se1 dy : Int32} {se1_i dy_i : Int} (iz_se1 : se1.toInt = se1_i) (iz_dy : dy.toInt = dy_i) (F : FM K V x) : Met l yX12_sea (wsOf yX12_sea cX12_sea 3 (some .boolean)) { frames := 1, cells := 0, slots := 0, locals := 22 } (PC D dA K V sz [.ref x, .int se1, .int dy]) (HQi D dA K (fun r K1 V1 => ((((0 ≤ se1_i ∧ se1_i ≤ 3) ∧ (1 ≤ dy_i ∧ dy_i ≤ 90)) ∧ r.toInt = 1) ∨ (((0 > se1_i ∨ se1_i > 3) ∨ (1 > dy_i ∨ dy_i > 90)) ∧ r.toInt = 0)))) 0 0 (AK K sz) := by
  refine th_body (by decide +kernel) (Nat.le_of_ble_eq_true rfl) (fun pZ eZ sZ mZ belowZ methZ cZ C hR hsz hnm ls hl => ?_)
  have C : CX pZ sZ mZ [.ref x, .int se1, .int dy].toArray methZ cZ cX12_sea 3 (some .boolean) RX12 D dA := C
  have hx := C.1; have hb := C.2.1
  have hl : lv_has ls 3 [(0, .ref x), (1, .int se1), (2, .int dy)] := hl
  subst hsz
  have hS : ST D dA K sZ.heap K V sZ.heap [] := ST.rf hR
  have r_se1 := th_rng se1; rw [iz_se1] at r_se1
  have r_dy := th_rng dy; rw [iz_dy] at r_dy
  have F0 := F
  obtain ⟨f106, hv_f106, hk_f106⟩ := F.2.1 (106, (1, 4)) (by decide)
  refine lv_iload_n hx hb dX12_sea_0 rfl (lv_at hl 1 rfl) ?_
  refine th_goi (th_runS (As := [.int se1]) (rest := []) C hS.1 gS_RX12_615 (t_X12_isSea iz_se1) hl rfl rfl rfl rfl ⟨Nat.le_of_ble_eq_true rfl, Nat.le_of_ble_eq_true rfl⟩ (Nat.le_of_ble_eq_true rfl) ⟨Nat.le_of_ble_eq_true rfl, Nat.le_of_ble_eq_true rfl⟩ dX12_sea_1) (fun r4304 hq4305 => ?_)
  refine th_if_eq (X := r4304.toInt) (tgt := 17) hx hb dX12_sea_4 (by decide) rfl (fun c4306 => ?_) (fun c4306 => ?_)
  · replace hq4305 := Or.resolve_left hq4305 (fun h => absurd h.2 (by omega))
    refine lv_iconst (v := 0) hx hb dX12_sea_17 (by decide) ?_
    exact th_retzH (post := fun r K1 V1 => ((((0 ≤ se1_i ∧ se1_i ≤ 3) ∧ (1 ≤ dy_i ∧ dy_i ≤ 90)) ∧ r.toInt = 1) ∨ (((0 > se1_i ∨ se1_i > 3) ∨ (1 > dy_i ∨ dy_i > 90)) ∧ r.toInt = 0))) (cells := 0) (slots := 0) (mc := 0) (ms := 0) C hS (by have hfin := li_0; omega) (Or.inr (⟨by omega, li_0⟩)) (Nat.le_of_ble_eq_true rfl) (Nat.le_of_ble_eq_true rfl) dX12_sea_18
  · replace hq4305 := Or.resolve_right hq4305 (fun h => absurd h.2 (by omega))
    refine lv_iload_n hx hb dX12_sea_7 rfl (lv_at hl 2 rfl) ?_
    refine lv_iconst (v := 1) hx hb dX12_sea_8 (by decide) ?_
    refine lv_bipush (v := 90) hx hb dX12_sea_9 (by decide) ?_
    refine th_goi (th_runS (As := [.int dy, .int 1, .int 90]) (rest := []) C hS.1 gS_RX12_371 (t_X12_in iz_dy li_1 li_90) hl rfl rfl rfl rfl ⟨Nat.le_of_ble_eq_true rfl, Nat.le_of_ble_eq_true rfl⟩ (Nat.le_of_ble_eq_true rfl) ⟨Nat.le_of_ble_eq_true rfl, Nat.le_of_ble_eq_true rfl⟩ dX12_sea_11) (fun r4307 hq4308 => ?_)
    refine th_if_ne (X := r4307.toInt) (tgt := 19) hx hb dX12_sea_14 (by decide) rfl (fun c4309 => ?_) (fun c4309 => ?_)
    · replace hq4308 := Or.resolve_right hq4308 (fun h => absurd h.2 (by omega))
      refine lv_aload_n hx hb dX12_sea_19 rfl (lv_at hl 0 rfl) ?_
      refine th_get C hS.1 F.1 fl_RX12_244 hv_f106 dX12_sea_20 ?_
      refine lv_iload_n hx hb dX12_sea_23 rfl (lv_at hl 1 rfl) ?_
      refine lv_iload_n hx hb dX12_sea_24 rfl (lv_at hl 2 rfl) ?_
      refine th_iast C hS hk_f106 (by rw [iz_se1]; omega) (by rw [iz_se1]; omega) dX12_sea_25 (fun V4310 H locs1 hV4311 hS => ?_)
      refine lv_iconst (v := 1) hx hb dX12_sea_26 (by decide) ?_
      exact th_retzH (post := fun r K1 V1 => ((((0 ≤ se1_i ∧ se1_i ≤ 3) ∧ (1 ≤ dy_i ∧ dy_i ≤ 90)) ∧ r.toInt = 1) ∨ (((0 > se1_i ∨ se1_i > 3) ∨ (1 > dy_i ∨ dy_i > 90)) ∧ r.toInt = 0))) (cells := 0) (slots := 0) (mc := 0) (ms := 0) C hS (by have hfin := li_1; omega) (Or.inl ⟨by omega, li_1⟩) (Nat.le_of_ble_eq_true rfl) (Nat.le_of_ble_eq_true rfl) dX12_sea_27
    · replace hq4308 := Or.resolve_left hq4308 (fun h => absurd h.2 (by omega))
      refine lv_iconst (v := 0) hx hb dX12_sea_17 (by decide) ?_
      exact th_retzH (post := fun r K1 V1 => ((((0 ≤ se1_i ∧ se1_i ≤ 3) ∧ (1 ≤ dy_i ∧ dy_i ≤ 90)) ∧ r.toInt = 1) ∨ (((0 > se1_i ∨ se1_i > 3) ∨ (1 > dy_i ∨ dy_i > 90)) ∧ r.toInt = 0))) (cells := 0) (slots := 0) (mc := 0) (ms := 0) C hS (by have hfin := li_0; omega) (Or.inr (⟨by omega, li_0⟩)) (Nat.le_of_ble_eq_true rfl) (Nat.le_of_ble_eq_true rfl) dX12_sea_18

set_option maxHeartbeats 400000 in
set_option maxRecDepth 100000 in
theorem t_X12_voyage {l : Launch} {D : va_G} {dA : Nat → ClassId} {K : Kmap} {V : Vmap} {sz : Nat} {x : Nat} {sh1 se1 sn dr : Int32} {sh1_i se1_i sn_i dr_i : Int} (iz_sh1 : sh1.toInt = sh1_i) (iz_se1 : se1.toInt = se1_i) (iz_sn : sn.toInt = sn_i) (iz_dr : dr.toInt = dr_i) (F : FM K V x) : Met l yX12_voyage (wsOf yX12_voyage cX12_voyage 5 (some .boolean)) { frames := 1, cells := 0, slots := 0, locals := 21 } (PC D dA K V sz [.ref x, .int sh1, .int se1, .int sn, .int dr]) (PQi (fun r => (r.toInt = 0))) 0 0 noFree := by
  refine th_body (by decide +kernel) (Nat.le_of_ble_eq_true rfl) (fun pZ eZ sZ mZ belowZ methZ cZ C hR hsz hnm ls hl => ?_)
  have C : CX pZ sZ mZ [.ref x, .int sh1, .int se1, .int sn, .int dr].toArray methZ cZ cX12_voyage 5 (some .boolean) RX12 D dA := C
  have hx := C.1; have hb := C.2.1
  have hl : lv_has ls 5 [(0, .ref x), (1, .int sh1), (2, .int se1), (3, .int sn), (4, .int dr)] := hl
  subst hsz
  have hS : ST D dA K sZ.heap K V sZ.heap [] := ST.rf hR
  have r_sh1 := th_rng sh1; rw [iz_sh1] at r_sh1
  have r_se1 := th_rng se1; rw [iz_se1] at r_se1
  have r_sn := th_rng sn; rw [iz_sn] at r_sn
  have r_dr := th_rng dr; rw [iz_dr] at r_dr
  have F0 := F
  refine lv_aload_n hx hb dX12_voyage_0 rfl (lv_at hl 0 rfl) ?_
  refine lv_iload_n hx hb dX12_voyage_1 rfl (lv_at hl 1 rfl) ?_
  refine th_goi (th_runV (As := [.int sh1]) (rest := []) C hS.1 (RX12, TX12, 151) rfl gV_RX12_618 F.1 (t_X12_isShip iz_sh1 F.1 (F.2.2.1 (91, 0) (by decide))) hl rfl rfl rfl rfl ⟨Nat.le_of_ble_eq_true rfl, Nat.le_of_ble_eq_true rfl⟩ (Nat.le_of_ble_eq_true rfl) ⟨Nat.le_of_ble_eq_true rfl, Nat.le_of_ble_eq_true rfl⟩ dX12_voyage_2) (fun r4312 hq4313 => ?_)
  refine th_if_eq (X := r4312.toInt) (tgt := 60) hx hb dX12_voyage_5 (by decide) rfl (fun c4314 => ?_) (fun c4314 => absurd c4314 (by omega))
  refine lv_iconst (v := 0) hx hb dX12_voyage_60 (by decide) ?_
  exact th_retz C (by have hfin := li_0; omega) (by have hfin := li_0; omega) dX12_voyage_61

set_option maxHeartbeats 400000 in
set_option maxRecDepth 100000 in
theorem t_X12_sledge {l : Launch} {D : va_G} {dA : Nat → ClassId} {K : Kmap} {V : Vmap} {sz : Nat} {x : Nat} {fr to dr : Int32} {fr_i to_i dr_i : Int} (iz_fr : fr.toInt = fr_i) (iz_to : to.toInt = to_i) (iz_dr : dr.toInt = dr_i) (F : FM K V x) : Met l yX12_sledge (wsOf yX12_sledge cX12_sledge 5 (some .int)) { frames := 3, cells := 0, slots := 0, locals := 64 } (PC D dA K V sz [.ref x, .int fr, .int to, .int dr]) (PQi (fun r => (r.toInt = (-1)))) 0 0 noFree := by
  refine th_body (by decide +kernel) (Nat.le_of_ble_eq_true rfl) (fun pZ eZ sZ mZ belowZ methZ cZ C hR hsz hnm ls hl => ?_)
  have C : CX pZ sZ mZ [.ref x, .int fr, .int to, .int dr].toArray methZ cZ cX12_sledge 5 (some .int) RX12 D dA := C
  have hx := C.1; have hb := C.2.1
  have hl : lv_has ls 5 [(0, .ref x), (1, .int fr), (2, .int to), (3, .int dr)] := hl
  subst hsz
  have hS : ST D dA K sZ.heap K V sZ.heap [] := ST.rf hR
  have r_fr := th_rng fr; rw [iz_fr] at r_fr
  have r_to := th_rng to; rw [iz_to] at r_to
  have r_dr := th_rng dr; rw [iz_dr] at r_dr
  have F0 := F
  refine lv_aload_n hx hb dX12_sledge_0 rfl (lv_at hl 0 rfl) ?_
  refine lv_iload_n hx hb dX12_sledge_1 rfl (lv_at hl 1 rfl) ?_
  refine th_goi (th_runV (As := [.int fr]) (rest := []) C hS.1 (RX12, TX12, 151) rfl gV_RX12_433 F.1 (t_X12_stands iz_fr F.1 (F.2.2.1 (10, 0) (by decide))) hl rfl rfl rfl rfl ⟨Nat.le_of_ble_eq_true rfl, Nat.le_of_ble_eq_true rfl⟩ (Nat.le_of_ble_eq_true rfl) ⟨Nat.le_of_ble_eq_true rfl, Nat.le_of_ble_eq_true rfl⟩ dX12_sledge_2) (fun r4315 hq4316 => ?_)
  refine th_if_eq (X := r4315.toInt) (tgt := 66) hx hb dX12_sledge_5 (by decide) rfl (fun c4317 => ?_) (fun c4317 => absurd c4317 (by omega))
  refine lv_iconst (v := (-1)) hx hb dX12_sledge_66 (by decide) ?_
  exact th_reti C (by have hfin := li_n1; omega) dX12_sledge_67

set_option maxHeartbeats 400000 in
set_option maxRecDepth 100000 in
theorem t_X12_people {l : Launch} {D : va_G} {dA : Nat → ClassId} {K : Kmap} {V : Vmap} {sz : Nat} {x : Nat} {k n : Int32} {k_i n_i : Int} (iz_k : k.toInt = k_i) (iz_n : n.toInt = n_i) (F : FM K V x) : Met l yX12_people (wsOf yX12_people cX12_people 3 (some .boolean)) { frames := 3, cells := 0, slots := 0, locals := 64 } (PC D dA K V sz [.ref x, .int k, .int n]) (PQi (fun r => (r.toInt = 0))) 0 0 noFree := by
  refine th_body (by decide +kernel) (Nat.le_of_ble_eq_true rfl) (fun pZ eZ sZ mZ belowZ methZ cZ C hR hsz hnm ls hl => ?_)
  have C : CX pZ sZ mZ [.ref x, .int k, .int n].toArray methZ cZ cX12_people 3 (some .boolean) RX12 D dA := C
  have hx := C.1; have hb := C.2.1
  have hl : lv_has ls 3 [(0, .ref x), (1, .int k), (2, .int n)] := hl
  subst hsz
  have hS : ST D dA K sZ.heap K V sZ.heap [] := ST.rf hR
  have r_k := th_rng k; rw [iz_k] at r_k
  have r_n := th_rng n; rw [iz_n] at r_n
  have F0 := F
  refine lv_aload_n hx hb dX12_people_0 rfl (lv_at hl 0 rfl) ?_
  refine lv_iload_n hx hb dX12_people_1 rfl (lv_at hl 1 rfl) ?_
  refine th_goi (th_runV (As := [.int k]) (rest := []) C hS.1 (RX12, TX12, 151) rfl gV_RX12_433 F.1 (t_X12_stands iz_k F.1 (F.2.2.1 (10, 0) (by decide))) hl rfl rfl rfl rfl ⟨Nat.le_of_ble_eq_true rfl, Nat.le_of_ble_eq_true rfl⟩ (Nat.le_of_ble_eq_true rfl) ⟨Nat.le_of_ble_eq_true rfl, Nat.le_of_ble_eq_true rfl⟩ dX12_people_2) (fun r4318 hq4319 => ?_)
  refine th_if_eq (X := r4318.toInt) (tgt := 39) hx hb dX12_people_5 (by decide) rfl (fun c4320 => ?_) (fun c4320 => absurd c4320 (by omega))
  refine lv_iconst (v := 0) hx hb dX12_people_39 (by decide) ?_
  exact th_retz C (by have hfin := li_0; omega) (by have hfin := li_0; omega) dX12_people_40

set_option maxHeartbeats 400000 in
set_option maxRecDepth 100000 in
theorem t_X12_hide {l : Launch} {D : va_G} {dA : Nat → ClassId} {K : Kmap} {V : Vmap} {sz : Nat} {x : Nat} {k n : Int32} {k_i n_i : Int} (iz_k : k.toInt = k_i) (iz_n : n.toInt = n_i) (F : FM K V x) : Met l yX12_hide (wsOf yX12_hide cX12_hide 3 (some .boolean)) { frames := 3, cells := 0, slots := 0, locals := 64 } (PC D dA K V sz [.ref x, .int k, .int n]) (PQi (fun r => (r.toInt = 0))) 0 0 noFree := by
  refine th_body (by decide +kernel) (Nat.le_of_ble_eq_true rfl) (fun pZ eZ sZ mZ belowZ methZ cZ C hR hsz hnm ls hl => ?_)
  have C : CX pZ sZ mZ [.ref x, .int k, .int n].toArray methZ cZ cX12_hide 3 (some .boolean) RX12 D dA := C
  have hx := C.1; have hb := C.2.1
  have hl : lv_has ls 3 [(0, .ref x), (1, .int k), (2, .int n)] := hl
  subst hsz
  have hS : ST D dA K sZ.heap K V sZ.heap [] := ST.rf hR
  have r_k := th_rng k; rw [iz_k] at r_k
  have r_n := th_rng n; rw [iz_n] at r_n
  have F0 := F
  refine lv_aload_n hx hb dX12_hide_0 rfl (lv_at hl 0 rfl) ?_
  refine lv_iload_n hx hb dX12_hide_1 rfl (lv_at hl 1 rfl) ?_
  refine th_goi (th_runV (As := [.int k]) (rest := []) C hS.1 (RX12, TX12, 151) rfl gV_RX12_433 F.1 (t_X12_stands iz_k F.1 (F.2.2.1 (10, 0) (by decide))) hl rfl rfl rfl rfl ⟨Nat.le_of_ble_eq_true rfl, Nat.le_of_ble_eq_true rfl⟩ (Nat.le_of_ble_eq_true rfl) ⟨Nat.le_of_ble_eq_true rfl, Nat.le_of_ble_eq_true rfl⟩ dX12_hide_2) (fun r4321 hq4322 => ?_)
  refine th_if_eq (X := r4321.toInt) (tgt := 29) hx hb dX12_hide_5 (by decide) rfl (fun c4323 => ?_) (fun c4323 => absurd c4323 (by omega))
  refine lv_iconst (v := 0) hx hb dX12_hide_29 (by decide) ?_
  exact th_retz C (by have hfin := li_0; omega) (by have hfin := li_0; omega) dX12_hide_30

set_option maxHeartbeats 400000 in
set_option maxRecDepth 100000 in
theorem t_X12_declare {l : Launch} {D : va_G} {dA : Nat → ClassId} {K : Kmap} {V : Vmap} {sz : Nat} {x : Nat} {k pe dr : Int32} {k_i pe_i dr_i : Int} (iz_k : k.toInt = k_i) (iz_pe : pe.toInt = pe_i) (iz_dr : dr.toInt = dr_i) (F : FM K V x) : Met l yX12_declare (wsOf yX12_declare cX12_declare 4 (some .boolean)) { frames := 2, cells := 0, slots := 0, locals := 43 } (PC D dA K V sz [.ref x, .int k, .int pe, .int dr]) (PQi (fun r => (r.toInt = 0))) 0 0 noFree := by
  refine th_body (by decide +kernel) (Nat.le_of_ble_eq_true rfl) (fun pZ eZ sZ mZ belowZ methZ cZ C hR hsz hnm ls hl => ?_)
  have C : CX pZ sZ mZ [.ref x, .int k, .int pe, .int dr].toArray methZ cZ cX12_declare 4 (some .boolean) RX12 D dA := C
  have hx := C.1; have hb := C.2.1
  have hl : lv_has ls 4 [(0, .ref x), (1, .int k), (2, .int pe), (3, .int dr)] := hl
  subst hsz
  have hS : ST D dA K sZ.heap K V sZ.heap [] := ST.rf hR
  have r_k := th_rng k; rw [iz_k] at r_k
  have r_pe := th_rng pe; rw [iz_pe] at r_pe
  have r_dr := th_rng dr; rw [iz_dr] at r_dr
  have F0 := F
  refine lv_aload_n hx hb dX12_declare_0 rfl (lv_at hl 0 rfl) ?_
  refine lv_iload_n hx hb dX12_declare_1 rfl (lv_at hl 1 rfl) ?_
  refine th_goi (th_runV (As := [.int k]) (rest := []) C hS.1 (RX12, TX12, 151) rfl gV_RX12_403 F.1 (t_X12_isStation iz_k F.1 (F.2.2.1 (10, 0) (by decide))) hl rfl rfl rfl rfl ⟨Nat.le_of_ble_eq_true rfl, Nat.le_of_ble_eq_true rfl⟩ (Nat.le_of_ble_eq_true rfl) ⟨Nat.le_of_ble_eq_true rfl, Nat.le_of_ble_eq_true rfl⟩ dX12_declare_2) (fun r4324 hq4325 => ?_)
  refine th_if_eq (X := r4324.toInt) (tgt := 30) hx hb dX12_declare_5 (by decide) rfl (fun c4326 => ?_) (fun c4326 => absurd c4326 (by omega))
  refine lv_iconst (v := 0) hx hb dX12_declare_30 (by decide) ?_
  exact th_retz C (by have hfin := li_0; omega) (by have hfin := li_0; omega) dX12_declare_31

set_option maxHeartbeats 400000 in
set_option maxRecDepth 100000 in
theorem t_X12_visit {l : Launch} {D : va_G} {dA : Nat → ClassId} {K : Kmap} {V : Vmap} {sz : Nat} {x : Nat} {p k : Int32} {p_i k_i : Int} (iz_p : p.toInt = p_i) (iz_k : k.toInt = k_i) (F : FM K V x) : Met l yX12_visit (wsOf yX12_visit cX12_visit 3 (some .int)) { frames := 1, cells := 0, slots := 0, locals := 21 } (PC D dA K V sz [.ref x, .int p, .int k]) (PQi (fun r => (r.toInt = (-1)))) 0 0 noFree := by
  refine th_body (by decide +kernel) (Nat.le_of_ble_eq_true rfl) (fun pZ eZ sZ mZ belowZ methZ cZ C hR hsz hnm ls hl => ?_)
  have C : CX pZ sZ mZ [.ref x, .int p, .int k].toArray methZ cZ cX12_visit 3 (some .int) RX12 D dA := C
  have hx := C.1; have hb := C.2.1
  have hl : lv_has ls 3 [(0, .ref x), (1, .int p), (2, .int k)] := hl
  subst hsz
  have hS : ST D dA K sZ.heap K V sZ.heap [] := ST.rf hR
  have r_p := th_rng p; rw [iz_p] at r_p
  have r_k := th_rng k; rw [iz_k] at r_k
  have F0 := F
  refine lv_aload_n hx hb dX12_visit_0 rfl (lv_at hl 0 rfl) ?_
  refine lv_iload_n hx hb dX12_visit_1 rfl (lv_at hl 1 rfl) ?_
  refine th_goi (th_runV (As := [.int p]) (rest := []) C hS.1 (RX12, TX12, 151) rfl gV_RX12_406 F.1 (t_X12_isParty iz_p F.1 (F.2.2.1 (9, 0) (by decide))) hl rfl rfl rfl rfl ⟨Nat.le_of_ble_eq_true rfl, Nat.le_of_ble_eq_true rfl⟩ (Nat.le_of_ble_eq_true rfl) ⟨Nat.le_of_ble_eq_true rfl, Nat.le_of_ble_eq_true rfl⟩ dX12_visit_2) (fun r4327 hq4328 => ?_)
  refine th_if_eq (X := r4327.toInt) (tgt := 47) hx hb dX12_visit_5 (by decide) rfl (fun c4329 => ?_) (fun c4329 => absurd c4329 (by omega))
  refine lv_iconst (v := (-1)) hx hb dX12_visit_47 (by decide) ?_
  exact th_reti C (by have hfin := li_n1; omega) dX12_visit_48

set_option maxHeartbeats 400000 in
set_option maxRecDepth 100000 in
theorem t_X12_seen {l : Launch} {D : va_G} {dA : Nat → ClassId} {K : Kmap} {V : Vmap} {sz : Nat} {x : Nat} {v wh : Int32} {v_i wh_i : Int} (iz_v : v.toInt = v_i) (iz_wh : wh.toInt = wh_i) (F : FM K V x) : Met l yX12_seen (wsOf yX12_seen cX12_seen 3 (some .int)) { frames := 0, cells := 0, slots := 0, locals := 0 } (PC D dA K V sz [.ref x, .int v, .int wh]) (PQi (fun r => (r.toInt = (-1000000)))) 0 0 noFree := by
  refine th_body (by decide +kernel) (Nat.le_of_ble_eq_true rfl) (fun pZ eZ sZ mZ belowZ methZ cZ C hR hsz hnm ls hl => ?_)
  have C : CX pZ sZ mZ [.ref x, .int v, .int wh].toArray methZ cZ cX12_seen 3 (some .int) RX12 D dA := C
  have hx := C.1; have hb := C.2.1
  have hl : lv_has ls 3 [(0, .ref x), (1, .int v), (2, .int wh)] := hl
  subst hsz
  have hS : ST D dA K sZ.heap K V sZ.heap [] := ST.rf hR
  have r_v := th_rng v; rw [iz_v] at r_v
  have r_wh := th_rng wh; rw [iz_wh] at r_wh
  have F0 := F
  refine lv_iload_n hx hb dX12_seen_0 rfl (lv_at hl 1 rfl) ?_
  refine th_if_lt (X := v_i) (tgt := 12) hx hb dX12_seen_1 (by decide) iz_v (fun c4330 => ?_) (fun c4330 => ?_)
  · refine lv_ldcw (v := (-1000000)) hx hb C.2.2.2.2.2.1 (C.2.2.2.2.2.2.1 _ gw_2322) dX12_seen_12 ?_
    exact th_reti C (by have hfin := li_n1000000; omega) dX12_seen_15
  · refine lv_iload_n hx hb dX12_seen_4 rfl (lv_at hl 1 rfl) ?_
    refine lv_aload_n hx hb dX12_seen_5 rfl (lv_at hl 0 rfl) ?_
    refine th_get C hS.1 F.1 fl_RX12_660 (F.2.2.1 (93, 0) (by decide)) dX12_seen_6 ?_
    refine th_icmp_lt (X := v_i) (Y := 0) (tgt := 16) hx hb dX12_seen_9 (by decide) iz_v li_0 (fun c4331 => absurd c4331 (by omega)) (fun c4331 => ?_)
    refine lv_ldcw (v := (-1000000)) hx hb C.2.2.2.2.2.1 (C.2.2.2.2.2.2.1 _ gw_2322) dX12_seen_12 ?_
    exact th_reti C (by have hfin := li_n1000000; omega) dX12_seen_15

set_option maxHeartbeats 400000 in
set_option maxRecDepth 100000 in
theorem t_X12_day {l : Launch} {D : va_G} {dA : Nat → ClassId} {K : Kmap} {V : Vmap} {sz : Nat} {x : Nat} (F : FM K V x) : Met l yX12_day (wsOf yX12_day cX12_day 2 (some .int)) { frames := 1, cells := 0, slots := 0, locals := 22 } (PC D dA K V sz [.ref x]) (HQi D dA K (fun r K1 V1 => ((r.toInt = 1)))) 0 0 (AK K sz) := by
  refine th_body (by decide +kernel) (Nat.le_of_ble_eq_true rfl) (fun pZ eZ sZ mZ belowZ methZ cZ C hR hsz hnm ls hl => ?_)
  have C : CX pZ sZ mZ [.ref x].toArray methZ cZ cX12_day 2 (some .int) RX12 D dA := C
  have hx := C.1; have hb := C.2.1
  have hl : lv_has ls 2 [(0, .ref x)] := hl
  subst hsz
  have hS : ST D dA K sZ.heap K V sZ.heap [] := ST.rf hR
  have F0 := F
  refine lv_aload_n hx hb dX12_day_0 rfl (lv_at hl 0 rfl) ?_
  refine th_get C hS.1 F.1 fl_RX12_396 (F.2.2.1 (2, 0) (by decide)) dX12_day_1 ?_
  refine lv_sipush (v := 3599) hx hb dX12_day_4 (by decide) ?_
  refine th_icmp_ne (X := 0) (Y := 3599) (tgt := 12) hx hb dX12_day_7 (by decide) li_0 li_3599 (fun c4332 => ?_) (fun c4332 => absurd c4332 (by omega))
  refine lv_aload_n hx hb dX12_day_12 rfl (lv_at hl 0 rfl) ?_
  refine lv_aload_n hx hb dX12_day_13 rfl (lv_at hl 0 rfl) ?_
  refine th_get C hS.1 F.1 fl_RX12_396 (F.2.2.1 (2, 0) (by decide)) dX12_day_14 ?_
  refine lv_iconst (v := 1) hx hb dX12_day_17 (by decide) ?_
  refine lv_iadd hx hb dX12_day_18 ?_
  refine th_is (w := .int 1) (by decide) ?_
  refine th_put C hS F.1 fp_RX12_396 rfl rfl dX12_day_19 (fun V4333 H locs1 hV4334 hS => ?_)
  refine lv_aload_n hx hb dX12_day_22 rfl (lv_at hl 0 rfl) ?_
  have hv4335 : V4333 x 66 = .int 0 := Eq.trans (uq_ne hV4334 (Or.inr (by decide))) (F.2.2.1 (66, 0) (by decide))
  have hv4336 : V4333 x 9 = .int 0 := Eq.trans (uq_ne hV4334 (Or.inr (by decide))) (F.2.2.1 (9, 0) (by decide))
  refine th_gov (th_runV (As := []) (rest := []) C hS.1 (RX12, TX12, 151) rfl gV_RX12_688 F.1 (t_X12_worksGo F.1 hv4335 hv4336) hl rfl rfl rfl rfl ⟨Nat.le_of_ble_eq_true rfl, Nat.le_of_ble_eq_true rfl⟩ (Nat.le_of_ble_eq_true rfl) ⟨Nat.le_of_ble_eq_true rfl, Nat.le_of_ble_eq_true rfl⟩ dX12_day_23) ?_
  refine lv_iconst (v := 0) hx hb dX12_day_26 (by decide) ?_
  refine lv_istore_n (lv' := [(1, .int 0), (0, .ref x)]) hx hb dX12_day_27 rfl hl (by decide) rfl (fun ls hl => ?_)
  refine lv_iload_n hx hb dX12_day_28 rfl (lv_at hl 0 rfl) ?_
  refine lv_aload_n hx hb dX12_day_29 rfl (lv_at hl 1 rfl) ?_
  have hv4339 : V4333 x 10 = .int 0 := Eq.trans (uq_ne hV4334 (Or.inr (by decide))) (F.2.2.1 (10, 0) (by decide))
  refine th_get C hS.1 F.1 fl_RX12_375 hv4339 dX12_day_30 ?_
  refine th_icmp_ge (X := 0) (Y := 0) (tgt := 63) hx hb dX12_day_33 (by decide) li_0 li_0 (fun c4340 => ?_) (fun c4340 => absurd c4340 (by omega))
  refine lv_iconst (v := 0) hx hb dX12_day_63 (by decide) ?_
  refine lv_istore_n (lv' := [(1, .int 0), (0, .ref x)]) hx hb dX12_day_64 rfl hl (by decide) rfl (fun ls hl => ?_)
  refine lv_iload_n hx hb dX12_day_65 rfl (lv_at hl 0 rfl) ?_
  refine lv_aload_n hx hb dX12_day_66 rfl (lv_at hl 1 rfl) ?_
  have hv4341 : V4333 x 91 = .int 0 := Eq.trans (uq_ne hV4334 (Or.inr (by decide))) (F.2.2.1 (91, 0) (by decide))
  refine th_get C hS.1 F.1 fl_RX12_612 hv4341 dX12_day_67 ?_
  refine th_icmp_ge (X := 0) (Y := 0) (tgt := 84) hx hb dX12_day_70 (by decide) li_0 li_0 (fun c4342 => ?_) (fun c4342 => absurd c4342 (by omega))
  refine lv_iconst (v := 0) hx hb dX12_day_84 (by decide) ?_
  refine lv_istore_n (lv' := [(1, .int 0), (0, .ref x)]) hx hb dX12_day_85 rfl hl (by decide) rfl (fun ls hl => ?_)
  refine lv_iload_n hx hb dX12_day_86 rfl (lv_at hl 0 rfl) ?_
  refine lv_aload_n hx hb dX12_day_87 rfl (lv_at hl 1 rfl) ?_
  have hv4343 : V4333 x 92 = .int 0 := Eq.trans (uq_ne hV4334 (Or.inr (by decide))) (F.2.2.1 (92, 0) (by decide))
  refine th_get C hS.1 F.1 fl_RX12_648 hv4343 dX12_day_88 ?_
  refine th_icmp_ge (X := 0) (Y := 0) (tgt := 105) hx hb dX12_day_91 (by decide) li_0 li_0 (fun c4344 => ?_) (fun c4344 => absurd c4344 (by omega))
  refine lv_aload_n hx hb dX12_day_105 rfl (lv_at hl 1 rfl) ?_
  refine th_get C hS.1 F.1 fl_RX12_396 (uq_same hV4334) dX12_day_106 ?_
  exact th_retiH (post := fun r K1 V1 => ((r.toInt = 1))) (cells := 0) (slots := 0) (mc := 0) (ms := 0) C hS (by have hfin := li_1; omega) (Nat.le_of_ble_eq_true rfl) (Nat.le_of_ble_eq_true rfl) dX12_day_109

set_option maxHeartbeats 400000 in
set_option maxRecDepth 100000 in
theorem t_X12_sound {l : Launch} {D : va_G} {dA : Nat → ClassId} {K : Kmap} {V : Vmap} {sz : Nat} {x : Nat} {k de wr : Int32} {k_i de_i wr_i : Int} (iz_k : k.toInt = k_i) (iz_de : de.toInt = de_i) (iz_wr : wr.toInt = wr_i) (F : FM K V x) : Met l yX12_sound (wsOf yX12_sound cX12_sound 4 (some .boolean)) { frames := 1, cells := 0, slots := 0, locals := 22 } (PC D dA K V sz [.ref x, .int k, .int de, .int wr]) (PQi (fun r => (r.toInt = 0))) 0 0 noFree := by
  refine th_body (by decide +kernel) (Nat.le_of_ble_eq_true rfl) (fun pZ eZ sZ mZ belowZ methZ cZ C hR hsz hnm ls hl => ?_)
  have C : CX pZ sZ mZ [.ref x, .int k, .int de, .int wr].toArray methZ cZ cX12_sound 4 (some .boolean) RX12 D dA := C
  have hx := C.1; have hb := C.2.1
  have hl : lv_has ls 4 [(0, .ref x), (1, .int k), (2, .int de), (3, .int wr)] := hl
  subst hsz
  have hS : ST D dA K sZ.heap K V sZ.heap [] := ST.rf hR
  have r_k := th_rng k; rw [iz_k] at r_k
  have r_de := th_rng de; rw [iz_de] at r_de
  have r_wr := th_rng wr; rw [iz_wr] at r_wr
  have F0 := F
  refine lv_aload_n hx hb dX12_sound_0 rfl (lv_at hl 0 rfl) ?_
  refine lv_iload_n hx hb dX12_sound_1 rfl (lv_at hl 1 rfl) ?_
  refine lv_iconst (v := 4) hx hb dX12_sound_2 (by decide) ?_
  refine th_goi (th_runV (As := [.int k, .int 4]) (rest := []) C hS.1 (RX12, TX12, 151) rfl gV_RX12_399 F.1 (t_X12_isPlace iz_k li_4 F.1 (F.2.2.1 (10, 0) (by decide))) hl rfl rfl rfl rfl ⟨Nat.le_of_ble_eq_true rfl, Nat.le_of_ble_eq_true rfl⟩ (Nat.le_of_ble_eq_true rfl) ⟨Nat.le_of_ble_eq_true rfl, Nat.le_of_ble_eq_true rfl⟩ dX12_sound_3) (fun r4345 hq4346 => ?_)
  refine th_if_eq (X := r4345.toInt) (tgt := 42) hx hb dX12_sound_6 (by decide) rfl (fun c4347 => ?_) (fun c4347 => absurd c4347 (by omega))
  refine lv_iconst (v := 0) hx hb dX12_sound_42 (by decide) ?_
  exact th_retz C (by have hfin := li_0; omega) (by have hfin := li_0; omega) dX12_sound_43

set_option maxHeartbeats 400000 in
set_option maxRecDepth 100000 in
theorem t_X12_sure {l : Launch} {D : va_G} {dA : Nat → ClassId} {K : Kmap} {V : Vmap} {sz : Nat} {x : Nat} {k : Int32} {k_i : Int} (iz_k : k.toInt = k_i) (F : FM K V x) : Met l yX12_sure (wsOf yX12_sure cX12_sure 2 (some .int)) { frames := 1, cells := 0, slots := 0, locals := 22 } (PC D dA K V sz [.ref x, .int k]) (PQi (fun r => (r.toInt = (-1)))) 0 0 noFree := by
  refine th_body (by decide +kernel) (Nat.le_of_ble_eq_true rfl) (fun pZ eZ sZ mZ belowZ methZ cZ C hR hsz hnm ls hl => ?_)
  have C : CX pZ sZ mZ [.ref x, .int k].toArray methZ cZ cX12_sure 2 (some .int) RX12 D dA := C
  have hx := C.1; have hb := C.2.1
  have hl : lv_has ls 2 [(0, .ref x), (1, .int k)] := hl
  subst hsz
  have hS : ST D dA K sZ.heap K V sZ.heap [] := ST.rf hR
  have r_k := th_rng k; rw [iz_k] at r_k
  have F0 := F
  refine lv_aload_n hx hb dX12_sure_0 rfl (lv_at hl 0 rfl) ?_
  refine lv_iload_n hx hb dX12_sure_1 rfl (lv_at hl 1 rfl) ?_
  refine lv_iconst (v := 4) hx hb dX12_sure_2 (by decide) ?_
  refine th_goi (th_runV (As := [.int k, .int 4]) (rest := []) C hS.1 (RX12, TX12, 151) rfl gV_RX12_399 F.1 (t_X12_isPlace iz_k li_4 F.1 (F.2.2.1 (10, 0) (by decide))) hl rfl rfl rfl rfl ⟨Nat.le_of_ble_eq_true rfl, Nat.le_of_ble_eq_true rfl⟩ (Nat.le_of_ble_eq_true rfl) ⟨Nat.le_of_ble_eq_true rfl, Nat.le_of_ble_eq_true rfl⟩ dX12_sure_3) (fun r4348 hq4349 => ?_)
  refine th_if_eq (X := r4348.toInt) (tgt := 17) hx hb dX12_sure_6 (by decide) rfl (fun c4350 => ?_) (fun c4350 => absurd c4350 (by omega))
  refine lv_iconst (v := (-1)) hx hb dX12_sure_17 (by decide) ?_
  exact th_reti C (by have hfin := li_n1; omega) dX12_sure_18
