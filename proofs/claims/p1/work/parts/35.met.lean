set_option maxHeartbeats 400000 in
set_option maxRecDepth 100000 in
theorem t_X12_dark {l : Launch} {D : va_G} {dA : Nat → ClassId} {K : Kmap} {V : Vmap} {sz : Nat} {x : Nat} {a b : Int32} {a_i b_i : Int} (iz_a : a.toInt = a_i) (iz_b : b.toInt = b_i) (F : FM K V x) : Met l yX12_dark (wsOf yX12_dark cX12_dark 3 (some .boolean)) { frames := 1, cells := 0, slots := 0, locals := 22 } (PC D dA K V sz [.ref x, .int a, .int b]) (HQi D dA K (fun r K1 V1 => (((0 ≤ a_i ∧ a_i ≤ b_i ∧ b_i < 360) ∧ r.toInt = 1) ∨ ((0 > a_i ∨ a_i > b_i ∨ b_i ≥ 360) ∧ r.toInt = 0)))) 0 0 (AK K sz) := by
  refine th_body (by decide +kernel) (Nat.le_of_ble_eq_true rfl) (fun pZ eZ sZ mZ belowZ methZ cZ C hR hsz hnm ls hl => ?_)
  have C : CX pZ sZ mZ [.ref x, .int a, .int b].toArray methZ cZ cX12_dark 3 (some .boolean) RX12 D dA := C
  have hx := C.1; have hb := C.2.1
  have hl : lv_has ls 3 [(0, .ref x), (1, .int a), (2, .int b)] := hl
  subst hsz
  have hS : ST D dA K sZ.heap K V sZ.heap [] := ST.rf hR
  have r_a := th_rng a; rw [iz_a] at r_a
  have r_b := th_rng b; rw [iz_b] at r_b
  have F0 := F
  refine lv_iload_n hx hb dX12_dark_0 rfl (lv_at hl 1 rfl) ?_
  refine lv_iconst (v := 0) hx hb dX12_dark_1 (by decide) ?_
  refine lv_sipush (v := 359) hx hb dX12_dark_2 (by decide) ?_
  refine th_goi (th_runS (As := [.int a, .int 0, .int 359]) (rest := []) C hS.1 gS_RX12_371 (t_X12_in iz_a li_0 li_359) hl rfl rfl rfl rfl ⟨Nat.le_of_ble_eq_true rfl, Nat.le_of_ble_eq_true rfl⟩ (Nat.le_of_ble_eq_true rfl) ⟨Nat.le_of_ble_eq_true rfl, Nat.le_of_ble_eq_true rfl⟩ dX12_dark_5) (fun r4121 hq4122 => ?_)
  refine th_if_eq (X := r4121.toInt) (tgt := 22) hx hb dX12_dark_8 (by decide) rfl (fun c4123 => ?_) (fun c4123 => ?_)
  · replace hq4122 := Or.resolve_left hq4122 (fun h => absurd h.2 (by omega))
    refine lv_iconst (v := 0) hx hb dX12_dark_22 (by decide) ?_
    exact th_retzH (post := fun r K1 V1 => (((0 ≤ a_i ∧ a_i ≤ b_i ∧ b_i < 360) ∧ r.toInt = 1) ∨ ((0 > a_i ∨ a_i > b_i ∨ b_i ≥ 360) ∧ r.toInt = 0))) (cells := 0) (slots := 0) (mc := 0) (ms := 0) C hS (by have hfin := li_0; omega) (Or.inr (⟨by omega, li_0⟩)) (Nat.le_of_ble_eq_true rfl) (Nat.le_of_ble_eq_true rfl) dX12_dark_23
  · replace hq4122 := Or.resolve_right hq4122 (fun h => absurd h.2 (by omega))
    refine lv_iload_n hx hb dX12_dark_11 rfl (lv_at hl 2 rfl) ?_
    refine lv_iload_n hx hb dX12_dark_12 rfl (lv_at hl 1 rfl) ?_
    refine lv_sipush (v := 359) hx hb dX12_dark_13 (by decide) ?_
    refine th_goi (th_runS (As := [.int b, .int a, .int 359]) (rest := []) C hS.1 gS_RX12_371 (t_X12_in iz_b iz_a li_359) hl rfl rfl rfl rfl ⟨Nat.le_of_ble_eq_true rfl, Nat.le_of_ble_eq_true rfl⟩ (Nat.le_of_ble_eq_true rfl) ⟨Nat.le_of_ble_eq_true rfl, Nat.le_of_ble_eq_true rfl⟩ dX12_dark_16) (fun r4124 hq4125 => ?_)
    refine th_if_ne (X := r4124.toInt) (tgt := 24) hx hb dX12_dark_19 (by decide) rfl (fun c4126 => ?_) (fun c4126 => ?_)
    · replace hq4125 := Or.resolve_right hq4125 (fun h => absurd h.2 (by omega))
      refine lv_aload_n hx hb dX12_dark_24 rfl (lv_at hl 0 rfl) ?_
      refine lv_iload_n hx hb dX12_dark_25 rfl (lv_at hl 1 rfl) ?_
      refine th_put C hS F.1 fp_RX12_7 rfl rfl dX12_dark_26 (fun V4127 H locs1 hV4128 hS => ?_)
      refine lv_aload_n hx hb dX12_dark_29 rfl (lv_at hl 0 rfl) ?_
      refine lv_iload_n hx hb dX12_dark_30 rfl (lv_at hl 2 rfl) ?_
      refine th_put C hS F.1 fp_RX12_13 rfl rfl dX12_dark_31 (fun V4129 H locs1 hV4130 hS => ?_)
      refine lv_iconst (v := 1) hx hb dX12_dark_34 (by decide) ?_
      exact th_retzH (post := fun r K1 V1 => (((0 ≤ a_i ∧ a_i ≤ b_i ∧ b_i < 360) ∧ r.toInt = 1) ∨ ((0 > a_i ∨ a_i > b_i ∨ b_i ≥ 360) ∧ r.toInt = 0))) (cells := 0) (slots := 0) (mc := 0) (ms := 0) C hS (by have hfin := li_1; omega) (Or.inl ⟨by omega, li_1⟩) (Nat.le_of_ble_eq_true rfl) (Nat.le_of_ble_eq_true rfl) dX12_dark_35
    · replace hq4125 := Or.resolve_left hq4125 (fun h => absurd h.2 (by omega))
      refine lv_iconst (v := 0) hx hb dX12_dark_22 (by decide) ?_
      exact th_retzH (post := fun r K1 V1 => (((0 ≤ a_i ∧ a_i ≤ b_i ∧ b_i < 360) ∧ r.toInt = 1) ∨ ((0 > a_i ∨ a_i > b_i ∨ b_i ≥ 360) ∧ r.toInt = 0))) (cells := 0) (slots := 0) (mc := 0) (ms := 0) C hS (by have hfin := li_0; omega) (Or.inr (⟨by omega, li_0⟩)) (Nat.le_of_ble_eq_true rfl) (Nat.le_of_ble_eq_true rfl) dX12_dark_23

set_option maxHeartbeats 400000 in
set_option maxRecDepth 100000 in
theorem t_X12_party {l : Launch} {D : va_G} {dA : Nat → ClassId} {K : Kmap} {V : Vmap} {sz : Nat} {x : Nat} {dc : Int32} {dc_i : Int} (iz_dc : dc.toInt = dc_i) (F : FM K V x) : Met l yX12_party (wsOf yX12_party cX12_party 2 (some .int)) { frames := 0, cells := 0, slots := 0, locals := 0 } (PC D dA K V sz [.ref x, .int dc]) (HQi D dA K (fun r K1 V1 => ((r.toInt = 0)))) 0 0 (AK K sz) := by
  refine th_body (by decide +kernel) (Nat.le_of_ble_eq_true rfl) (fun pZ eZ sZ mZ belowZ methZ cZ C hR hsz hnm ls hl => ?_)
  have C : CX pZ sZ mZ [.ref x, .int dc].toArray methZ cZ cX12_party 2 (some .int) RX12 D dA := C
  have hx := C.1; have hb := C.2.1
  have hl : lv_has ls 2 [(0, .ref x), (1, .int dc)] := hl
  subst hsz
  have hS : ST D dA K sZ.heap K V sZ.heap [] := ST.rf hR
  have r_dc := th_rng dc; rw [iz_dc] at r_dc
  have F0 := F
  obtain ⟨f11, hv_f11, hk_f11⟩ := F.2.1 (11, (1, 9)) (by decide)
  refine lv_aload_n hx hb dX12_party_0 rfl (lv_at hl 0 rfl) ?_
  refine th_get C hS.1 F.1 fl_RX12_393 (F.2.2.1 (9, 0) (by decide)) dX12_party_1 ?_
  refine lv_bipush (v := 9) hx hb dX12_party_4 (by decide) ?_
  refine th_icmp_ne (X := 0) (Y := 9) (tgt := 11) hx hb dX12_party_6 (by decide) li_0 li_9 (fun c4131 => ?_) (fun c4131 => absurd c4131 (by omega))
  refine lv_aload_n hx hb dX12_party_11 rfl (lv_at hl 0 rfl) ?_
  refine th_get C hS.1 F.1 fl_RX12_29 hv_f11 dX12_party_12 ?_
  refine lv_aload_n hx hb dX12_party_15 rfl (lv_at hl 0 rfl) ?_
  refine th_get C hS.1 F.1 fl_RX12_393 (F.2.2.1 (9, 0) (by decide)) dX12_party_16 ?_
  refine lv_iload_n hx hb dX12_party_19 rfl (lv_at hl 1 rfl) ?_
  refine th_if_eq (X := dc_i) (tgt := 30) hx hb dX12_party_20 (by decide) iz_dc (fun c4132 => ?_) (fun c4132 => ?_)
  · refine lv_iconst (v := (-1)) hx hb dX12_party_30 (by decide) ?_
    refine th_iast C hS hk_f11 (by rw [li_0]; omega) (by rw [li_0]; omega) dX12_party_31 (fun V4133 H locs1 hV4134 hS => ?_)
    refine lv_aload_n hx hb dX12_party_32 rfl (lv_at hl 0 rfl) ?_
    refine lv_aload_n hx hb dX12_party_33 rfl (lv_at hl 0 rfl) ?_
    have hv4135 : V4133 x 9 = .int 0 := Eq.trans (uq_ne hV4134 (Or.inl (K_ne F.1 hk_f11 (by decide)))) (F.2.2.1 (9, 0) (by decide))
    refine th_get C hS.1 F.1 fl_RX12_393 hv4135 dX12_party_34 ?_
    refine lv_iconst (v := 1) hx hb dX12_party_37 (by decide) ?_
    refine lv_iadd hx hb dX12_party_38 ?_
    refine th_is (w := .int 1) (by decide) ?_
    refine th_put C hS F.1 fp_RX12_393 rfl rfl dX12_party_39 (fun V4136 H locs1 hV4137 hS => ?_)
    refine lv_aload_n hx hb dX12_party_42 rfl (lv_at hl 0 rfl) ?_
    refine th_get C hS.1 F.1 fl_RX12_393 (uq_same hV4137) dX12_party_43 ?_
    refine lv_iconst (v := 1) hx hb dX12_party_46 (by decide) ?_
    refine lv_isub hx hb dX12_party_47 ?_
    refine th_is (w := .int 0) (by decide) ?_
    exact th_retiH (post := fun r K1 V1 => ((r.toInt = 0))) (cells := 0) (slots := 0) (mc := 0) (ms := 0) C hS (by have hfin := li_0; omega) (Nat.le_of_ble_eq_true rfl) (Nat.le_of_ble_eq_true rfl) dX12_party_48
  · refine lv_aload_n hx hb dX12_party_23 rfl (lv_at hl 0 rfl) ?_
    refine th_get C hS.1 F.1 fl_RX12_396 (F.2.2.1 (2, 0) (by decide)) dX12_party_24 ?_
    refine lv_goto (tgt := 31) hx hb dX12_party_27 (by decide) ?_
    refine th_iast C hS hk_f11 (by rw [li_0]; omega) (by rw [li_0]; omega) dX12_party_31 (fun V4138 H locs1 hV4139 hS => ?_)
    refine lv_aload_n hx hb dX12_party_32 rfl (lv_at hl 0 rfl) ?_
    refine lv_aload_n hx hb dX12_party_33 rfl (lv_at hl 0 rfl) ?_
    have hv4140 : V4138 x 9 = .int 0 := Eq.trans (uq_ne hV4139 (Or.inl (K_ne F.1 hk_f11 (by decide)))) (F.2.2.1 (9, 0) (by decide))
    refine th_get C hS.1 F.1 fl_RX12_393 hv4140 dX12_party_34 ?_
    refine lv_iconst (v := 1) hx hb dX12_party_37 (by decide) ?_
    refine lv_iadd hx hb dX12_party_38 ?_
    refine th_is (w := .int 1) (by decide) ?_
    refine th_put C hS F.1 fp_RX12_393 rfl rfl dX12_party_39 (fun V4141 H locs1 hV4142 hS => ?_)
    refine lv_aload_n hx hb dX12_party_42 rfl (lv_at hl 0 rfl) ?_
    refine th_get C hS.1 F.1 fl_RX12_393 (uq_same hV4142) dX12_party_43 ?_
    refine lv_iconst (v := 1) hx hb dX12_party_46 (by decide) ?_
    refine lv_isub hx hb dX12_party_47 ?_
    refine th_is (w := .int 0) (by decide) ?_
    exact th_retiH (post := fun r K1 V1 => ((r.toInt = 0))) (cells := 0) (slots := 0) (mc := 0) (ms := 0) C hS (by have hfin := li_0; omega) (Nat.le_of_ble_eq_true rfl) (Nat.le_of_ble_eq_true rfl) dX12_party_48

set_option maxHeartbeats 400000 in
set_option maxRecDepth 100000 in
theorem t_X12_claim {l : Launch} {D : va_G} {dA : Nat → ClassId} {K : Kmap} {V : Vmap} {sz : Nat} {x : Nat} {p a b ti : Int32} {p_i a_i b_i ti_i : Int} (iz_p : p.toInt = p_i) (iz_a : a.toInt = a_i) (iz_b : b.toInt = b_i) (iz_ti : ti.toInt = ti_i) (F : FM K V x) : Met l yX12_claim (wsOf yX12_claim cX12_claim 5 (some .int)) { frames := 1, cells := 0, slots := 0, locals := 21 } (PC D dA K V sz [.ref x, .int p, .int a, .int b, .int ti]) (PQi (fun r => (r.toInt = (-1)))) 0 0 noFree := by
  refine th_body (by decide +kernel) (Nat.le_of_ble_eq_true rfl) (fun pZ eZ sZ mZ belowZ methZ cZ C hR hsz hnm ls hl => ?_)
  have C : CX pZ sZ mZ [.ref x, .int p, .int a, .int b, .int ti].toArray methZ cZ cX12_claim 5 (some .int) RX12 D dA := C
  have hx := C.1; have hb := C.2.1
  have hl : lv_has ls 5 [(0, .ref x), (1, .int p), (2, .int a), (3, .int b), (4, .int ti)] := hl
  subst hsz
  have hS : ST D dA K sZ.heap K V sZ.heap [] := ST.rf hR
  have r_p := th_rng p; rw [iz_p] at r_p
  have r_a := th_rng a; rw [iz_a] at r_a
  have r_b := th_rng b; rw [iz_b] at r_b
  have r_ti := th_rng ti; rw [iz_ti] at r_ti
  have F0 := F
  refine lv_aload_n hx hb dX12_claim_0 rfl (lv_at hl 0 rfl) ?_
  refine lv_iload_n hx hb dX12_claim_1 rfl (lv_at hl 1 rfl) ?_
  refine th_goi (th_runV (As := [.int p]) (rest := []) C hS.1 (RX12, TX12, 151) rfl gV_RX12_406 F.1 (t_X12_isParty iz_p F.1 (F.2.2.1 (9, 0) (by decide))) hl rfl rfl rfl rfl ⟨Nat.le_of_ble_eq_true rfl, Nat.le_of_ble_eq_true rfl⟩ (Nat.le_of_ble_eq_true rfl) ⟨Nat.le_of_ble_eq_true rfl, Nat.le_of_ble_eq_true rfl⟩ dX12_claim_2) (fun r4143 hq4144 => ?_)
  refine th_if_eq (X := r4143.toInt) (tgt := 50) hx hb dX12_claim_5 (by decide) rfl (fun c4145 => ?_) (fun c4145 => absurd c4145 (by omega))
  refine lv_iconst (v := (-1)) hx hb dX12_claim_50 (by decide) ?_
  exact th_reti C (by have hfin := li_n1; omega) dX12_claim_51

set_option maxHeartbeats 400000 in
set_option maxRecDepth 100000 in
theorem t_X12_title {l : Launch} {D : va_G} {dA : Nat → ClassId} {K : Kmap} {V : Vmap} {sz : Nat} {x : Nat} {k n : Int32} {k_i n_i : Int} (iz_k : k.toInt = k_i) (iz_n : n.toInt = n_i) (F : FM K V x) : Met l yX12_title (wsOf yX12_title cX12_title 3 (some .boolean)) { frames := 1, cells := 0, slots := 0, locals := 22 } (PC D dA K V sz [.ref x, .int k, .int n]) (PQi (fun r => (r.toInt = 0))) 0 0 noFree := by
  refine th_body (by decide +kernel) (Nat.le_of_ble_eq_true rfl) (fun pZ eZ sZ mZ belowZ methZ cZ C hR hsz hnm ls hl => ?_)
  have C : CX pZ sZ mZ [.ref x, .int k, .int n].toArray methZ cZ cX12_title 3 (some .boolean) RX12 D dA := C
  have hx := C.1; have hb := C.2.1
  have hl : lv_has ls 3 [(0, .ref x), (1, .int k), (2, .int n)] := hl
  subst hsz
  have hS : ST D dA K sZ.heap K V sZ.heap [] := ST.rf hR
  have r_k := th_rng k; rw [iz_k] at r_k
  have r_n := th_rng n; rw [iz_n] at r_n
  have F0 := F
  refine lv_aload_n hx hb dX12_title_0 rfl (lv_at hl 0 rfl) ?_
  refine lv_iload_n hx hb dX12_title_1 rfl (lv_at hl 1 rfl) ?_
  refine lv_iconst (v := 0) hx hb dX12_title_2 (by decide) ?_
  refine th_goi (th_runV (As := [.int k, .int 0]) (rest := []) C hS.1 (RX12, TX12, 151) rfl gV_RX12_399 F.1 (t_X12_isPlace iz_k li_0 F.1 (F.2.2.1 (10, 0) (by decide))) hl rfl rfl rfl rfl ⟨Nat.le_of_ble_eq_true rfl, Nat.le_of_ble_eq_true rfl⟩ (Nat.le_of_ble_eq_true rfl) ⟨Nat.le_of_ble_eq_true rfl, Nat.le_of_ble_eq_true rfl⟩ dX12_title_3) (fun r4146 hq4147 => ?_)
  refine th_if_eq (X := r4146.toInt) (tgt := 47) hx hb dX12_title_6 (by decide) rfl (fun c4148 => ?_) (fun c4148 => absurd c4148 (by omega))
  refine lv_iconst (v := 0) hx hb dX12_title_47 (by decide) ?_
  exact th_retz C (by have hfin := li_0; omega) (by have hfin := li_0; omega) dX12_title_48

set_option maxHeartbeats 400000 in
set_option maxRecDepth 100000 in
theorem t_X12_station {l : Launch} {D : va_G} {dA : Nat → ClassId} {K : Kmap} {V : Vmap} {sz : Nat} {x : Nat} {p c pe dr : Int32} {p_i c_i pe_i dr_i : Int} (iz_p : p.toInt = p_i) (iz_c : c.toInt = c_i) (iz_pe : pe.toInt = pe_i) (iz_dr : dr.toInt = dr_i) (F : FM K V x) : Met l yX12_station (wsOf yX12_station cX12_station 5 (some .int)) { frames := 1, cells := 0, slots := 0, locals := 21 } (PC D dA K V sz [.ref x, .int p, .int c, .int pe, .int dr]) (PQi (fun r => (r.toInt = (-1)))) 0 0 noFree := by
  refine th_body (by decide +kernel) (Nat.le_of_ble_eq_true rfl) (fun pZ eZ sZ mZ belowZ methZ cZ C hR hsz hnm ls hl => ?_)
  have C : CX pZ sZ mZ [.ref x, .int p, .int c, .int pe, .int dr].toArray methZ cZ cX12_station 5 (some .int) RX12 D dA := C
  have hx := C.1; have hb := C.2.1
  have hl : lv_has ls 5 [(0, .ref x), (1, .int p), (2, .int c), (3, .int pe), (4, .int dr)] := hl
  subst hsz
  have hS : ST D dA K sZ.heap K V sZ.heap [] := ST.rf hR
  have r_p := th_rng p; rw [iz_p] at r_p
  have r_c := th_rng c; rw [iz_c] at r_c
  have r_pe := th_rng pe; rw [iz_pe] at r_pe
  have r_dr := th_rng dr; rw [iz_dr] at r_dr
  have F0 := F
  refine lv_aload_n hx hb dX12_station_0 rfl (lv_at hl 0 rfl) ?_
  refine lv_iload_n hx hb dX12_station_1 rfl (lv_at hl 1 rfl) ?_
  refine th_goi (th_runV (As := [.int p]) (rest := []) C hS.1 (RX12, TX12, 151) rfl gV_RX12_406 F.1 (t_X12_isParty iz_p F.1 (F.2.2.1 (9, 0) (by decide))) hl rfl rfl rfl rfl ⟨Nat.le_of_ble_eq_true rfl, Nat.le_of_ble_eq_true rfl⟩ (Nat.le_of_ble_eq_true rfl) ⟨Nat.le_of_ble_eq_true rfl, Nat.le_of_ble_eq_true rfl⟩ dX12_station_2) (fun r4149 hq4150 => ?_)
  refine th_if_eq (X := r4149.toInt) (tgt := 56) hx hb dX12_station_5 (by decide) rfl (fun c4151 => ?_) (fun c4151 => absurd c4151 (by omega))
  refine lv_iconst (v := (-1)) hx hb dX12_station_56 (by decide) ?_
  exact th_reti C (by have hfin := li_n1; omega) dX12_station_57

set_option maxHeartbeats 400000 in
set_option maxRecDepth 100000 in
theorem t_X12_field {l : Launch} {D : va_G} {dA : Nat → ClassId} {K : Kmap} {V : Vmap} {sz : Nat} {x : Nat} {k c : Int32} {k_i c_i : Int} (iz_k : k.toInt = k_i) (iz_c : c.toInt = c_i) (F : FM K V x) : Met l yX12_field (wsOf yX12_field cX12_field 3 (some .int)) { frames := 3, cells := 0, slots := 0, locals := 64 } (PC D dA K V sz [.ref x, .int k, .int c]) (PQi (fun r => (r.toInt = (-1)))) 0 0 noFree := by
  refine th_body (by decide +kernel) (Nat.le_of_ble_eq_true rfl) (fun pZ eZ sZ mZ belowZ methZ cZ C hR hsz hnm ls hl => ?_)
  have C : CX pZ sZ mZ [.ref x, .int k, .int c].toArray methZ cZ cX12_field 3 (some .int) RX12 D dA := C
  have hx := C.1; have hb := C.2.1
  have hl : lv_has ls 3 [(0, .ref x), (1, .int k), (2, .int c)] := hl
  subst hsz
  have hS : ST D dA K sZ.heap K V sZ.heap [] := ST.rf hR
  have r_k := th_rng k; rw [iz_k] at r_k
  have r_c := th_rng c; rw [iz_c] at r_c
  have F0 := F
  refine lv_aload_n hx hb dX12_field_0 rfl (lv_at hl 0 rfl) ?_
  refine lv_iload_n hx hb dX12_field_1 rfl (lv_at hl 1 rfl) ?_
  refine th_goi (th_runV (As := [.int k]) (rest := []) C hS.1 (RX12, TX12, 151) rfl gV_RX12_433 F.1 (t_X12_stands iz_k F.1 (F.2.2.1 (10, 0) (by decide))) hl rfl rfl rfl rfl ⟨Nat.le_of_ble_eq_true rfl, Nat.le_of_ble_eq_true rfl⟩ (Nat.le_of_ble_eq_true rfl) ⟨Nat.le_of_ble_eq_true rfl, Nat.le_of_ble_eq_true rfl⟩ dX12_field_2) (fun r4152 hq4153 => ?_)
  refine th_if_eq (X := r4152.toInt) (tgt := 33) hx hb dX12_field_5 (by decide) rfl (fun c4154 => ?_) (fun c4154 => absurd c4154 (by omega))
  refine lv_iconst (v := (-1)) hx hb dX12_field_33 (by decide) ?_
  exact th_reti C (by have hfin := li_n1; omega) dX12_field_34

set_option maxHeartbeats 400000 in
set_option maxRecDepth 100000 in
theorem t_X12_reserve {l : Launch} {D : va_G} {dA : Nat → ClassId} {K : Kmap} {V : Vmap} {sz : Nat} {x : Nat} {a b rk : Int32} {a_i b_i rk_i : Int} (iz_a : a.toInt = a_i) (iz_b : b.toInt = b_i) (iz_rk : rk.toInt = rk_i) (F : FM K V x) : Met l yX12_reserve (wsOf yX12_reserve cX12_reserve 4 (some .int)) { frames := 2, cells := 0, slots := 0, locals := 43 } (PC D dA K V sz [.ref x, .int a, .int b, .int rk]) (HQi D dA K (fun r K1 V1 => (((((0 ≤ a_i ∧ a_i ≤ 63) ∧ (0 ≤ b_i ∧ b_i ≤ 63) ∧ (a_i / 8) ≤ (b_i / 8) ∧ (a_i % 8) ≤ (b_i % 8)) ∧ (1 ≤ rk_i ∧ rk_i ≤ 9)) ∧ r.toInt = 0) ∨ ((((0 > a_i ∨ a_i > 63) ∨ (0 > b_i ∨ b_i > 63) ∨ (a_i / 8) > (b_i / 8) ∨ (a_i % 8) > (b_i % 8)) ∨ (1 > rk_i ∨ rk_i > 9)) ∧ r.toInt = (-1))))) 0 0 (AK K sz) := by
  refine th_body (by decide +kernel) (Nat.le_of_ble_eq_true rfl) (fun pZ eZ sZ mZ belowZ methZ cZ C hR hsz hnm ls hl => ?_)
  have C : CX pZ sZ mZ [.ref x, .int a, .int b, .int rk].toArray methZ cZ cX12_reserve 4 (some .int) RX12 D dA := C
  have hx := C.1; have hb := C.2.1
  have hl : lv_has ls 4 [(0, .ref x), (1, .int a), (2, .int b), (3, .int rk)] := hl
  subst hsz
  have hS : ST D dA K sZ.heap K V sZ.heap [] := ST.rf hR
  have r_a := th_rng a; rw [iz_a] at r_a
  have r_b := th_rng b; rw [iz_b] at r_b
  have r_rk := th_rng rk; rw [iz_rk] at r_rk
  have F0 := F
  obtain ⟨f13, hv_f13, hk_f13⟩ := F.2.1 (13, (1, 60)) (by decide)
  obtain ⟨f14, hv_f14, hk_f14⟩ := F.2.1 (14, (1, 60)) (by decide)
  obtain ⟨f15, hv_f15, hk_f15⟩ := F.2.1 (15, (1, 60)) (by decide)
  obtain ⟨f16, hv_f16, hk_f16⟩ := F.2.1 (16, (1, 60)) (by decide)
  obtain ⟨f17, hv_f17, hk_f17⟩ := F.2.1 (17, (1, 60)) (by decide)
  obtain ⟨f18, hv_f18, hk_f18⟩ := F.2.1 (18, (1, 60)) (by decide)
  refine lv_aload_n hx hb dX12_reserve_0 rfl (lv_at hl 0 rfl) ?_
  refine lv_iload_n hx hb dX12_reserve_1 rfl (lv_at hl 1 rfl) ?_
  refine lv_iload_n hx hb dX12_reserve_2 rfl (lv_at hl 2 rfl) ?_
  refine th_goi (th_runV (As := [.int a, .int b]) (rest := []) C hS.1 (RX12, TX12, 151) rfl gV_RX12_415 F.1 (t_X12_isRectangle iz_a iz_b F.1 (F.2.2.1 (0, 8) (by decide)) (F.2.2.1 (1, 8) (by decide))) hl rfl rfl rfl rfl ⟨Nat.le_of_ble_eq_true rfl, Nat.le_of_ble_eq_true rfl⟩ (Nat.le_of_ble_eq_true rfl) ⟨Nat.le_of_ble_eq_true rfl, Nat.le_of_ble_eq_true rfl⟩ dX12_reserve_3) (fun r4155 hq4156 => ?_)
  refine th_if_eq (X := r4155.toInt) (tgt := 28) hx hb dX12_reserve_6 (by decide) rfl (fun c4157 => ?_) (fun c4157 => ?_)
  · replace hq4156 := Or.resolve_left hq4156 (fun h => absurd h.2 (by omega))
    refine lv_iconst (v := (-1)) hx hb dX12_reserve_28 (by decide) ?_
    exact th_retiH (post := fun r K1 V1 => (((((0 ≤ a_i ∧ a_i ≤ 63) ∧ (0 ≤ b_i ∧ b_i ≤ 63) ∧ (a_i / 8) ≤ (b_i / 8) ∧ (a_i % 8) ≤ (b_i % 8)) ∧ (1 ≤ rk_i ∧ rk_i ≤ 9)) ∧ r.toInt = 0) ∨ ((((0 > a_i ∨ a_i > 63) ∨ (0 > b_i ∨ b_i > 63) ∨ (a_i / 8) > (b_i / 8) ∨ (a_i % 8) > (b_i % 8)) ∨ (1 > rk_i ∨ rk_i > 9)) ∧ r.toInt = (-1)))) (cells := 0) (slots := 0) (mc := 0) (ms := 0) C hS (Or.inr (⟨by omega, li_n1⟩)) (Nat.le_of_ble_eq_true rfl) (Nat.le_of_ble_eq_true rfl) dX12_reserve_29
  · replace hq4156 := Or.resolve_right hq4156 (fun h => absurd h.2 (by omega))
    refine lv_iload_n hx hb dX12_reserve_9 rfl (lv_at hl 3 rfl) ?_
    refine lv_iconst (v := 1) hx hb dX12_reserve_10 (by decide) ?_
    refine lv_bipush (v := 9) hx hb dX12_reserve_11 (by decide) ?_
    refine th_goi (th_runS (As := [.int rk, .int 1, .int 9]) (rest := []) C hS.1 gS_RX12_371 (t_X12_in iz_rk li_1 li_9) hl rfl rfl rfl rfl ⟨Nat.le_of_ble_eq_true rfl, Nat.le_of_ble_eq_true rfl⟩ (Nat.le_of_ble_eq_true rfl) ⟨Nat.le_of_ble_eq_true rfl, Nat.le_of_ble_eq_true rfl⟩ dX12_reserve_13) (fun r4158 hq4159 => ?_)
    refine th_if_eq (X := r4158.toInt) (tgt := 28) hx hb dX12_reserve_16 (by decide) rfl (fun c4160 => ?_) (fun c4160 => ?_)
    · replace hq4159 := Or.resolve_left hq4159 (fun h => absurd h.2 (by omega))
      refine lv_iconst (v := (-1)) hx hb dX12_reserve_28 (by decide) ?_
      exact th_retiH (post := fun r K1 V1 => (((((0 ≤ a_i ∧ a_i ≤ 63) ∧ (0 ≤ b_i ∧ b_i ≤ 63) ∧ (a_i / 8) ≤ (b_i / 8) ∧ (a_i % 8) ≤ (b_i % 8)) ∧ (1 ≤ rk_i ∧ rk_i ≤ 9)) ∧ r.toInt = 0) ∨ ((((0 > a_i ∨ a_i > 63) ∨ (0 > b_i ∨ b_i > 63) ∨ (a_i / 8) > (b_i / 8) ∨ (a_i % 8) > (b_i % 8)) ∨ (1 > rk_i ∨ rk_i > 9)) ∧ r.toInt = (-1)))) (cells := 0) (slots := 0) (mc := 0) (ms := 0) C hS (Or.inr (⟨by omega, li_n1⟩)) (Nat.le_of_ble_eq_true rfl) (Nat.le_of_ble_eq_true rfl) dX12_reserve_29
    · replace hq4159 := Or.resolve_right hq4159 (fun h => absurd h.2 (by omega))
      refine lv_aload_n hx hb dX12_reserve_19 rfl (lv_at hl 0 rfl) ?_
      refine th_get C hS.1 F.1 fl_RX12_375 (F.2.2.1 (10, 0) (by decide)) dX12_reserve_20 ?_
      refine lv_bipush (v := 60) hx hb dX12_reserve_23 (by decide) ?_
      refine th_icmp_ne (X := 0) (Y := 60) (tgt := 30) hx hb dX12_reserve_25 (by decide) li_0 li_60 (fun c4161 => ?_) (fun c4161 => absurd c4161 (by omega))
      refine lv_aload_n hx hb dX12_reserve_30 rfl (lv_at hl 0 rfl) ?_
      refine lv_iconst (v := 3) hx hb dX12_reserve_31 (by decide) ?_
      refine lv_iconst (v := (-1)) hx hb dX12_reserve_32 (by decide) ?_
      refine lv_iload_n hx hb dX12_reserve_33 rfl (lv_at hl 1 rfl) ?_
      refine lv_iload_n hx hb dX12_reserve_34 rfl (lv_at hl 2 rfl) ?_
      refine lv_iload_n hx hb dX12_reserve_35 rfl (lv_at hl 3 rfl) ?_
      refine th_goiH hS rfl (th_runV (As := [.int 3, .int (-1), .int a, .int b, .int rk]) (rest := []) C hS.1 (RX12, TX12, 151) rfl gV_RX12_421 F.1 (t_X12_place li_3 li_n1 iz_a iz_b iz_rk F.1 (F.2.2.1 (10, 0) (by decide)) (F.2.2.1 (2, 0) (by decide)) hv_f13 hk_f13 hv_f14 hk_f14 hv_f15 hk_f15 hv_f16 hk_f16 hv_f17 hk_f17 hv_f18 hk_f18) hl rfl rfl rfl rfl ⟨Nat.le_of_ble_eq_true rfl, Nat.le_of_ble_eq_true rfl⟩ (Nat.le_of_ble_eq_true rfl) ⟨Nat.le_of_ble_eq_true rfl, Nat.le_of_ble_eq_true rfl⟩ dX12_reserve_36) (fun r4162 K4164 V4165 H locs1 hq4163 hE4166 hS => ?_)
      have hr4168 := hq4163
      exact th_retiH (post := fun r K1 V1 => (((((0 ≤ a_i ∧ a_i ≤ 63) ∧ (0 ≤ b_i ∧ b_i ≤ 63) ∧ (a_i / 8) ≤ (b_i / 8) ∧ (a_i % 8) ≤ (b_i % 8)) ∧ (1 ≤ rk_i ∧ rk_i ≤ 9)) ∧ r.toInt = 0) ∨ ((((0 > a_i ∨ a_i > 63) ∨ (0 > b_i ∨ b_i > 63) ∨ (a_i / 8) > (b_i / 8) ∨ (a_i % 8) > (b_i % 8)) ∨ (1 > rk_i ∨ rk_i > 9)) ∧ r.toInt = (-1)))) (cells := 0) (slots := 0) (mc := 0) (ms := 0) C hS (Or.inl ⟨by omega, by omega⟩) (Nat.le_of_ble_eq_true rfl) (Nat.le_of_ble_eq_true rfl) dX12_reserve_39

set_option maxHeartbeats 400000 in
set_option maxRecDepth 100000 in
theorem t_X12_site {l : Launch} {D : va_G} {dA : Nat → ClassId} {K : Kmap} {V : Vmap} {sz : Nat} {x : Nat} {c ne : Int32} {c_i ne_i : Int} (iz_c : c.toInt = c_i) (iz_ne : ne.toInt = ne_i) (F : FM K V x) : Met l yX12_site (wsOf yX12_site cX12_site 3 (some .int)) { frames := 1, cells := 0, slots := 0, locals := 25 } (PC D dA K V sz [.ref x, .int c, .int ne]) (HQi D dA K (fun r K1 V1 => (((0 ≤ c_i ∧ c_i ≤ 63) ∧ r.toInt = 0) ∨ ((0 > c_i ∨ c_i > 63) ∧ r.toInt = (-1))))) 0 0 (AK K sz) := by
  refine th_body (by decide +kernel) (Nat.le_of_ble_eq_true rfl) (fun pZ eZ sZ mZ belowZ methZ cZ C hR hsz hnm ls hl => ?_)
  have C : CX pZ sZ mZ [.ref x, .int c, .int ne].toArray methZ cZ cX12_site 3 (some .int) RX12 D dA := C
  have hx := C.1; have hb := C.2.1
  have hl : lv_has ls 3 [(0, .ref x), (1, .int c), (2, .int ne)] := hl
  subst hsz
  have hS : ST D dA K sZ.heap K V sZ.heap [] := ST.rf hR
  have r_c := th_rng c; rw [iz_c] at r_c
  have r_ne := th_rng ne; rw [iz_ne] at r_ne
  have F0 := F
  obtain ⟨f13, hv_f13, hk_f13⟩ := F.2.1 (13, (1, 60)) (by decide)
  obtain ⟨f14, hv_f14, hk_f14⟩ := F.2.1 (14, (1, 60)) (by decide)
  obtain ⟨f15, hv_f15, hk_f15⟩ := F.2.1 (15, (1, 60)) (by decide)
  obtain ⟨f16, hv_f16, hk_f16⟩ := F.2.1 (16, (1, 60)) (by decide)
  obtain ⟨f17, hv_f17, hk_f17⟩ := F.2.1 (17, (1, 60)) (by decide)
  obtain ⟨f18, hv_f18, hk_f18⟩ := F.2.1 (18, (1, 60)) (by decide)
  refine lv_aload_n hx hb dX12_site_0 rfl (lv_at hl 0 rfl) ?_
  refine lv_iload_n hx hb dX12_site_1 rfl (lv_at hl 1 rfl) ?_
  refine th_goi (th_runV (As := [.int c]) (rest := []) C hS.1 (RX12, TX12, 151) rfl gV_RX12_381 F.1 (t_X12_isCell iz_c F.1 (F.2.2.1 (0, 8) (by decide)) (F.2.2.1 (1, 8) (by decide))) hl rfl rfl rfl rfl ⟨Nat.le_of_ble_eq_true rfl, Nat.le_of_ble_eq_true rfl⟩ (Nat.le_of_ble_eq_true rfl) ⟨Nat.le_of_ble_eq_true rfl, Nat.le_of_ble_eq_true rfl⟩ dX12_site_2) (fun r4169 hq4170 => ?_)
  refine th_if_eq (X := r4169.toInt) (tgt := 17) hx hb dX12_site_5 (by decide) rfl (fun c4171 => ?_) (fun c4171 => ?_)
  · replace hq4170 := Or.resolve_left hq4170 (fun h => absurd h.2 (by omega))
    refine lv_iconst (v := (-1)) hx hb dX12_site_17 (by decide) ?_
    exact th_retiH (post := fun r K1 V1 => (((0 ≤ c_i ∧ c_i ≤ 63) ∧ r.toInt = 0) ∨ ((0 > c_i ∨ c_i > 63) ∧ r.toInt = (-1)))) (cells := 0) (slots := 0) (mc := 0) (ms := 0) C hS (Or.inr (⟨by omega, li_n1⟩)) (Nat.le_of_ble_eq_true rfl) (Nat.le_of_ble_eq_true rfl) dX12_site_18
  · replace hq4170 := Or.resolve_right hq4170 (fun h => absurd h.2 (by omega))
    refine lv_aload_n hx hb dX12_site_8 rfl (lv_at hl 0 rfl) ?_
    refine th_get C hS.1 F.1 fl_RX12_375 (F.2.2.1 (10, 0) (by decide)) dX12_site_9 ?_
    refine lv_bipush (v := 60) hx hb dX12_site_12 (by decide) ?_
    refine th_icmp_ne (X := 0) (Y := 60) (tgt := 19) hx hb dX12_site_14 (by decide) li_0 li_60 (fun c4172 => ?_) (fun c4172 => absurd c4172 (by omega))
    refine lv_aload_n hx hb dX12_site_19 rfl (lv_at hl 0 rfl) ?_
    refine lv_iload_n hx hb dX12_site_20 rfl (lv_at hl 2 rfl) ?_
    refine th_if_eq (X := ne_i) (tgt := 28) hx hb dX12_site_21 (by decide) iz_ne (fun c4173 => ?_) (fun c4173 => ?_)
    · refine lv_iconst (v := 4) hx hb dX12_site_28 (by decide) ?_
      refine lv_iconst (v := (-1)) hx hb dX12_site_29 (by decide) ?_
      refine lv_iload_n hx hb dX12_site_30 rfl (lv_at hl 1 rfl) ?_
      refine lv_iconst (v := (-1)) hx hb dX12_site_31 (by decide) ?_
      refine lv_iconst (v := 0) hx hb dX12_site_32 (by decide) ?_
      refine th_goiH hS rfl (th_runV (As := [.int 4, .int (-1), .int c, .int (-1), .int 0]) (rest := []) C hS.1 (RX12, TX12, 151) rfl gV_RX12_421 F.1 (t_X12_place li_4 li_n1 iz_c li_n1 li_0 F.1 (F.2.2.1 (10, 0) (by decide)) (F.2.2.1 (2, 0) (by decide)) hv_f13 hk_f13 hv_f14 hk_f14 hv_f15 hk_f15 hv_f16 hk_f16 hv_f17 hk_f17 hv_f18 hk_f18) hl rfl rfl rfl rfl ⟨Nat.le_of_ble_eq_true rfl, Nat.le_of_ble_eq_true rfl⟩ (Nat.le_of_ble_eq_true rfl) ⟨Nat.le_of_ble_eq_true rfl, Nat.le_of_ble_eq_true rfl⟩ dX12_site_33) (fun r4174 K4176 V4177 H locs1 hq4175 hE4178 hS => ?_)
      have hr4180 := hq4175
      exact th_retiH (post := fun r K1 V1 => (((0 ≤ c_i ∧ c_i ≤ 63) ∧ r.toInt = 0) ∨ ((0 > c_i ∨ c_i > 63) ∧ r.toInt = (-1)))) (cells := 0) (slots := 0) (mc := 0) (ms := 0) C hS (Or.inl ⟨by omega, by omega⟩) (Nat.le_of_ble_eq_true rfl) (Nat.le_of_ble_eq_true rfl) dX12_site_36
    · refine lv_iconst (v := 5) hx hb dX12_site_24 (by decide) ?_
      refine lv_goto (tgt := 29) hx hb dX12_site_25 (by decide) ?_
      refine lv_iconst (v := (-1)) hx hb dX12_site_29 (by decide) ?_
      refine lv_iload_n hx hb dX12_site_30 rfl (lv_at hl 1 rfl) ?_
      refine lv_iconst (v := (-1)) hx hb dX12_site_31 (by decide) ?_
      refine lv_iconst (v := 0) hx hb dX12_site_32 (by decide) ?_
      refine th_goiH hS rfl (th_runV (As := [.int 5, .int (-1), .int c, .int (-1), .int 0]) (rest := []) C hS.1 (RX12, TX12, 151) rfl gV_RX12_421 F.1 (t_X12_place li_5 li_n1 iz_c li_n1 li_0 F.1 (F.2.2.1 (10, 0) (by decide)) (F.2.2.1 (2, 0) (by decide)) hv_f13 hk_f13 hv_f14 hk_f14 hv_f15 hk_f15 hv_f16 hk_f16 hv_f17 hk_f17 hv_f18 hk_f18) hl rfl rfl rfl rfl ⟨Nat.le_of_ble_eq_true rfl, Nat.le_of_ble_eq_true rfl⟩ (Nat.le_of_ble_eq_true rfl) ⟨Nat.le_of_ble_eq_true rfl, Nat.le_of_ble_eq_true rfl⟩ dX12_site_33) (fun r4181 K4183 V4184 H locs1 hq4182 hE4185 hS => ?_)
      have hr4187 := hq4182
      exact th_retiH (post := fun r K1 V1 => (((0 ≤ c_i ∧ c_i ≤ 63) ∧ r.toInt = 0) ∨ ((0 > c_i ∨ c_i > 63) ∧ r.toInt = (-1)))) (cells := 0) (slots := 0) (mc := 0) (ms := 0) C hS (Or.inl ⟨by omega, by omega⟩) (Nat.le_of_ble_eq_true rfl) (Nat.le_of_ble_eq_true rfl) dX12_site_36

set_option maxHeartbeats 400000 in
set_option maxRecDepth 100000 in
theorem t_X12_feed {l : Launch} {D : va_G} {dA : Nat → ClassId} {K : Kmap} {V : Vmap} {sz : Nat} {x : Nat} {a b c d e1 : Int32} {a_i b_i c_i d_i e1_i : Int} (iz_a : a.toInt = a_i) (iz_b : b.toInt = b_i) (iz_c : c.toInt = c_i) (iz_d : d.toInt = d_i) (iz_e1 : e1.toInt = e1_i) (F : FM K V x) : Met l yX12_feed (wsOf yX12_feed cX12_feed 6 (some .int)) { frames := 1, cells := 0, slots := 0, locals := 22 } (PC D dA K V sz [.ref x, .int a, .int b, .int c, .int d, .int e1]) (HQi D dA K (fun r K1 V1 => ((r.toInt = 20)))) 0 0 (AK K sz) := by
  refine th_body (by decide +kernel) (Nat.le_of_ble_eq_true rfl) (fun pZ eZ sZ mZ belowZ methZ cZ C hR hsz hnm ls hl => ?_)
  have C : CX pZ sZ mZ [.ref x, .int a, .int b, .int c, .int d, .int e1].toArray methZ cZ cX12_feed 6 (some .int) RX12 D dA := C
  have hx := C.1; have hb := C.2.1
  have hl : lv_has ls 6 [(0, .ref x), (1, .int a), (2, .int b), (3, .int c), (4, .int d), (5, .int e1)] := hl
  subst hsz
  have hS : ST D dA K sZ.heap K V sZ.heap [] := ST.rf hR
  have r_a := th_rng a; rw [iz_a] at r_a
  have r_b := th_rng b; rw [iz_b] at r_b
  have r_c := th_rng c; rw [iz_c] at r_c
  have r_d := th_rng d; rw [iz_d] at r_d
  have r_e1 := th_rng e1; rw [iz_e1] at r_e1
  have F0 := F
  obtain ⟨f29, hv_f29, hk_f29⟩ := F.2.1 (29, (3, 400)) (by decide)
  refine lv_aload_n hx hb dX12_feed_0 rfl (lv_at hl 0 rfl) ?_
  refine th_get C hS.1 F.1 fl_RX12_436 (F.2.2.1 (30, 0) (by decide)) dX12_feed_1 ?_
  refine lv_bipush (v := 20) hx hb dX12_feed_4 (by decide) ?_
  refine lv_iadd hx hb dX12_feed_6 ?_
  refine th_is (w := .int 20) (by decide) ?_
  refine lv_sipush (v := 400) hx hb dX12_feed_7 (by decide) ?_
  refine th_icmp_le (X := 20) (Y := 400) (tgt := 15) hx hb dX12_feed_10 (by decide) li_20 li_400 (fun c4188 => ?_) (fun c4188 => absurd c4188 (by omega))
  refine lv_aload_n hx hb dX12_feed_15 rfl (lv_at hl 0 rfl) ?_
  refine lv_iload_n hx hb dX12_feed_16 rfl (lv_at hl 1 rfl) ?_
  refine th_govH hS rfl (th_runV (As := [.int a]) (rest := []) C hS.1 (RX12, TX12, 151) rfl gV_RX12_439 F.1 (t_X12_types iz_a li_0 F.1 hv_f29 hk_f29 (F.2.2.1 (30, 0) (by decide)) (by omega) (by omega)) hl rfl rfl rfl rfl ⟨Nat.le_of_ble_eq_true rfl, Nat.le_of_ble_eq_true rfl⟩ (Nat.le_of_ble_eq_true rfl) ⟨Nat.le_of_ble_eq_true rfl, Nat.le_of_ble_eq_true rfl⟩ dX12_feed_17) (fun K4191 V4192 H locs1 hq4190 hE4193 hS => ?_)
  obtain ⟨rfl, hF4194, hA4195, ⟨z4197, hA4196, hz4197⟩⟩ := hq4190
  refine lv_aload_n hx hb dX12_feed_20 rfl (lv_at hl 0 rfl) ?_
  refine lv_iload_n hx hb dX12_feed_21 rfl (lv_at hl 2 rfl) ?_
  refine th_govH hS rfl (th_runV (As := [.int b]) (rest := []) C hS.1 (RX12, TX12, 151) rfl gV_RX12_439 F.1 (t_X12_types iz_b hz4197 F.1 hA4195 hk_f29 hA4196 (by omega) (by omega)) hl rfl rfl rfl rfl ⟨Nat.le_of_ble_eq_true rfl, Nat.le_of_ble_eq_true rfl⟩ (Nat.le_of_ble_eq_true rfl) ⟨Nat.le_of_ble_eq_true rfl, Nat.le_of_ble_eq_true rfl⟩ dX12_feed_22) (fun K4201 V4202 H locs1 hq4200 hE4203 hS => ?_)
  obtain ⟨rfl, hF4204, hA4205, ⟨z4207, hA4206, hz4207⟩⟩ := hq4200
  refine lv_aload_n hx hb dX12_feed_25 rfl (lv_at hl 0 rfl) ?_
  refine lv_iload_n hx hb dX12_feed_26 rfl (lv_at hl 3 rfl) ?_
  refine th_govH hS rfl (th_runV (As := [.int c]) (rest := []) C hS.1 (RX12, TX12, 151) rfl gV_RX12_439 F.1 (t_X12_types iz_c hz4207 F.1 hA4205 hk_f29 hA4206 (by omega) (by omega)) hl rfl rfl rfl rfl ⟨Nat.le_of_ble_eq_true rfl, Nat.le_of_ble_eq_true rfl⟩ (Nat.le_of_ble_eq_true rfl) ⟨Nat.le_of_ble_eq_true rfl, Nat.le_of_ble_eq_true rfl⟩ dX12_feed_27) (fun K4211 V4212 H locs1 hq4210 hE4213 hS => ?_)
  obtain ⟨rfl, hF4214, hA4215, ⟨z4217, hA4216, hz4217⟩⟩ := hq4210
  refine lv_aload_n hx hb dX12_feed_30 rfl (lv_at hl 0 rfl) ?_
  refine lv_iload hx hb dX12_feed_31 (lv_at hl 4 rfl) ?_
  refine th_govH hS rfl (th_runV (As := [.int d]) (rest := []) C hS.1 (RX12, TX12, 151) rfl gV_RX12_439 F.1 (t_X12_types iz_d hz4217 F.1 hA4215 hk_f29 hA4216 (by omega) (by omega)) hl rfl rfl rfl rfl ⟨Nat.le_of_ble_eq_true rfl, Nat.le_of_ble_eq_true rfl⟩ (Nat.le_of_ble_eq_true rfl) ⟨Nat.le_of_ble_eq_true rfl, Nat.le_of_ble_eq_true rfl⟩ dX12_feed_33) (fun K4221 V4222 H locs1 hq4220 hE4223 hS => ?_)
  obtain ⟨rfl, hF4224, hA4225, ⟨z4227, hA4226, hz4227⟩⟩ := hq4220
  refine lv_aload_n hx hb dX12_feed_36 rfl (lv_at hl 0 rfl) ?_
  refine lv_iload hx hb dX12_feed_37 (lv_at hl 5 rfl) ?_
  refine th_govH hS rfl (th_runV (As := [.int e1]) (rest := []) C hS.1 (RX12, TX12, 151) rfl gV_RX12_439 F.1 (t_X12_types iz_e1 hz4227 F.1 hA4225 hk_f29 hA4226 (by omega) (by omega)) hl rfl rfl rfl rfl ⟨Nat.le_of_ble_eq_true rfl, Nat.le_of_ble_eq_true rfl⟩ (Nat.le_of_ble_eq_true rfl) ⟨Nat.le_of_ble_eq_true rfl, Nat.le_of_ble_eq_true rfl⟩ dX12_feed_39) (fun K4231 V4232 H locs1 hq4230 hE4233 hS => ?_)
  obtain ⟨rfl, hF4234, hA4235, ⟨z4237, hA4236, hz4237⟩⟩ := hq4230
  refine lv_aload_n hx hb dX12_feed_42 rfl (lv_at hl 0 rfl) ?_
  refine th_get C hS.1 F.1 fl_RX12_436 hA4236 dX12_feed_43 ?_
  exact th_retiH (post := fun r K1 V1 => ((r.toInt = 20))) (cells := 0) (slots := 0) (mc := 0) (ms := 0) C hS (by have hfin := hz4237; omega) (Nat.le_of_ble_eq_true rfl) (Nat.le_of_ble_eq_true rfl) dX12_feed_46
