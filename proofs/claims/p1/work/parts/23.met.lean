set_option maxHeartbeats 400000 in
set_option maxRecDepth 100000 in
theorem t_X12_site {l : Launch} {D : va_G} {dA : Nat → ClassId} {K : Kmap} {V : Vmap} {sz : Nat} {x : Nat} {c ne : Int32} {c_i ne_i : Int} (iz_c : c.toInt = c_i) (iz_ne : ne.toInt = ne_i) (F : FM K V x) : Met l yX12_site (wsOf yX12_site cX12_site 3 (some .int)) { frames := 1, cells := 0, slots := 0, locals := 25 } (PC D dA K V sz [.ref x, .int c, .int ne]) (HQi D dA K (fun r K1 V1 => (((0 ≤ c_i ∧ c_i ≤ 63) ∧ r.toInt = 0) ∨ ((0 > c_i ∨ c_i > 63) ∧ r.toInt = (-1))))) 0 0 (AK K sz) := by
  refine th_body (by decide +kernel) (Nat.le_of_ble_eq_true rfl) (fun pZ eZ sZ mZ belowZ methZ cZ C hR hsz hnm ls hl => ?_)
  have C : CX pZ sZ mZ [.ref x, .int c, .int ne].toArray methZ cZ cX12_site 3 (some .int) RX12 D dA := C
  have hx := C.1; have hb := C.2.1
  have hl : lv_has ls 3 [(0, .ref x), (1, .int c), (2, .int ne)] := hl
  subst hsz
  have hS : ST D dA K sZ.heap K V sZ.heap [] := ST.rf hR
  have r_c := th_rng c; rw [iz_c] at r_c
  have r_ne := th_rng ne; rw [iz_ne] at r_ne
  have F0 := F
  obtain ⟨f13, hv_f13, hk_f13⟩ := F.2.1 (13, (1, 60)) (by decide)
  obtain ⟨f14, hv_f14, hk_f14⟩ := F.2.1 (14, (1, 60)) (by decide)
  obtain ⟨f15, hv_f15, hk_f15⟩ := F.2.1 (15, (1, 60)) (by decide)
  obtain ⟨f16, hv_f16, hk_f16⟩ := F.2.1 (16, (1, 60)) (by decide)
  obtain ⟨f17, hv_f17, hk_f17⟩ := F.2.1 (17, (1, 60)) (by decide)
  obtain ⟨f18, hv_f18, hk_f18⟩ := F.2.1 (18, (1, 60)) (by decide)
  refine lv_aload_n hx hb dX12_site_0 rfl (lv_at hl 0 rfl) ?_
  refine lv_iload_n hx hb dX12_site_1 rfl (lv_at hl 1 rfl) ?_
  refine th_goi (th_runV (As := [.int c]) (rest := []) C hS.1 (RX12, TX12, 151) rfl gV_RX12_381 F.1 (t_X12_isCell iz_c F.1 (F.2.2.1 (0, 8) (by decide)) (F.2.2.1 (1, 8) (by decide))) hl rfl rfl rfl rfl ⟨Nat.le_of_ble_eq_true rfl, Nat.le_of_ble_eq_true rfl⟩ (Nat.le_of_ble_eq_true rfl) ⟨Nat.le_of_ble_eq_true rfl, Nat.le_of_ble_eq_true rfl⟩ dX12_site_2) (fun r4169 hq4170 => ?_)
  refine th_if_eq (X := r4169.toInt) (tgt := 17) hx hb dX12_site_5 (by decide) rfl (fun c4171 => ?_) (fun c4171 => ?_)
  · replace hq4170 := Or.resolve_left hq4170 (fun h => absurd h.2 (by omega))
    refine lv_iconst (v := (-1)) hx hb dX12_site_17 (by decide) ?_
    exact th_retiH (post := fun r K1 V1 => (((0 ≤ c_i ∧ c_i ≤ 63) ∧ r.toInt = 0) ∨ ((0 > c_i ∨ c_i > 63) ∧ r.toInt = (-1)))) (cells := 0) (slots := 0) (mc := 0) (ms := 0) C hS (Or.inr (⟨by omega, li_n1⟩)) (Nat.le_of_ble_eq_true rfl) (Nat.le_of_ble_eq_true rfl) dX12_site_18
  · replace hq4170 := Or.resolve_right hq4170 (fun h => absurd h.2 (by omega))
    refine lv_aload_n hx hb dX12_site_8 rfl (lv_at hl 0 rfl) ?_
    refine th_get C hS.1 F.1 fl_RX12_375 (F.2.2.1 (10, 0) (by decide)) dX12_site_9 ?_
    refine lv_bipush (v := 60) hx hb dX12_site_12 (by decide) ?_
    refine th_icmp_ne (X := 0) (Y := 60) (tgt := 19) hx hb dX12_site_14 (by decide) li_0 li_60 (fun c4172 => ?_) (fun c4172 => absurd c4172 (by omega))
    refine lv_aload_n hx hb dX12_site_19 rfl (lv_at hl 0 rfl) ?_
    refine lv_iload_n hx hb dX12_site_20 rfl (lv_at hl 2 rfl) ?_
    refine th_if_eq (X := ne_i) (tgt := 28) hx hb dX12_site_21 (by decide) iz_ne (fun c4173 => ?_) (fun c4173 => ?_)
    · refine lv_iconst (v := 4) hx hb dX12_site_28 (by decide) ?_
      refine lv_iconst (v := (-1)) hx hb dX12_site_29 (by decide) ?_
      refine lv_iload_n hx hb dX12_site_30 rfl (lv_at hl 1 rfl) ?_
      refine lv_iconst (v := (-1)) hx hb dX12_site_31 (by decide) ?_
      refine lv_iconst (v := 0) hx hb dX12_site_32 (by decide) ?_
      refine th_goiH hS rfl (th_runV (As := [.int 4, .int (-1), .int c, .int (-1), .int 0]) (rest := []) C hS.1 (RX12, TX12, 151) rfl gV_RX12_421 F.1 (t_X12_place li_4 li_n1 iz_c li_n1 li_0 F.1 (F.2.2.1 (10, 0) (by decide)) (F.2.2.1 (2, 0) (by decide)) hv_f13 hk_f13 hv_f14 hk_f14 hv_f15 hk_f15 hv_f16 hk_f16 hv_f17 hk_f17 hv_f18 hk_f18) hl rfl rfl rfl rfl ⟨Nat.le_of_ble_eq_true rfl, Nat.le_of_ble_eq_true rfl⟩ (Nat.le_of_ble_eq_true rfl) ⟨Nat.le_of_ble_eq_true rfl, Nat.le_of_ble_eq_true rfl⟩ dX12_site_33) (fun r4174 K4176 V4177 H locs1 hq4175 hE4178 hS => ?_)
      have hr4180 := hq4175
      exact th_retiH (post := fun r K1 V1 => (((0 ≤ c_i ∧ c_i ≤ 63) ∧ r.toInt = 0) ∨ ((0 > c_i ∨ c_i > 63) ∧ r.toInt = (-1)))) (cells := 0) (slots := 0) (mc := 0) (ms := 0) C hS (Or.inl ⟨by omega, by omega⟩) (Nat.le_of_ble_eq_true rfl) (Nat.le_of_ble_eq_true rfl) dX12_site_36
    · refine lv_iconst (v := 5) hx hb dX12_site_24 (by decide) ?_
      refine lv_goto (tgt := 29) hx hb dX12_site_25 (by decide) ?_
      refine lv_iconst (v := (-1)) hx hb dX12_site_29 (by decide) ?_
      refine lv_iload_n hx hb dX12_site_30 rfl (lv_at hl 1 rfl) ?_
      refine lv_iconst (v := (-1)) hx hb dX12_site_31 (by decide) ?_
      refine lv_iconst (v := 0) hx hb dX12_site_32 (by decide) ?_
      refine th_goiH hS rfl (th_runV (As := [.int 5, .int (-1), .int c, .int (-1), .int 0]) (rest := []) C hS.1 (RX12, TX12, 151) rfl gV_RX12_421 F.1 (t_X12_place li_5 li_n1 iz_c li_n1 li_0 F.1 (F.2.2.1 (10, 0) (by decide)) (F.2.2.1 (2, 0) (by decide)) hv_f13 hk_f13 hv_f14 hk_f14 hv_f15 hk_f15 hv_f16 hk_f16 hv_f17 hk_f17 hv_f18 hk_f18) hl rfl rfl rfl rfl ⟨Nat.le_of_ble_eq_true rfl, Nat.le_of_ble_eq_true rfl⟩ (Nat.le_of_ble_eq_true rfl) ⟨Nat.le_of_ble_eq_true rfl, Nat.le_of_ble_eq_true rfl⟩ dX12_site_33) (fun r4181 K4183 V4184 H locs1 hq4182 hE4185 hS => ?_)
      have hr4187 := hq4182
      exact th_retiH (post := fun r K1 V1 => (((0 ≤ c_i ∧ c_i ≤ 63) ∧ r.toInt = 0) ∨ ((0 > c_i ∨ c_i > 63) ∧ r.toInt = (-1)))) (cells := 0) (slots := 0) (mc := 0) (ms := 0) C hS (Or.inl ⟨by omega, by omega⟩) (Nat.le_of_ble_eq_true rfl) (Nat.le_of_ble_eq_true rfl) dX12_site_36

set_option maxHeartbeats 400000 in
set_option maxRecDepth 100000 in
theorem t_X12_feed {l : Launch} {D : va_G} {dA : Nat → ClassId} {K : Kmap} {V : Vmap} {sz : Nat} {x : Nat} {a b c d e1 : Int32} {a_i b_i c_i d_i e1_i : Int} (iz_a : a.toInt = a_i) (iz_b : b.toInt = b_i) (iz_c : c.toInt = c_i) (iz_d : d.toInt = d_i) (iz_e1 : e1.toInt = e1_i) (F : FM K V x) : Met l yX12_feed (wsOf yX12_feed cX12_feed 6 (some .int)) { frames := 1, cells := 0, slots := 0, locals := 22 } (PC D dA K V sz [.ref x, .int a, .int b, .int c, .int d, .int e1]) (HQi D dA K (fun r K1 V1 => ((r.toInt = 20)))) 0 0 (AK K sz) := by
  refine th_body (by decide +kernel) (Nat.le_of_ble_eq_true rfl) (fun pZ eZ sZ mZ belowZ methZ cZ C hR hsz hnm ls hl => ?_)
  have C : CX pZ sZ mZ [.ref x, .int a, .int b, .int c, .int d, .int e1].toArray methZ cZ cX12_feed 6 (some .int) RX12 D dA := C
  have hx := C.1; have hb := C.2.1
  have hl : lv_has ls 6 [(0, .ref x), (1, .int a), (2, .int b), (3, .int c), (4, .int d), (5, .int e1)] := hl
  subst hsz
  have hS : ST D dA K sZ.heap K V sZ.heap [] := ST.rf hR
  have r_a := th_rng a; rw [iz_a] at r_a
  have r_b := th_rng b; rw [iz_b] at r_b
  have r_c := th_rng c; rw [iz_c] at r_c
  have r_d := th_rng d; rw [iz_d] at r_d
  have r_e1 := th_rng e1; rw [iz_e1] at r_e1
  have F0 := F
  obtain ⟨f29, hv_f29, hk_f29⟩ := F.2.1 (29, (3, 400)) (by decide)
  refine lv_aload_n hx hb dX12_feed_0 rfl (lv_at hl 0 rfl) ?_
  refine th_get C hS.1 F.1 fl_RX12_436 (F.2.2.1 (30, 0) (by decide)) dX12_feed_1 ?_
  refine lv_bipush (v := 20) hx hb dX12_feed_4 (by decide) ?_
  refine lv_iadd hx hb dX12_feed_6 ?_
  refine th_is (w := .int 20) (by decide) ?_
  refine lv_sipush (v := 400) hx hb dX12_feed_7 (by decide) ?_
  refine th_icmp_le (X := 20) (Y := 400) (tgt := 15) hx hb dX12_feed_10 (by decide) li_20 li_400 (fun c4188 => ?_) (fun c4188 => absurd c4188 (by omega))
  refine lv_aload_n hx hb dX12_feed_15 rfl (lv_at hl 0 rfl) ?_
  refine lv_iload_n hx hb dX12_feed_16 rfl (lv_at hl 1 rfl) ?_
  refine th_govH hS rfl (th_runV (As := [.int a]) (rest := []) C hS.1 (RX12, TX12, 151) rfl gV_RX12_439 F.1 (t_X12_types iz_a li_0 F.1 hv_f29 hk_f29 (F.2.2.1 (30, 0) (by decide)) (by omega) (by omega)) hl rfl rfl rfl rfl ⟨Nat.le_of_ble_eq_true rfl, Nat.le_of_ble_eq_true rfl⟩ (Nat.le_of_ble_eq_true rfl) ⟨Nat.le_of_ble_eq_true rfl, Nat.le_of_ble_eq_true rfl⟩ dX12_feed_17) (fun K4191 V4192 H locs1 hq4190 hE4193 hS => ?_)
  obtain ⟨rfl, hF4194, hA4195, ⟨z4197, hA4196, hz4197⟩⟩ := hq4190
  refine lv_aload_n hx hb dX12_feed_20 rfl (lv_at hl 0 rfl) ?_
  refine lv_iload_n hx hb dX12_feed_21 rfl (lv_at hl 2 rfl) ?_
  refine th_govH hS rfl (th_runV (As := [.int b]) (rest := []) C hS.1 (RX12, TX12, 151) rfl gV_RX12_439 F.1 (t_X12_types iz_b hz4197 F.1 hA4195 hk_f29 hA4196 (by omega) (by omega)) hl rfl rfl rfl rfl ⟨Nat.le_of_ble_eq_true rfl, Nat.le_of_ble_eq_true rfl⟩ (Nat.le_of_ble_eq_true rfl) ⟨Nat.le_of_ble_eq_true rfl, Nat.le_of_ble_eq_true rfl⟩ dX12_feed_22) (fun K4201 V4202 H locs1 hq4200 hE4203 hS => ?_)
  obtain ⟨rfl, hF4204, hA4205, ⟨z4207, hA4206, hz4207⟩⟩ := hq4200
  refine lv_aload_n hx hb dX12_feed_25 rfl (lv_at hl 0 rfl) ?_
  refine lv_iload_n hx hb dX12_feed_26 rfl (lv_at hl 3 rfl) ?_
  refine th_govH hS rfl (th_runV (As := [.int c]) (rest := []) C hS.1 (RX12, TX12, 151) rfl gV_RX12_439 F.1 (t_X12_types iz_c hz4207 F.1 hA4205 hk_f29 hA4206 (by omega) (by omega)) hl rfl rfl rfl rfl ⟨Nat.le_of_ble_eq_true rfl, Nat.le_of_ble_eq_true rfl⟩ (Nat.le_of_ble_eq_true rfl) ⟨Nat.le_of_ble_eq_true rfl, Nat.le_of_ble_eq_true rfl⟩ dX12_feed_27) (fun K4211 V4212 H locs1 hq4210 hE4213 hS => ?_)
  obtain ⟨rfl, hF4214, hA4215, ⟨z4217, hA4216, hz4217⟩⟩ := hq4210
  refine lv_aload_n hx hb dX12_feed_30 rfl (lv_at hl 0 rfl) ?_
  refine lv_iload hx hb dX12_feed_31 (lv_at hl 4 rfl) ?_
  refine th_govH hS rfl (th_runV (As := [.int d]) (rest := []) C hS.1 (RX12, TX12, 151) rfl gV_RX12_439 F.1 (t_X12_types iz_d hz4217 F.1 hA4215 hk_f29 hA4216 (by omega) (by omega)) hl rfl rfl rfl rfl ⟨Nat.le_of_ble_eq_true rfl, Nat.le_of_ble_eq_true rfl⟩ (Nat.le_of_ble_eq_true rfl) ⟨Nat.le_of_ble_eq_true rfl, Nat.le_of_ble_eq_true rfl⟩ dX12_feed_33) (fun K4221 V4222 H locs1 hq4220 hE4223 hS => ?_)
  obtain ⟨rfl, hF4224, hA4225, ⟨z4227, hA4226, hz4227⟩⟩ := hq4220
  refine lv_aload_n hx hb dX12_feed_36 rfl (lv_at hl 0 rfl) ?_
  refine lv_iload hx hb dX12_feed_37 (lv_at hl 5 rfl) ?_
  refine th_govH hS rfl (th_runV (As := [.int e1]) (rest := []) C hS.1 (RX12, TX12, 151) rfl gV_RX12_439 F.1 (t_X12_types iz_e1 hz4227 F.1 hA4225 hk_f29 hA4226 (by omega) (by omega)) hl rfl rfl rfl rfl ⟨Nat.le_of_ble_eq_true rfl, Nat.le_of_ble_eq_true rfl⟩ (Nat.le_of_ble_eq_true rfl) ⟨Nat.le_of_ble_eq_true rfl, Nat.le_of_ble_eq_true rfl⟩ dX12_feed_39) (fun K4231 V4232 H locs1 hq4230 hE4233 hS => ?_)
  obtain ⟨rfl, hF4234, hA4235, ⟨z4237, hA4236, hz4237⟩⟩ := hq4230
  refine lv_aload_n hx hb dX12_feed_42 rfl (lv_at hl 0 rfl) ?_
  refine th_get C hS.1 F.1 fl_RX12_436 hA4236 dX12_feed_43 ?_
  exact th_retiH (post := fun r K1 V1 => ((r.toInt = 20))) (cells := 0) (slots := 0) (mc := 0) (ms := 0) C hS (by have hfin := hz4237; omega) (Nat.le_of_ble_eq_true rfl) (Nat.le_of_ble_eq_true rfl) dX12_feed_46

set_option maxHeartbeats 400000 in
set_option maxRecDepth 100000 in
theorem t_X12_text {l : Launch} {D : va_G} {dA : Nat → ClassId} {K : Kmap} {V : Vmap} {sz : Nat} {x : Nat} {fr to n : Int32} {fr_i to_i n_i : Int} (iz_fr : fr.toInt = fr_i) (iz_to : to.toInt = to_i) (iz_n : n.toInt = n_i) (F : FM K V x) : Met l yX12_text (wsOf yX12_text cX12_text 7 (some .int)) { frames := 1, cells := 0, slots := 0, locals := 22 } (PC D dA K V sz [.ref x, .int fr, .int to, .int n]) (PQi (fun r => (r.toInt = (-1)))) 0 0 noFree := by
  refine th_body (by decide +kernel) (Nat.le_of_ble_eq_true rfl) (fun pZ eZ sZ mZ belowZ methZ cZ C hR hsz hnm ls hl => ?_)
  have C : CX pZ sZ mZ [.ref x, .int fr, .int to, .int n].toArray methZ cZ cX12_text 7 (some .int) RX12 D dA := C
  have hx := C.1; have hb := C.2.1
  have hl : lv_has ls 7 [(0, .ref x), (1, .int fr), (2, .int to), (3, .int n)] := hl
  subst hsz
  have hS : ST D dA K sZ.heap K V sZ.heap [] := ST.rf hR
  have r_fr := th_rng fr; rw [iz_fr] at r_fr
  have r_to := th_rng to; rw [iz_to] at r_to
  have r_n := th_rng n; rw [iz_n] at r_n
  have F0 := F
  refine lv_iload_n hx hb dX12_text_0 rfl (lv_at hl 1 rfl) ?_
  refine th_goi (th_runS (As := [.int fr]) (rest := []) C hS.1 gS_RX12_409 (t_X12_isDay iz_fr) hl rfl rfl rfl rfl ⟨Nat.le_of_ble_eq_true rfl, Nat.le_of_ble_eq_true rfl⟩ (Nat.le_of_ble_eq_true rfl) ⟨Nat.le_of_ble_eq_true rfl, Nat.le_of_ble_eq_true rfl⟩ dX12_text_1) (fun r4239 hq4240 => ?_)
  refine th_if_eq (X := r4239.toInt) (tgt := 46) hx hb dX12_text_4 (by decide) rfl (fun c4241 => ?_) (fun c4241 => ?_)
  · replace hq4240 := Or.resolve_left hq4240 (fun h => absurd h.2 (by omega))
    refine lv_iconst (v := (-1)) hx hb dX12_text_46 (by decide) ?_
    exact th_reti C (by have hfin := li_n1; omega) dX12_text_47
  · replace hq4240 := Or.resolve_right hq4240 (fun h => absurd h.2 (by omega))
    refine lv_iload_n hx hb dX12_text_7 rfl (lv_at hl 2 rfl) ?_
    refine lv_iload_n hx hb dX12_text_8 rfl (lv_at hl 1 rfl) ?_
    refine lv_sipush (v := 3599) hx hb dX12_text_9 (by decide) ?_
    refine th_goi (th_runS (As := [.int to, .int fr, .int 3599]) (rest := []) C hS.1 gS_RX12_371 (t_X12_in iz_to iz_fr li_3599) hl rfl rfl rfl rfl ⟨Nat.le_of_ble_eq_true rfl, Nat.le_of_ble_eq_true rfl⟩ (Nat.le_of_ble_eq_true rfl) ⟨Nat.le_of_ble_eq_true rfl, Nat.le_of_ble_eq_true rfl⟩ dX12_text_12) (fun r4242 hq4243 => ?_)
    refine th_if_eq (X := r4242.toInt) (tgt := 46) hx hb dX12_text_15 (by decide) rfl (fun c4244 => ?_) (fun c4244 => ?_)
    · replace hq4243 := Or.resolve_left hq4243 (fun h => absurd h.2 (by omega))
      refine lv_iconst (v := (-1)) hx hb dX12_text_46 (by decide) ?_
      exact th_reti C (by have hfin := li_n1; omega) dX12_text_47
    · replace hq4243 := Or.resolve_right hq4243 (fun h => absurd h.2 (by omega))
      refine lv_iload_n hx hb dX12_text_18 rfl (lv_at hl 3 rfl) ?_
      refine lv_iconst (v := 1) hx hb dX12_text_19 (by decide) ?_
      refine lv_sipush (v := 200) hx hb dX12_text_20 (by decide) ?_
      refine th_goi (th_runS (As := [.int n, .int 1, .int 200]) (rest := []) C hS.1 gS_RX12_371 (t_X12_in iz_n li_1 li_200) hl rfl rfl rfl rfl ⟨Nat.le_of_ble_eq_true rfl, Nat.le_of_ble_eq_true rfl⟩ (Nat.le_of_ble_eq_true rfl) ⟨Nat.le_of_ble_eq_true rfl, Nat.le_of_ble_eq_true rfl⟩ dX12_text_23) (fun r4245 hq4246 => ?_)
      refine th_if_eq (X := r4245.toInt) (tgt := 46) hx hb dX12_text_26 (by decide) rfl (fun c4247 => ?_) (fun c4247 => ?_)
      · replace hq4246 := Or.resolve_left hq4246 (fun h => absurd h.2 (by omega))
        refine lv_iconst (v := (-1)) hx hb dX12_text_46 (by decide) ?_
        exact th_reti C (by have hfin := li_n1; omega) dX12_text_47
      · replace hq4246 := Or.resolve_right hq4246 (fun h => absurd h.2 (by omega))
        refine lv_iload_n hx hb dX12_text_29 rfl (lv_at hl 3 rfl) ?_
        refine lv_aload_n hx hb dX12_text_30 rfl (lv_at hl 0 rfl) ?_
        refine th_get C hS.1 F.1 fl_RX12_436 (F.2.2.1 (30, 0) (by decide)) dX12_text_31 ?_
        refine th_icmp_gt (X := n_i) (Y := 0) (tgt := 46) hx hb dX12_text_34 (by decide) iz_n li_0 (fun c4248 => ?_) (fun c4248 => absurd c4248 (by omega))
        refine lv_iconst (v := (-1)) hx hb dX12_text_46 (by decide) ?_
        exact th_reti C (by have hfin := li_n1; omega) dX12_text_47

set_option maxHeartbeats 400000 in
set_option maxRecDepth 100000 in
theorem t_X12_yes {l : Launch} {D : va_G} {dA : Nat → ClassId} {K : Kmap} {V : Vmap} {sz : Nat} {x : Nat} {p i : Int32} {p_i i_i : Int} (iz_p : p.toInt = p_i) (iz_i : i.toInt = i_i) (F : FM K V x) : Met l yX12_yes (wsOf yX12_yes cX12_yes 3 (some .boolean)) { frames := 1, cells := 0, slots := 0, locals := 21 } (PC D dA K V sz [.ref x, .int p, .int i]) (PQi (fun r => (r.toInt = 0))) 0 0 noFree := by
  refine th_body (by decide +kernel) (Nat.le_of_ble_eq_true rfl) (fun pZ eZ sZ mZ belowZ methZ cZ C hR hsz hnm ls hl => ?_)
  have C : CX pZ sZ mZ [.ref x, .int p, .int i].toArray methZ cZ cX12_yes 3 (some .boolean) RX12 D dA := C
  have hx := C.1; have hb := C.2.1
  have hl : lv_has ls 3 [(0, .ref x), (1, .int p), (2, .int i)] := hl
  subst hsz
  have hS : ST D dA K sZ.heap K V sZ.heap [] := ST.rf hR
  have r_p := th_rng p; rw [iz_p] at r_p
  have r_i := th_rng i; rw [iz_i] at r_i
  have F0 := F
  refine lv_aload_n hx hb dX12_yes_0 rfl (lv_at hl 0 rfl) ?_
  refine lv_iload_n hx hb dX12_yes_1 rfl (lv_at hl 1 rfl) ?_
  refine th_goi (th_runV (As := [.int p]) (rest := []) C hS.1 (RX12, TX12, 151) rfl gV_RX12_406 F.1 (t_X12_isParty iz_p F.1 (F.2.2.1 (9, 0) (by decide))) hl rfl rfl rfl rfl ⟨Nat.le_of_ble_eq_true rfl, Nat.le_of_ble_eq_true rfl⟩ (Nat.le_of_ble_eq_true rfl) ⟨Nat.le_of_ble_eq_true rfl, Nat.le_of_ble_eq_true rfl⟩ dX12_yes_2) (fun r4249 hq4250 => ?_)
  refine th_if_eq (X := r4249.toInt) (tgt := 35) hx hb dX12_yes_5 (by decide) rfl (fun c4251 => ?_) (fun c4251 => absurd c4251 (by omega))
  refine lv_iconst (v := 0) hx hb dX12_yes_35 (by decide) ?_
  exact th_retz C (by have hfin := li_0; omega) (by have hfin := li_0; omega) dX12_yes_36

set_option maxHeartbeats 400000 in
set_option maxRecDepth 100000 in
theorem t_X12_reading {l : Launch} {D : va_G} {dA : Nat → ClassId} {K : Kmap} {V : Vmap} {sz : Nat} {x : Nat} {p i j n : Int32} {p_i i_i j_i n_i : Int} (iz_p : p.toInt = p_i) (iz_i : i.toInt = i_i) (iz_j : j.toInt = j_i) (iz_n : n.toInt = n_i) (F : FM K V x) : Met l yX12_reading (wsOf yX12_reading cX12_reading 7 (some .int)) { frames := 1, cells := 0, slots := 0, locals := 21 } (PC D dA K V sz [.ref x, .int p, .int i, .int j, .int n]) (PQi (fun r => (r.toInt = (-1)))) 0 0 noFree := by
  refine th_body (by decide +kernel) (Nat.le_of_ble_eq_true rfl) (fun pZ eZ sZ mZ belowZ methZ cZ C hR hsz hnm ls hl => ?_)
  have C : CX pZ sZ mZ [.ref x, .int p, .int i, .int j, .int n].toArray methZ cZ cX12_reading 7 (some .int) RX12 D dA := C
  have hx := C.1; have hb := C.2.1
  have hl : lv_has ls 7 [(0, .ref x), (1, .int p), (2, .int i), (3, .int j), (4, .int n)] := hl
  subst hsz
  have hS : ST D dA K sZ.heap K V sZ.heap [] := ST.rf hR
  have r_p := th_rng p; rw [iz_p] at r_p
  have r_i := th_rng i; rw [iz_i] at r_i
  have r_j := th_rng j; rw [iz_j] at r_j
  have r_n := th_rng n; rw [iz_n] at r_n
  have F0 := F
  refine lv_aload_n hx hb dX12_reading_0 rfl (lv_at hl 0 rfl) ?_
  refine lv_iload_n hx hb dX12_reading_1 rfl (lv_at hl 1 rfl) ?_
  refine th_goi (th_runV (As := [.int p]) (rest := []) C hS.1 (RX12, TX12, 151) rfl gV_RX12_406 F.1 (t_X12_isParty iz_p F.1 (F.2.2.1 (9, 0) (by decide))) hl rfl rfl rfl rfl ⟨Nat.le_of_ble_eq_true rfl, Nat.le_of_ble_eq_true rfl⟩ (Nat.le_of_ble_eq_true rfl) ⟨Nat.le_of_ble_eq_true rfl, Nat.le_of_ble_eq_true rfl⟩ dX12_reading_2) (fun r4252 hq4253 => ?_)
  refine th_if_eq (X := r4252.toInt) (tgt := 63) hx hb dX12_reading_5 (by decide) rfl (fun c4254 => ?_) (fun c4254 => absurd c4254 (by omega))
  refine lv_iconst (v := (-1)) hx hb dX12_reading_63 (by decide) ?_
  exact th_reti C (by have hfin := li_n1; omega) dX12_reading_64

set_option maxHeartbeats 400000 in
set_option maxRecDepth 100000 in
theorem t_X12_counts {l : Launch} {D : va_G} {dA : Nat → ClassId} {K : Kmap} {V : Vmap} {sz : Nat} {x : Nat} {i p dy : Int32} {i_i p_i dy_i : Int} (iz_i : i.toInt = i_i) (iz_p : p.toInt = p_i) (iz_dy : dy.toInt = dy_i) (F : FM K V x) : Met l yX12_counts (wsOf yX12_counts cX12_counts 6 (some .int)) { frames := 1, cells := 0, slots := 0, locals := 21 } (PC D dA K V sz [.ref x, .int i, .int p, .int dy]) (PQi (fun r => (r.toInt = (-1)))) 0 0 noFree := by
  refine th_body (by decide +kernel) (Nat.le_of_ble_eq_true rfl) (fun pZ eZ sZ mZ belowZ methZ cZ C hR hsz hnm ls hl => ?_)
  have C : CX pZ sZ mZ [.ref x, .int i, .int p, .int dy].toArray methZ cZ cX12_counts 6 (some .int) RX12 D dA := C
  have hx := C.1; have hb := C.2.1
  have hl : lv_has ls 6 [(0, .ref x), (1, .int i), (2, .int p), (3, .int dy)] := hl
  subst hsz
  have hS : ST D dA K sZ.heap K V sZ.heap [] := ST.rf hR
  have r_i := th_rng i; rw [iz_i] at r_i
  have r_p := th_rng p; rw [iz_p] at r_p
  have r_dy := th_rng dy; rw [iz_dy] at r_dy
  have F0 := F
  refine lv_aload_n hx hb dX12_counts_0 rfl (lv_at hl 0 rfl) ?_
  refine lv_iload_n hx hb dX12_counts_1 rfl (lv_at hl 1 rfl) ?_
  refine th_goi (th_runV (As := [.int i]) (rest := []) C hS.1 (RX12, TX12, 151) rfl gV_RX12_541 F.1 (t_X12_isText iz_i F.1 (F.2.2.1 (47, 0) (by decide))) hl rfl rfl rfl rfl ⟨Nat.le_of_ble_eq_true rfl, Nat.le_of_ble_eq_true rfl⟩ (Nat.le_of_ble_eq_true rfl) ⟨Nat.le_of_ble_eq_true rfl, Nat.le_of_ble_eq_true rfl⟩ dX12_counts_2) (fun r4255 hq4256 => ?_)
  refine th_if_eq (X := r4255.toInt) (tgt := 23) hx hb dX12_counts_5 (by decide) rfl (fun c4257 => ?_) (fun c4257 => absurd c4257 (by omega))
  refine lv_iconst (v := (-1)) hx hb dX12_counts_23 (by decide) ?_
  exact th_reti C (by have hfin := li_n1; omega) dX12_counts_24

set_option maxHeartbeats 400000 in
set_option maxRecDepth 100000 in
theorem t_X12_number {l : Launch} {D : va_G} {dA : Nat → ClassId} {K : Kmap} {V : Vmap} {sz : Nat} {x : Nat} {wh p dy : Int32} {wh_i p_i dy_i : Int} (iz_wh : wh.toInt = wh_i) (iz_p : p.toInt = p_i) (iz_dy : dy.toInt = dy_i) (F : FM K V x) : Met l yX12_number (wsOf yX12_number cX12_number 4 (some .int)) { frames := 1, cells := 0, slots := 0, locals := 21 } (PC D dA K V sz [.ref x, .int wh, .int p, .int dy]) (PQi (fun r => (r.toInt = (-1)))) 0 0 noFree := by
  refine th_body (by decide +kernel) (Nat.le_of_ble_eq_true rfl) (fun pZ eZ sZ mZ belowZ methZ cZ C hR hsz hnm ls hl => ?_)
  have C : CX pZ sZ mZ [.ref x, .int wh, .int p, .int dy].toArray methZ cZ cX12_number 4 (some .int) RX12 D dA := C
  have hx := C.1; have hb := C.2.1
  have hl : lv_has ls 4 [(0, .ref x), (1, .int wh), (2, .int p), (3, .int dy)] := hl
  subst hsz
  have hS : ST D dA K sZ.heap K V sZ.heap [] := ST.rf hR
  have r_wh := th_rng wh; rw [iz_wh] at r_wh
  have r_p := th_rng p; rw [iz_p] at r_p
  have r_dy := th_rng dy; rw [iz_dy] at r_dy
  have F0 := F
  refine lv_aload_n hx hb dX12_number_0 rfl (lv_at hl 0 rfl) ?_
  refine lv_iload_n hx hb dX12_number_1 rfl (lv_at hl 2 rfl) ?_
  refine th_goi (th_runV (As := [.int p]) (rest := []) C hS.1 (RX12, TX12, 151) rfl gV_RX12_406 F.1 (t_X12_isParty iz_p F.1 (F.2.2.1 (9, 0) (by decide))) hl rfl rfl rfl rfl ⟨Nat.le_of_ble_eq_true rfl, Nat.le_of_ble_eq_true rfl⟩ (Nat.le_of_ble_eq_true rfl) ⟨Nat.le_of_ble_eq_true rfl, Nat.le_of_ble_eq_true rfl⟩ dX12_number_2) (fun r4258 hq4259 => ?_)
  refine th_if_eq (X := r4258.toInt) (tgt := 15) hx hb dX12_number_5 (by decide) rfl (fun c4260 => ?_) (fun c4260 => absurd c4260 (by omega))
  refine lv_iconst (v := (-1)) hx hb dX12_number_15 (by decide) ?_
  exact th_reti C (by have hfin := li_n1; omega) dX12_number_16

set_option maxHeartbeats 400000 in
set_option maxRecDepth 100000 in
theorem t_X12_decides {l : Launch} {D : va_G} {dA : Nat → ClassId} {K : Kmap} {V : Vmap} {sz : Nat} {x : Nat} {p dy : Int32} {p_i dy_i : Int} (iz_p : p.toInt = p_i) (iz_dy : dy.toInt = dy_i) (F : FM K V x) : Met l yX12_decides (wsOf yX12_decides cX12_decides 3 (some .int)) { frames := 1, cells := 0, slots := 0, locals := 21 } (PC D dA K V sz [.ref x, .int p, .int dy]) (PQi (fun r => (r.toInt = (-1)))) 0 0 noFree := by
  refine th_body (by decide +kernel) (Nat.le_of_ble_eq_true rfl) (fun pZ eZ sZ mZ belowZ methZ cZ C hR hsz hnm ls hl => ?_)
  have C : CX pZ sZ mZ [.ref x, .int p, .int dy].toArray methZ cZ cX12_decides 3 (some .int) RX12 D dA := C
  have hx := C.1; have hb := C.2.1
  have hl : lv_has ls 3 [(0, .ref x), (1, .int p), (2, .int dy)] := hl
  subst hsz
  have hS : ST D dA K sZ.heap K V sZ.heap [] := ST.rf hR
  have r_p := th_rng p; rw [iz_p] at r_p
  have r_dy := th_rng dy; rw [iz_dy] at r_dy
  have F0 := F
  refine lv_aload_n hx hb dX12_decides_0 rfl (lv_at hl 0 rfl) ?_
  refine lv_iload_n hx hb dX12_decides_1 rfl (lv_at hl 1 rfl) ?_
  refine th_goi (th_runV (As := [.int p]) (rest := []) C hS.1 (RX12, TX12, 151) rfl gV_RX12_406 F.1 (t_X12_isParty iz_p F.1 (F.2.2.1 (9, 0) (by decide))) hl rfl rfl rfl rfl ⟨Nat.le_of_ble_eq_true rfl, Nat.le_of_ble_eq_true rfl⟩ (Nat.le_of_ble_eq_true rfl) ⟨Nat.le_of_ble_eq_true rfl, Nat.le_of_ble_eq_true rfl⟩ dX12_decides_2) (fun r4261 hq4262 => ?_)
  refine th_if_eq (X := r4261.toInt) (tgt := 15) hx hb dX12_decides_5 (by decide) rfl (fun c4263 => ?_) (fun c4263 => absurd c4263 (by omega))
  refine lv_iconst (v := (-1)) hx hb dX12_decides_15 (by decide) ?_
  exact th_reti C (by have hfin := li_n1; omega) dX12_decides_16

set_option maxHeartbeats 400000 in
set_option maxRecDepth 100000 in
theorem t_X12_work {l : Launch} {D : va_G} {dA : Nat → ClassId} {K : Kmap} {V : Vmap} {sz : Nat} {x : Nat} {kd p c fr to pe noi : Int32} {kd_i p_i c_i fr_i to_i pe_i noi_i : Int} (iz_kd : kd.toInt = kd_i) (iz_p : p.toInt = p_i) (iz_c : c.toInt = c_i) (iz_fr : fr.toInt = fr_i) (iz_to : to.toInt = to_i) (iz_pe : pe.toInt = pe_i) (iz_noi : noi.toInt = noi_i) (F : FM K V x) : Met l yX12_work (wsOf yX12_work cX12_work 9 (some .int)) { frames := 1, cells := 0, slots := 0, locals := 22 } (PC D dA K V sz [.ref x, .int kd, .int p, .int c, .int fr, .int to, .int pe, .int noi]) (PQi (fun r => (r.toInt = (-1)))) 0 0 noFree := by
  refine th_body (by decide +kernel) (Nat.le_of_ble_eq_true rfl) (fun pZ eZ sZ mZ belowZ methZ cZ C hR hsz hnm ls hl => ?_)
  have C : CX pZ sZ mZ [.ref x, .int kd, .int p, .int c, .int fr, .int to, .int pe, .int noi].toArray methZ cZ cX12_work 9 (some .int) RX12 D dA := C
  have hx := C.1; have hb := C.2.1
  have hl : lv_has ls 9 [(0, .ref x), (1, .int kd), (2, .int p), (3, .int c), (4, .int fr), (5, .int to), (6, .int pe), (7, .int noi)] := hl
  subst hsz
  have hS : ST D dA K sZ.heap K V sZ.heap [] := ST.rf hR
  have r_kd := th_rng kd; rw [iz_kd] at r_kd
  have r_p := th_rng p; rw [iz_p] at r_p
  have r_c := th_rng c; rw [iz_c] at r_c
  have r_fr := th_rng fr; rw [iz_fr] at r_fr
  have r_to := th_rng to; rw [iz_to] at r_to
  have r_pe := th_rng pe; rw [iz_pe] at r_pe
  have r_noi := th_rng noi; rw [iz_noi] at r_noi
  have F0 := F
  refine lv_iload_n hx hb dX12_work_0 rfl (lv_at hl 1 rfl) ?_
  refine lv_iconst (v := 0) hx hb dX12_work_1 (by decide) ?_
  refine lv_bipush (v := 9) hx hb dX12_work_2 (by decide) ?_
  refine th_goi (th_runS (As := [.int kd, .int 0, .int 9]) (rest := []) C hS.1 gS_RX12_371 (t_X12_in iz_kd li_0 li_9) hl rfl rfl rfl rfl ⟨Nat.le_of_ble_eq_true rfl, Nat.le_of_ble_eq_true rfl⟩ (Nat.le_of_ble_eq_true rfl) ⟨Nat.le_of_ble_eq_true rfl, Nat.le_of_ble_eq_true rfl⟩ dX12_work_4) (fun r4264 hq4265 => ?_)
  refine th_if_eq (X := r4264.toInt) (tgt := 86) hx hb dX12_work_7 (by decide) rfl (fun c4266 => ?_) (fun c4266 => ?_)
  · replace hq4265 := Or.resolve_left hq4265 (fun h => absurd h.2 (by omega))
    refine lv_iconst (v := (-1)) hx hb dX12_work_86 (by decide) ?_
    exact th_reti C (by have hfin := li_n1; omega) dX12_work_87
  · replace hq4265 := Or.resolve_right hq4265 (fun h => absurd h.2 (by omega))
    refine lv_aload_n hx hb dX12_work_10 rfl (lv_at hl 0 rfl) ?_
    refine lv_iload_n hx hb dX12_work_11 rfl (lv_at hl 2 rfl) ?_
    refine th_goi (th_runV (As := [.int p]) (rest := []) C hS.1 (RX12, TX12, 151) rfl gV_RX12_406 F.1 (t_X12_isParty iz_p F.1 (F.2.2.1 (9, 0) (by decide))) hl rfl rfl rfl rfl ⟨Nat.le_of_ble_eq_true rfl, Nat.le_of_ble_eq_true rfl⟩ (Nat.le_of_ble_eq_true rfl) ⟨Nat.le_of_ble_eq_true rfl, Nat.le_of_ble_eq_true rfl⟩ dX12_work_12) (fun r4267 hq4268 => ?_)
    refine th_if_eq (X := r4267.toInt) (tgt := 86) hx hb dX12_work_15 (by decide) rfl (fun c4269 => ?_) (fun c4269 => absurd c4269 (by omega))
    refine lv_iconst (v := (-1)) hx hb dX12_work_86 (by decide) ?_
    exact th_reti C (by have hfin := li_n1; omega) dX12_work_87

set_option maxHeartbeats 400000 in
set_option maxRecDepth 100000 in
theorem t_X12_tell {l : Launch} {D : va_G} {dA : Nat → ClassId} {K : Kmap} {V : Vmap} {sz : Nat} {x : Nat} {w wh : Int32} {w_i wh_i : Int} (iz_w : w.toInt = w_i) (iz_wh : wh.toInt = wh_i) (F : FM K V x) : Met l yX12_tell (wsOf yX12_tell cX12_tell 3 (some .boolean)) { frames := 1, cells := 0, slots := 0, locals := 21 } (PC D dA K V sz [.ref x, .int w, .int wh]) (PQi (fun r => (r.toInt = 0))) 0 0 noFree := by
  refine th_body (by decide +kernel) (Nat.le_of_ble_eq_true rfl) (fun pZ eZ sZ mZ belowZ methZ cZ C hR hsz hnm ls hl => ?_)
  have C : CX pZ sZ mZ [.ref x, .int w, .int wh].toArray methZ cZ cX12_tell 3 (some .boolean) RX12 D dA := C
  have hx := C.1; have hb := C.2.1
  have hl : lv_has ls 3 [(0, .ref x), (1, .int w), (2, .int wh)] := hl
  subst hsz
  have hS : ST D dA K sZ.heap K V sZ.heap [] := ST.rf hR
  have r_w := th_rng w; rw [iz_w] at r_w
  have r_wh := th_rng wh; rw [iz_wh] at r_wh
  have F0 := F
  refine lv_aload_n hx hb dX12_tell_0 rfl (lv_at hl 0 rfl) ?_
  refine lv_iload_n hx hb dX12_tell_1 rfl (lv_at hl 1 rfl) ?_
  refine th_goi (th_runV (As := [.int w]) (rest := []) C hS.1 (RX12, TX12, 151) rfl gV_RX12_566 F.1 (t_X12_isWork iz_w F.1 (F.2.2.1 (66, 0) (by decide))) hl rfl rfl rfl rfl ⟨Nat.le_of_ble_eq_true rfl, Nat.le_of_ble_eq_true rfl⟩ (Nat.le_of_ble_eq_true rfl) ⟨Nat.le_of_ble_eq_true rfl, Nat.le_of_ble_eq_true rfl⟩ dX12_tell_2) (fun r4270 hq4271 => ?_)
  refine th_if_eq (X := r4270.toInt) (tgt := 40) hx hb dX12_tell_5 (by decide) rfl (fun c4272 => ?_) (fun c4272 => absurd c4272 (by omega))
  refine lv_iconst (v := 0) hx hb dX12_tell_40 (by decide) ?_
  exact th_retz C (by have hfin := li_0; omega) (by have hfin := li_0; omega) dX12_tell_41

set_option maxHeartbeats 400000 in
set_option maxRecDepth 100000 in
theorem t_X12_study {l : Launch} {D : va_G} {dA : Nat → ClassId} {K : Kmap} {V : Vmap} {sz : Nat} {x : Nat} {w ha : Int32} {w_i ha_i : Int} (iz_w : w.toInt = w_i) (iz_ha : ha.toInt = ha_i) (F : FM K V x) : Met l yX12_study (wsOf yX12_study cX12_study 3 (some .boolean)) { frames := 1, cells := 0, slots := 0, locals := 21 } (PC D dA K V sz [.ref x, .int w, .int ha]) (PQi (fun r => (r.toInt = 0))) 0 0 noFree := by
  refine th_body (by decide +kernel) (Nat.le_of_ble_eq_true rfl) (fun pZ eZ sZ mZ belowZ methZ cZ C hR hsz hnm ls hl => ?_)
  have C : CX pZ sZ mZ [.ref x, .int w, .int ha].toArray methZ cZ cX12_study 3 (some .boolean) RX12 D dA := C
  have hx := C.1; have hb := C.2.1
  have hl : lv_has ls 3 [(0, .ref x), (1, .int w), (2, .int ha)] := hl
  subst hsz
  have hS : ST D dA K sZ.heap K V sZ.heap [] := ST.rf hR
  have r_w := th_rng w; rw [iz_w] at r_w
  have r_ha := th_rng ha; rw [iz_ha] at r_ha
  have F0 := F
  refine lv_aload_n hx hb dX12_study_0 rfl (lv_at hl 0 rfl) ?_
  refine lv_iload_n hx hb dX12_study_1 rfl (lv_at hl 1 rfl) ?_
  refine th_goi (th_runV (As := [.int w]) (rest := []) C hS.1 (RX12, TX12, 151) rfl gV_RX12_566 F.1 (t_X12_isWork iz_w F.1 (F.2.2.1 (66, 0) (by decide))) hl rfl rfl rfl rfl ⟨Nat.le_of_ble_eq_true rfl, Nat.le_of_ble_eq_true rfl⟩ (Nat.le_of_ble_eq_true rfl) ⟨Nat.le_of_ble_eq_true rfl, Nat.le_of_ble_eq_true rfl⟩ dX12_study_2) (fun r4273 hq4274 => ?_)
  refine th_if_eq (X := r4273.toInt) (tgt := 29) hx hb dX12_study_5 (by decide) rfl (fun c4275 => ?_) (fun c4275 => absurd c4275 (by omega))
  refine lv_iconst (v := 0) hx hb dX12_study_29 (by decide) ?_
  exact th_retz C (by have hfin := li_0; omega) (by have hfin := li_0; omega) dX12_study_30

set_option maxHeartbeats 400000 in
set_option maxRecDepth 100000 in
theorem t_X12_say {l : Launch} {D : va_G} {dA : Nat → ClassId} {K : Kmap} {V : Vmap} {sz : Nat} {x : Nat} {p w ye : Int32} {p_i w_i ye_i : Int} (iz_p : p.toInt = p_i) (iz_w : w.toInt = w_i) (iz_ye : ye.toInt = ye_i) (F : FM K V x) : Met l yX12_say (wsOf yX12_say cX12_say 4 (some .boolean)) { frames := 1, cells := 0, slots := 0, locals := 21 } (PC D dA K V sz [.ref x, .int p, .int w, .int ye]) (PQi (fun r => (r.toInt = 0))) 0 0 noFree := by
  refine th_body (by decide +kernel) (Nat.le_of_ble_eq_true rfl) (fun pZ eZ sZ mZ belowZ methZ cZ C hR hsz hnm ls hl => ?_)
  have C : CX pZ sZ mZ [.ref x, .int p, .int w, .int ye].toArray methZ cZ cX12_say 4 (some .boolean) RX12 D dA := C
  have hx := C.1; have hb := C.2.1
  have hl : lv_has ls 4 [(0, .ref x), (1, .int p), (2, .int w), (3, .int ye)] := hl
  subst hsz
  have hS : ST D dA K sZ.heap K V sZ.heap [] := ST.rf hR
  have r_p := th_rng p; rw [iz_p] at r_p
  have r_w := th_rng w; rw [iz_w] at r_w
  have r_ye := th_rng ye; rw [iz_ye] at r_ye
  have F0 := F
  refine lv_aload_n hx hb dX12_say_0 rfl (lv_at hl 0 rfl) ?_
  refine lv_iload_n hx hb dX12_say_1 rfl (lv_at hl 1 rfl) ?_
  refine th_goi (th_runV (As := [.int p]) (rest := []) C hS.1 (RX12, TX12, 151) rfl gV_RX12_406 F.1 (t_X12_isParty iz_p F.1 (F.2.2.1 (9, 0) (by decide))) hl rfl rfl rfl rfl ⟨Nat.le_of_ble_eq_true rfl, Nat.le_of_ble_eq_true rfl⟩ (Nat.le_of_ble_eq_true rfl) ⟨Nat.le_of_ble_eq_true rfl, Nat.le_of_ble_eq_true rfl⟩ dX12_say_2) (fun r4276 hq4277 => ?_)
  refine th_if_eq (X := r4276.toInt) (tgt := 16) hx hb dX12_say_5 (by decide) rfl (fun c4278 => ?_) (fun c4278 => absurd c4278 (by omega))
  refine lv_iconst (v := 0) hx hb dX12_say_16 (by decide) ?_
  exact th_retz C (by have hfin := li_0; omega) (by have hfin := li_0; omega) dX12_say_17

set_option maxHeartbeats 400000 in
set_option maxRecDepth 100000 in
theorem t_X12_may {l : Launch} {D : va_G} {dA : Nat → ClassId} {K : Kmap} {V : Vmap} {sz : Nat} {x : Nat} {w dy ow : Int32} {w_i dy_i ow_i : Int} (iz_w : w.toInt = w_i) (iz_dy : dy.toInt = dy_i) (iz_ow : ow.toInt = ow_i) (F : FM K V x) : Met l yX12_may (wsOf yX12_may cX12_may 4 (some .int)) { frames := 1, cells := 0, slots := 0, locals := 21 } (PC D dA K V sz [.ref x, .int w, .int dy, .int ow]) (PQi (fun r => (r.toInt = (-1)))) 0 0 noFree := by
  refine th_body (by decide +kernel) (Nat.le_of_ble_eq_true rfl) (fun pZ eZ sZ mZ belowZ methZ cZ C hR hsz hnm ls hl => ?_)
  have C : CX pZ sZ mZ [.ref x, .int w, .int dy, .int ow].toArray methZ cZ cX12_may 4 (some .int) RX12 D dA := C
  have hx := C.1; have hb := C.2.1
  have hl : lv_has ls 4 [(0, .ref x), (1, .int w), (2, .int dy), (3, .int ow)] := hl
  subst hsz
  have hS : ST D dA K sZ.heap K V sZ.heap [] := ST.rf hR
  have r_w := th_rng w; rw [iz_w] at r_w
  have r_dy := th_rng dy; rw [iz_dy] at r_dy
  have r_ow := th_rng ow; rw [iz_ow] at r_ow
  have F0 := F
  refine lv_aload_n hx hb dX12_may_0 rfl (lv_at hl 0 rfl) ?_
  refine lv_iload_n hx hb dX12_may_1 rfl (lv_at hl 1 rfl) ?_
  refine th_goi (th_runV (As := [.int w]) (rest := []) C hS.1 (RX12, TX12, 151) rfl gV_RX12_566 F.1 (t_X12_isWork iz_w F.1 (F.2.2.1 (66, 0) (by decide))) hl rfl rfl rfl rfl ⟨Nat.le_of_ble_eq_true rfl, Nat.le_of_ble_eq_true rfl⟩ (Nat.le_of_ble_eq_true rfl) ⟨Nat.le_of_ble_eq_true rfl, Nat.le_of_ble_eq_true rfl⟩ dX12_may_2) (fun r4279 hq4280 => ?_)
  refine th_if_eq (X := r4279.toInt) (tgt := 25) hx hb dX12_may_5 (by decide) rfl (fun c4281 => ?_) (fun c4281 => absurd c4281 (by omega))
  refine lv_iconst (v := (-1)) hx hb dX12_may_25 (by decide) ?_
  exact th_reti C (by have hfin := li_n1; omega) dX12_may_26

set_option maxHeartbeats 400000 in
set_option maxRecDepth 100000 in
theorem t_X12_why {l : Launch} {D : va_G} {dA : Nat → ClassId} {K : Kmap} {V : Vmap} {sz : Nat} {x : Nat} {w dy ow wh : Int32} {w_i dy_i ow_i wh_i : Int} (iz_w : w.toInt = w_i) (iz_dy : dy.toInt = dy_i) (iz_ow : ow.toInt = ow_i) (iz_wh : wh.toInt = wh_i) (F : FM K V x) : Met l yX12_why (wsOf yX12_why cX12_why 5 (some .int)) { frames := 1, cells := 0, slots := 0, locals := 21 } (PC D dA K V sz [.ref x, .int w, .int dy, .int ow, .int wh]) (PQi (fun r => (r.toInt = (-1)))) 0 0 noFree := by
  refine th_body (by decide +kernel) (Nat.le_of_ble_eq_true rfl) (fun pZ eZ sZ mZ belowZ methZ cZ C hR hsz hnm ls hl => ?_)
  have C : CX pZ sZ mZ [.ref x, .int w, .int dy, .int ow, .int wh].toArray methZ cZ cX12_why 5 (some .int) RX12 D dA := C
  have hx := C.1; have hb := C.2.1
  have hl : lv_has ls 5 [(0, .ref x), (1, .int w), (2, .int dy), (3, .int ow), (4, .int wh)] := hl
  subst hsz
  have hS : ST D dA K sZ.heap K V sZ.heap [] := ST.rf hR
  have r_w := th_rng w; rw [iz_w] at r_w
  have r_dy := th_rng dy; rw [iz_dy] at r_dy
  have r_ow := th_rng ow; rw [iz_ow] at r_ow
  have r_wh := th_rng wh; rw [iz_wh] at r_wh
  have F0 := F
  refine lv_aload_n hx hb dX12_why_0 rfl (lv_at hl 0 rfl) ?_
  refine lv_iload_n hx hb dX12_why_1 rfl (lv_at hl 1 rfl) ?_
  refine th_goi (th_runV (As := [.int w]) (rest := []) C hS.1 (RX12, TX12, 151) rfl gV_RX12_566 F.1 (t_X12_isWork iz_w F.1 (F.2.2.1 (66, 0) (by decide))) hl rfl rfl rfl rfl ⟨Nat.le_of_ble_eq_true rfl, Nat.le_of_ble_eq_true rfl⟩ (Nat.le_of_ble_eq_true rfl) ⟨Nat.le_of_ble_eq_true rfl, Nat.le_of_ble_eq_true rfl⟩ dX12_why_2) (fun r4282 hq4283 => ?_)
  refine th_if_eq (X := r4282.toInt) (tgt := 35) hx hb dX12_why_5 (by decide) rfl (fun c4284 => ?_) (fun c4284 => absurd c4284 (by omega))
  refine lv_iconst (v := (-1)) hx hb dX12_why_35 (by decide) ?_
  exact th_reti C (by have hfin := li_n1; omega) dX12_why_36

set_option maxHeartbeats 400000 in
set_option maxRecDepth 100000 in
theorem t_X12_whose {l : Launch} {D : va_G} {dA : Nat → ClassId} {K : Kmap} {V : Vmap} {sz : Nat} {x : Nat} {p c : Int32} {p_i c_i : Int} (iz_p : p.toInt = p_i) (iz_c : c.toInt = c_i) (F : FM K V x) : Met l yX12_whose (wsOf yX12_whose cX12_whose 5 (some .int)) { frames := 1, cells := 0, slots := 0, locals := 21 } (PC D dA K V sz [.ref x, .int p, .int c]) (PQi (fun r => (r.toInt = (-1)))) 0 0 noFree := by
  refine th_body (by decide +kernel) (Nat.le_of_ble_eq_true rfl) (fun pZ eZ sZ mZ belowZ methZ cZ C hR hsz hnm ls hl => ?_)
  have C : CX pZ sZ mZ [.ref x, .int p, .int c].toArray methZ cZ cX12_whose 5 (some .int) RX12 D dA := C
  have hx := C.1; have hb := C.2.1
  have hl : lv_has ls 5 [(0, .ref x), (1, .int p), (2, .int c)] := hl
  subst hsz
  have hS : ST D dA K sZ.heap K V sZ.heap [] := ST.rf hR
  have r_p := th_rng p; rw [iz_p] at r_p
  have r_c := th_rng c; rw [iz_c] at r_c
  have F0 := F
  refine lv_aload_n hx hb dX12_whose_0 rfl (lv_at hl 0 rfl) ?_
  refine lv_iload_n hx hb dX12_whose_1 rfl (lv_at hl 1 rfl) ?_
  refine th_goi (th_runV (As := [.int p]) (rest := []) C hS.1 (RX12, TX12, 151) rfl gV_RX12_406 F.1 (t_X12_isParty iz_p F.1 (F.2.2.1 (9, 0) (by decide))) hl rfl rfl rfl rfl ⟨Nat.le_of_ble_eq_true rfl, Nat.le_of_ble_eq_true rfl⟩ (Nat.le_of_ble_eq_true rfl) ⟨Nat.le_of_ble_eq_true rfl, Nat.le_of_ble_eq_true rfl⟩ dX12_whose_2) (fun r4285 hq4286 => ?_)
  refine th_if_eq (X := r4285.toInt) (tgt := 16) hx hb dX12_whose_5 (by decide) rfl (fun c4287 => ?_) (fun c4287 => absurd c4287 (by omega))
  refine lv_iconst (v := (-1)) hx hb dX12_whose_16 (by decide) ?_
  exact th_reti C (by have hfin := li_n1; omega) dX12_whose_17

set_option maxHeartbeats 400000 in
set_option maxRecDepth 100000 in
theorem t_X12_ship {l : Launch} {D : va_G} {dA : Nat → ClassId} {K : Kmap} {V : Vmap} {sz : Nat} {x : Nat} {p ro stg : Int32} {p_i ro_i stg_i : Int} (iz_p : p.toInt = p_i) (iz_ro : ro.toInt = ro_i) (iz_stg : stg.toInt = stg_i) (F : FM K V x) : Met l yX12_ship (wsOf yX12_ship cX12_ship 4 (some .int)) { frames := 1, cells := 0, slots := 0, locals := 21 } (PC D dA K V sz [.ref x, .int p, .int ro, .int stg]) (PQi (fun r => (r.toInt = (-1)))) 0 0 noFree := by
  refine th_body (by decide +kernel) (Nat.le_of_ble_eq_true rfl) (fun pZ eZ sZ mZ belowZ methZ cZ C hR hsz hnm ls hl => ?_)
  have C : CX pZ sZ mZ [.ref x, .int p, .int ro, .int stg].toArray methZ cZ cX12_ship 4 (some .int) RX12 D dA := C
  have hx := C.1; have hb := C.2.1
  have hl : lv_has ls 4 [(0, .ref x), (1, .int p), (2, .int ro), (3, .int stg)] := hl
  subst hsz
  have hS : ST D dA K sZ.heap K V sZ.heap [] := ST.rf hR
  have r_p := th_rng p; rw [iz_p] at r_p
  have r_ro := th_rng ro; rw [iz_ro] at r_ro
  have r_stg := th_rng stg; rw [iz_stg] at r_stg
  have F0 := F
  refine lv_aload_n hx hb dX12_ship_0 rfl (lv_at hl 0 rfl) ?_
  refine lv_iload_n hx hb dX12_ship_1 rfl (lv_at hl 1 rfl) ?_
  refine th_goi (th_runV (As := [.int p]) (rest := []) C hS.1 (RX12, TX12, 151) rfl gV_RX12_406 F.1 (t_X12_isParty iz_p F.1 (F.2.2.1 (9, 0) (by decide))) hl rfl rfl rfl rfl ⟨Nat.le_of_ble_eq_true rfl, Nat.le_of_ble_eq_true rfl⟩ (Nat.le_of_ble_eq_true rfl) ⟨Nat.le_of_ble_eq_true rfl, Nat.le_of_ble_eq_true rfl⟩ dX12_ship_2) (fun r4288 hq4289 => ?_)
  refine th_if_eq (X := r4288.toInt) (tgt := 38) hx hb dX12_ship_5 (by decide) rfl (fun c4290 => ?_) (fun c4290 => absurd c4290 (by omega))
  refine lv_iconst (v := (-1)) hx hb dX12_ship_38 (by decide) ?_
  exact th_reti C (by have hfin := li_n1; omega) dX12_ship_39

set_option maxHeartbeats 400000 in
set_option maxRecDepth 100000 in
theorem t_X12_cover {l : Launch} {D : va_G} {dA : Nat → ClassId} {K : Kmap} {V : Vmap} {sz : Nat} {x : Nat} {se1 mo n : Int32} {se1_i mo_i n_i : Int} (iz_se1 : se1.toInt = se1_i) (iz_mo : mo.toInt = mo_i) (iz_n : n.toInt = n_i) (F : FM K V x) : Met l yX12_cover (wsOf yX12_cover cX12_cover 4 (some .boolean)) { frames := 1, cells := 0, slots := 0, locals := 22 } (PC D dA K V sz [.ref x, .int se1, .int mo, .int n]) (HQi D dA K (fun r K1 V1 => ((((0 ≤ se1_i ∧ se1_i ≤ 3) ∧ (0 ≤ mo_i ∧ mo_i ≤ 11) ∧ (0 ≤ n_i ∧ n_i ≤ 100)) ∧ r.toInt = 1) ∨ (((0 > se1_i ∨ se1_i > 3) ∨ (0 > mo_i ∨ mo_i > 11) ∨ (0 > n_i ∨ n_i > 100)) ∧ r.toInt = 0)))) 0 0 (AK K sz) := by
  refine th_body (by decide +kernel) (Nat.le_of_ble_eq_true rfl) (fun pZ eZ sZ mZ belowZ methZ cZ C hR hsz hnm ls hl => ?_)
  have C : CX pZ sZ mZ [.ref x, .int se1, .int mo, .int n].toArray methZ cZ cX12_cover 4 (some .boolean) RX12 D dA := C
  have hx := C.1; have hb := C.2.1
  have hl : lv_has ls 4 [(0, .ref x), (1, .int se1), (2, .int mo), (3, .int n)] := hl
  subst hsz
  have hS : ST D dA K sZ.heap K V sZ.heap [] := ST.rf hR
  have r_se1 := th_rng se1; rw [iz_se1] at r_se1
  have r_mo := th_rng mo; rw [iz_mo] at r_mo
  have r_n := th_rng n; rw [iz_n] at r_n
  have F0 := F
  obtain ⟨f105, hv_f105, hk_f105⟩ := F.2.1 (105, (1, 48)) (by decide)
  refine lv_iload_n hx hb dX12_cover_0 rfl (lv_at hl 1 rfl) ?_
  refine th_goi (th_runS (As := [.int se1]) (rest := []) C hS.1 gS_RX12_615 (t_X12_isSea iz_se1) hl rfl rfl rfl rfl ⟨Nat.le_of_ble_eq_true rfl, Nat.le_of_ble_eq_true rfl⟩ (Nat.le_of_ble_eq_true rfl) ⟨Nat.le_of_ble_eq_true rfl, Nat.le_of_ble_eq_true rfl⟩ dX12_cover_1) (fun r4291 hq4292 => ?_)
  refine th_if_eq (X := r4291.toInt) (tgt := 27) hx hb dX12_cover_4 (by decide) rfl (fun c4293 => ?_) (fun c4293 => ?_)
  · replace hq4292 := Or.resolve_left hq4292 (fun h => absurd h.2 (by omega))
    refine lv_iconst (v := 0) hx hb dX12_cover_27 (by decide) ?_
    exact th_retzH (post := fun r K1 V1 => ((((0 ≤ se1_i ∧ se1_i ≤ 3) ∧ (0 ≤ mo_i ∧ mo_i ≤ 11) ∧ (0 ≤ n_i ∧ n_i ≤ 100)) ∧ r.toInt = 1) ∨ (((0 > se1_i ∨ se1_i > 3) ∨ (0 > mo_i ∨ mo_i > 11) ∨ (0 > n_i ∨ n_i > 100)) ∧ r.toInt = 0))) (cells := 0) (slots := 0) (mc := 0) (ms := 0) C hS (by have hfin := li_0; omega) (Or.inr (⟨by omega, li_0⟩)) (Nat.le_of_ble_eq_true rfl) (Nat.le_of_ble_eq_true rfl) dX12_cover_28
  · replace hq4292 := Or.resolve_right hq4292 (fun h => absurd h.2 (by omega))
    refine lv_iload_n hx hb dX12_cover_7 rfl (lv_at hl 2 rfl) ?_
    refine lv_iconst (v := 0) hx hb dX12_cover_8 (by decide) ?_
    refine lv_bipush (v := 11) hx hb dX12_cover_9 (by decide) ?_
    refine th_goi (th_runS (As := [.int mo, .int 0, .int 11]) (rest := []) C hS.1 gS_RX12_371 (t_X12_in iz_mo li_0 li_11) hl rfl rfl rfl rfl ⟨Nat.le_of_ble_eq_true rfl, Nat.le_of_ble_eq_true rfl⟩ (Nat.le_of_ble_eq_true rfl) ⟨Nat.le_of_ble_eq_true rfl, Nat.le_of_ble_eq_true rfl⟩ dX12_cover_11) (fun r4294 hq4295 => ?_)
    refine th_if_eq (X := r4294.toInt) (tgt := 27) hx hb dX12_cover_14 (by decide) rfl (fun c4296 => ?_) (fun c4296 => ?_)
    · replace hq4295 := Or.resolve_left hq4295 (fun h => absurd h.2 (by omega))
      refine lv_iconst (v := 0) hx hb dX12_cover_27 (by decide) ?_
      exact th_retzH (post := fun r K1 V1 => ((((0 ≤ se1_i ∧ se1_i ≤ 3) ∧ (0 ≤ mo_i ∧ mo_i ≤ 11) ∧ (0 ≤ n_i ∧ n_i ≤ 100)) ∧ r.toInt = 1) ∨ (((0 > se1_i ∨ se1_i > 3) ∨ (0 > mo_i ∨ mo_i > 11) ∨ (0 > n_i ∨ n_i > 100)) ∧ r.toInt = 0))) (cells := 0) (slots := 0) (mc := 0) (ms := 0) C hS (by have hfin := li_0; omega) (Or.inr (⟨by omega, li_0⟩)) (Nat.le_of_ble_eq_true rfl) (Nat.le_of_ble_eq_true rfl) dX12_cover_28
    · replace hq4295 := Or.resolve_right hq4295 (fun h => absurd h.2 (by omega))
      refine lv_iload_n hx hb dX12_cover_17 rfl (lv_at hl 3 rfl) ?_
      refine lv_iconst (v := 0) hx hb dX12_cover_18 (by decide) ?_
      refine lv_bipush (v := 100) hx hb dX12_cover_19 (by decide) ?_
      refine th_goi (th_runS (As := [.int n, .int 0, .int 100]) (rest := []) C hS.1 gS_RX12_371 (t_X12_in iz_n li_0 li_100) hl rfl rfl rfl rfl ⟨Nat.le_of_ble_eq_true rfl, Nat.le_of_ble_eq_true rfl⟩ (Nat.le_of_ble_eq_true rfl) ⟨Nat.le_of_ble_eq_true rfl, Nat.le_of_ble_eq_true rfl⟩ dX12_cover_21) (fun r4297 hq4298 => ?_)
      refine th_if_ne (X := r4297.toInt) (tgt := 29) hx hb dX12_cover_24 (by decide) rfl (fun c4299 => ?_) (fun c4299 => ?_)
      · replace hq4298 := Or.resolve_right hq4298 (fun h => absurd h.2 (by omega))
        refine lv_aload_n hx hb dX12_cover_29 rfl (lv_at hl 0 rfl) ?_
        refine th_get C hS.1 F.1 fl_RX12_241 hv_f105 dX12_cover_30 ?_
        refine lv_bipush (v := 12) hx hb dX12_cover_33 (by decide) ?_
        refine lv_iload_n hx hb dX12_cover_35 rfl (lv_at hl 1 rfl) ?_
        refine lv_imul hx hb dX12_cover_36 ?_
        refine th_top (X := (12 * se1_i)) (th_mul li_12 iz_se1 (by omega) (by omega)) (fun z4300 hz4300 => ?_)
        refine lv_iload_n hx hb dX12_cover_37 rfl (lv_at hl 2 rfl) ?_
        refine lv_iadd hx hb dX12_cover_38 ?_
        refine th_top (X := ((12 * se1_i) + mo_i)) (th_add hz4300 iz_mo (by omega) (by omega)) (fun z4301 hz4301 => ?_)
        refine lv_iload_n hx hb dX12_cover_39 rfl (lv_at hl 3 rfl) ?_
        refine th_iast C hS hk_f105 (by rw [hz4301]; omega) (by rw [hz4301]; omega) dX12_cover_40 (fun V4302 H locs1 hV4303 hS => ?_)
        refine lv_iconst (v := 1) hx hb dX12_cover_41 (by decide) ?_
        exact th_retzH (post := fun r K1 V1 => ((((0 ≤ se1_i ∧ se1_i ≤ 3) ∧ (0 ≤ mo_i ∧ mo_i ≤ 11) ∧ (0 ≤ n_i ∧ n_i ≤ 100)) ∧ r.toInt = 1) ∨ (((0 > se1_i ∨ se1_i > 3) ∨ (0 > mo_i ∨ mo_i > 11) ∨ (0 > n_i ∨ n_i > 100)) ∧ r.toInt = 0))) (cells := 0) (slots := 0) (mc := 0) (ms := 0) C hS (by have hfin := li_1; omega) (Or.inl ⟨by omega, li_1⟩) (Nat.le_of_ble_eq_true rfl) (Nat.le_of_ble_eq_true rfl) dX12_cover_42
      · replace hq4298 := Or.resolve_left hq4298 (fun h => absurd h.2 (by omega))
        refine lv_iconst (v := 0) hx hb dX12_cover_27 (by decide) ?_
        exact th_retzH (post := fun r K1 V1 => ((((0 ≤ se1_i ∧ se1_i ≤ 3) ∧ (0 ≤ mo_i ∧ mo_i ≤ 11) ∧ (0 ≤ n_i ∧ n_i ≤ 100)) ∧ r.toInt = 1) ∨ (((0 > se1_i ∨ se1_i > 3) ∨ (0 > mo_i ∨ mo_i > 11) ∨ (0 > n_i ∨ n_i > 100)) ∧ r.toInt = 0))) (cells := 0) (slots := 0) (mc := 0) (ms := 0) C hS (by have hfin := li_0; omega) (Or.inr (⟨by omega, li_0⟩)) (Nat.le_of_ble_eq_true rfl) (Nat.le_of_ble_eq_true rfl) dX12_cover_28

set_option maxHeartbeats 400000 in
set_option maxRecDepth 100000 in
theorem t_X12_sea {l : Launch} {D : va_G} {dA : Nat → ClassId} {K : Kmap} {V : Vmap} {sz : Nat} {x : Nat} {se1 dy : Int32} {se1_i dy_i : Int} (iz_se1 : se1.toInt = se1_i) (iz_dy : dy.toInt = dy_i) (F : FM K V x) : Met l yX12_sea (wsOf yX12_sea cX12_sea 3 (some .boolean)) { frames := 1, cells := 0, slots := 0, locals := 22 } (PC D dA K V sz [.ref x, .int se1, .int dy]) (HQi D dA K (fun r K1 V1 => ((((0 ≤ se1_i ∧ se1_i ≤ 3) ∧ (1 ≤ dy_i ∧ dy_i ≤ 90)) ∧ r.toInt = 1) ∨ (((0 > se1_i ∨ se1_i > 3) ∨ (1 > dy_i ∨ dy_i > 90)) ∧ r.toInt = 0)))) 0 0 (AK K sz) := by
  refine th_body (by decide +kernel) (Nat.le_of_ble_eq_true rfl) (fun pZ eZ sZ mZ belowZ methZ cZ C hR hsz hnm ls hl => ?_)
  have C : CX pZ sZ mZ [.ref x, .int se1, .int dy].toArray methZ cZ cX12_sea 3 (some .boolean) RX12 D dA := C
  have hx := C.1; have hb := C.2.1
  have hl : lv_has ls 3 [(0, .ref x), (1, .int se1), (2, .int dy)] := hl
  subst hsz
  have hS : ST D dA K sZ.heap K V sZ.heap [] := ST.rf hR
  have r_se1 := th_rng se1; rw [iz_se1] at r_se1
  have r_dy := th_rng dy; rw [iz_dy] at r_dy
  have F0 := F
  obtain ⟨f106, hv_f106, hk_f106⟩ := F.2.1 (106, (1, 4)) (by decide)
  refine lv_iload_n hx hb dX12_sea_0 rfl (lv_at hl 1 rfl) ?_
  refine th_goi (th_runS (As := [.int se1]) (rest := []) C hS.1 gS_RX12_615 (t_X12_isSea iz_se1) hl rfl rfl rfl rfl ⟨Nat.le_of_ble_eq_true rfl, Nat.le_of_ble_eq_true rfl⟩ (Nat.le_of_ble_eq_true rfl) ⟨Nat.le_of_ble_eq_true rfl, Nat.le_of_ble_eq_true rfl⟩ dX12_sea_1) (fun r4304 hq4305 => ?_)
  refine th_if_eq (X := r4304.toInt) (tgt := 17) hx hb dX12_sea_4 (by decide) rfl (fun c4306 => ?_) (fun c4306 => ?_)
  · replace hq4305 := Or.resolve_left hq4305 (fun h => absurd h.2 (by omega))
    refine lv_iconst (v := 0) hx hb dX12_sea_17 (by decide) ?_
    exact th_retzH (post := fun r K1 V1 => ((((0 ≤ se1_i ∧ se1_i ≤ 3) ∧ (1 ≤ dy_i ∧ dy_i ≤ 90)) ∧ r.toInt = 1) ∨ (((0 > se1_i ∨ se1_i > 3) ∨ (1 > dy_i ∨ dy_i > 90)) ∧ r.toInt = 0))) (cells := 0) (slots := 0) (mc := 0) (ms := 0) C hS (by have hfin := li_0; omega) (Or.inr (⟨by omega, li_0⟩)) (Nat.le_of_ble_eq_true rfl) (Nat.le_of_ble_eq_true rfl) dX12_sea_18
  · replace hq4305 := Or.resolve_right hq4305 (fun h => absurd h.2 (by omega))
    refine lv_iload_n hx hb dX12_sea_7 rfl (lv_at hl 2 rfl) ?_
    refine lv_iconst (v := 1) hx hb dX12_sea_8 (by decide) ?_
    refine lv_bipush (v := 90) hx hb dX12_sea_9 (by decide) ?_
    refine th_goi (th_runS (As := [.int dy, .int 1, .int 90]) (rest := []) C hS.1 gS_RX12_371 (t_X12_in iz_dy li_1 li_90) hl rfl rfl rfl rfl ⟨Nat.le_of_ble_eq_true rfl, Nat.le_of_ble_eq_true rfl⟩ (Nat.le_of_ble_eq_true rfl) ⟨Nat.le_of_ble_eq_true rfl, Nat.le_of_ble_eq_true rfl⟩ dX12_sea_11) (fun r4307 hq4308 => ?_)
    refine th_if_ne (X := r4307.toInt) (tgt := 19) hx hb dX12_sea_14 (by decide) rfl (fun c4309 => ?_) (fun c4309 => ?_)
    · replace hq4308 := Or.resolve_right hq4308 (fun h => absurd h.2 (by omega))
      refine lv_aload_n hx hb dX12_sea_19 rfl (lv_at hl 0 rfl) ?_
      refine th_get C hS.1 F.1 fl_RX12_244 hv_f106 dX12_sea_20 ?_
      refine lv_iload_n hx hb dX12_sea_23 rfl (lv_at hl 1 rfl) ?_
      refine lv_iload_n hx hb dX12_sea_24 rfl (lv_at hl 2 rfl) ?_
      refine th_iast C hS hk_f106 (by rw [iz_se1]; omega) (by rw [iz_se1]; omega) dX12_sea_25 (fun V4310 H locs1 hV4311 hS => ?_)
      refine lv_iconst (v := 1) hx hb dX12_sea_26 (by decide) ?_
      exact th_retzH (post := fun r K1 V1 => ((((0 ≤ se1_i ∧ se1_i ≤ 3) ∧ (1 ≤ dy_i ∧ dy_i ≤ 90)) ∧ r.toInt = 1) ∨ (((0 > se1_i ∨ se1_i > 3) ∨ (1 > dy_i ∨ dy_i > 90)) ∧ r.toInt = 0))) (cells := 0) (slots := 0) (mc := 0) (ms := 0) C hS (by have hfin := li_1; omega) (Or.inl ⟨by omega, li_1⟩) (Nat.le_of_ble_eq_true rfl) (Nat.le_of_ble_eq_true rfl) dX12_sea_27
    · replace hq4308 := Or.resolve_left hq4308 (fun h => absurd h.2 (by omega))
      refine lv_iconst (v := 0) hx hb dX12_sea_17 (by decide) ?_
      exact th_retzH (post := fun r K1 V1 => ((((0 ≤ se1_i ∧ se1_i ≤ 3) ∧ (1 ≤ dy_i ∧ dy_i ≤ 90)) ∧ r.toInt = 1) ∨ (((0 > se1_i ∨ se1_i > 3) ∨ (1 > dy_i ∨ dy_i > 90)) ∧ r.toInt = 0))) (cells := 0) (slots := 0) (mc := 0) (ms := 0) C hS (by have hfin := li_0; omega) (Or.inr (⟨by omega, li_0⟩)) (Nat.le_of_ble_eq_true rfl) (Nat.le_of_ble_eq_true rfl) dX12_sea_18

set_option maxHeartbeats 400000 in
set_option maxRecDepth 100000 in
theorem t_X12_voyage {l : Launch} {D : va_G} {dA : Nat → ClassId} {K : Kmap} {V : Vmap} {sz : Nat} {x : Nat} {sh1 se1 sn dr : Int32} {sh1_i se1_i sn_i dr_i : Int} (iz_sh1 : sh1.toInt = sh1_i) (iz_se1 : se1.toInt = se1_i) (iz_sn : sn.toInt = sn_i) (iz_dr : dr.toInt = dr_i) (F : FM K V x) : Met l yX12_voyage (wsOf yX12_voyage cX12_voyage 5 (some .boolean)) { frames := 1, cells := 0, slots := 0, locals := 21 } (PC D dA K V sz [.ref x, .int sh1, .int se1, .int sn, .int dr]) (PQi (fun r => (r.toInt = 0))) 0 0 noFree := by
  refine th_body (by decide +kernel) (Nat.le_of_ble_eq_true rfl) (fun pZ eZ sZ mZ belowZ methZ cZ C hR hsz hnm ls hl => ?_)
  have C : CX pZ sZ mZ [.ref x, .int sh1, .int se1, .int sn, .int dr].toArray methZ cZ cX12_voyage 5 (some .boolean) RX12 D dA := C
  have hx := C.1; have hb := C.2.1
  have hl : lv_has ls 5 [(0, .ref x), (1, .int sh1), (2, .int se1), (3, .int sn), (4, .int dr)] := hl
  subst hsz
  have hS : ST D dA K sZ.heap K V sZ.heap [] := ST.rf hR
  have r_sh1 := th_rng sh1; rw [iz_sh1] at r_sh1
  have r_se1 := th_rng se1; rw [iz_se1] at r_se1
  have r_sn := th_rng sn; rw [iz_sn] at r_sn
  have r_dr := th_rng dr; rw [iz_dr] at r_dr
  have F0 := F
  refine lv_aload_n hx hb dX12_voyage_0 rfl (lv_at hl 0 rfl) ?_
  refine lv_iload_n hx hb dX12_voyage_1 rfl (lv_at hl 1 rfl) ?_
  refine th_goi (th_runV (As := [.int sh1]) (rest := []) C hS.1 (RX12, TX12, 151) rfl gV_RX12_618 F.1 (t_X12_isShip iz_sh1 F.1 (F.2.2.1 (91, 0) (by decide))) hl rfl rfl rfl rfl ⟨Nat.le_of_ble_eq_true rfl, Nat.le_of_ble_eq_true rfl⟩ (Nat.le_of_ble_eq_true rfl) ⟨Nat.le_of_ble_eq_true rfl, Nat.le_of_ble_eq_true rfl⟩ dX12_voyage_2) (fun r4312 hq4313 => ?_)
  refine th_if_eq (X := r4312.toInt) (tgt := 60) hx hb dX12_voyage_5 (by decide) rfl (fun c4314 => ?_) (fun c4314 => absurd c4314 (by omega))
  refine lv_iconst (v := 0) hx hb dX12_voyage_60 (by decide) ?_
  exact th_retz C (by have hfin := li_0; omega) (by have hfin := li_0; omega) dX12_voyage_61

set_option maxHeartbeats 400000 in
set_option maxRecDepth 100000 in
theorem t_X12_sledge {l : Launch} {D : va_G} {dA : Nat → ClassId} {K : Kmap} {V : Vmap} {sz : Nat} {x : Nat} {fr to dr : Int32} {fr_i to_i dr_i : Int} (iz_fr : fr.toInt = fr_i) (iz_to : to.toInt = to_i) (iz_dr : dr.toInt = dr_i) (F : FM K V x) : Met l yX12_sledge (wsOf yX12_sledge cX12_sledge 5 (some .int)) { frames := 3, cells := 0, slots := 0, locals := 64 } (PC D dA K V sz [.ref x, .int fr, .int to, .int dr]) (PQi (fun r => (r.toInt = (-1)))) 0 0 noFree := by
  refine th_body (by decide +kernel) (Nat.le_of_ble_eq_true rfl) (fun pZ eZ sZ mZ belowZ methZ cZ C hR hsz hnm ls hl => ?_)
  have C : CX pZ sZ mZ [.ref x, .int fr, .int to, .int dr].toArray methZ cZ cX12_sledge 5 (some .int) RX12 D dA := C
  have hx := C.1; have hb := C.2.1
  have hl : lv_has ls 5 [(0, .ref x), (1, .int fr), (2, .int to), (3, .int dr)] := hl
  subst hsz
  have hS : ST D dA K sZ.heap K V sZ.heap [] := ST.rf hR
  have r_fr := th_rng fr; rw [iz_fr] at r_fr
  have r_to := th_rng to; rw [iz_to] at r_to
  have r_dr := th_rng dr; rw [iz_dr] at r_dr
  have F0 := F
  refine lv_aload_n hx hb dX12_sledge_0 rfl (lv_at hl 0 rfl) ?_
  refine lv_iload_n hx hb dX12_sledge_1 rfl (lv_at hl 1 rfl) ?_
  refine th_goi (th_runV (As := [.int fr]) (rest := []) C hS.1 (RX12, TX12, 151) rfl gV_RX12_433 F.1 (t_X12_stands iz_fr F.1 (F.2.2.1 (10, 0) (by decide))) hl rfl rfl rfl rfl ⟨Nat.le_of_ble_eq_true rfl, Nat.le_of_ble_eq_true rfl⟩ (Nat.le_of_ble_eq_true rfl) ⟨Nat.le_of_ble_eq_true rfl, Nat.le_of_ble_eq_true rfl⟩ dX12_sledge_2) (fun r4315 hq4316 => ?_)
  refine th_if_eq (X := r4315.toInt) (tgt := 66) hx hb dX12_sledge_5 (by decide) rfl (fun c4317 => ?_) (fun c4317 => absurd c4317 (by omega))
  refine lv_iconst (v := (-1)) hx hb dX12_sledge_66 (by decide) ?_
  exact th_reti C (by have hfin := li_n1; omega) dX12_sledge_67

set_option maxHeartbeats 400000 in
set_option maxRecDepth 100000 in
theorem t_X12_people {l : Launch} {D : va_G} {dA : Nat → ClassId} {K : Kmap} {V : Vmap} {sz : Nat} {x : Nat} {k n : Int32} {k_i n_i : Int} (iz_k : k.toInt = k_i) (iz_n : n.toInt = n_i) (F : FM K V x) : Met l yX12_people (wsOf yX12_people cX12_people 3 (some .boolean)) { frames := 3, cells := 0, slots := 0, locals := 64 } (PC D dA K V sz [.ref x, .int k, .int n]) (PQi (fun r => (r.toInt = 0))) 0 0 noFree := by
  refine th_body (by decide +kernel) (Nat.le_of_ble_eq_true rfl) (fun pZ eZ sZ mZ belowZ methZ cZ C hR hsz hnm ls hl => ?_)
  have C : CX pZ sZ mZ [.ref x, .int k, .int n].toArray methZ cZ cX12_people 3 (some .boolean) RX12 D dA := C
  have hx := C.1; have hb := C.2.1
  have hl : lv_has ls 3 [(0, .ref x), (1, .int k), (2, .int n)] := hl
  subst hsz
  have hS : ST D dA K sZ.heap K V sZ.heap [] := ST.rf hR
  have r_k := th_rng k; rw [iz_k] at r_k
  have r_n := th_rng n; rw [iz_n] at r_n
  have F0 := F
  refine lv_aload_n hx hb dX12_people_0 rfl (lv_at hl 0 rfl) ?_
  refine lv_iload_n hx hb dX12_people_1 rfl (lv_at hl 1 rfl) ?_
  refine th_goi (th_runV (As := [.int k]) (rest := []) C hS.1 (RX12, TX12, 151) rfl gV_RX12_433 F.1 (t_X12_stands iz_k F.1 (F.2.2.1 (10, 0) (by decide))) hl rfl rfl rfl rfl ⟨Nat.le_of_ble_eq_true rfl, Nat.le_of_ble_eq_true rfl⟩ (Nat.le_of_ble_eq_true rfl) ⟨Nat.le_of_ble_eq_true rfl, Nat.le_of_ble_eq_true rfl⟩ dX12_people_2) (fun r4318 hq4319 => ?_)
  refine th_if_eq (X := r4318.toInt) (tgt := 39) hx hb dX12_people_5 (by decide) rfl (fun c4320 => ?_) (fun c4320 => absurd c4320 (by omega))
  refine lv_iconst (v := 0) hx hb dX12_people_39 (by decide) ?_
  exact th_retz C (by have hfin := li_0; omega) (by have hfin := li_0; omega) dX12_people_40

set_option maxHeartbeats 400000 in
set_option maxRecDepth 100000 in
theorem t_X12_hide {l : Launch} {D : va_G} {dA : Nat → ClassId} {K : Kmap} {V : Vmap} {sz : Nat} {x : Nat} {k n : Int32} {k_i n_i : Int} (iz_k : k.toInt = k_i) (iz_n : n.toInt = n_i) (F : FM K V x) : Met l yX12_hide (wsOf yX12_hide cX12_hide 3 (some .boolean)) { frames := 3, cells := 0, slots := 0, locals := 64 } (PC D dA K V sz [.ref x, .int k, .int n]) (PQi (fun r => (r.toInt = 0))) 0 0 noFree := by
  refine th_body (by decide +kernel) (Nat.le_of_ble_eq_true rfl) (fun pZ eZ sZ mZ belowZ methZ cZ C hR hsz hnm ls hl => ?_)
  have C : CX pZ sZ mZ [.ref x, .int k, .int n].toArray methZ cZ cX12_hide 3 (some .boolean) RX12 D dA := C
  have hx := C.1; have hb := C.2.1
  have hl : lv_has ls 3 [(0, .ref x), (1, .int k), (2, .int n)] := hl
  subst hsz
  have hS : ST D dA K sZ.heap K V sZ.heap [] := ST.rf hR
  have r_k := th_rng k; rw [iz_k] at r_k
  have r_n := th_rng n; rw [iz_n] at r_n
  have F0 := F
  refine lv_aload_n hx hb dX12_hide_0 rfl (lv_at hl 0 rfl) ?_
  refine lv_iload_n hx hb dX12_hide_1 rfl (lv_at hl 1 rfl) ?_
  refine th_goi (th_runV (As := [.int k]) (rest := []) C hS.1 (RX12, TX12, 151) rfl gV_RX12_433 F.1 (t_X12_stands iz_k F.1 (F.2.2.1 (10, 0) (by decide))) hl rfl rfl rfl rfl ⟨Nat.le_of_ble_eq_true rfl, Nat.le_of_ble_eq_true rfl⟩ (Nat.le_of_ble_eq_true rfl) ⟨Nat.le_of_ble_eq_true rfl, Nat.le_of_ble_eq_true rfl⟩ dX12_hide_2) (fun r4321 hq4322 => ?_)
  refine th_if_eq (X := r4321.toInt) (tgt := 29) hx hb dX12_hide_5 (by decide) rfl (fun c4323 => ?_) (fun c4323 => absurd c4323 (by omega))
  refine lv_iconst (v := 0) hx hb dX12_hide_29 (by decide) ?_
  exact th_retz C (by have hfin := li_0; omega) (by have hfin := li_0; omega) dX12_hide_30

set_option maxHeartbeats 400000 in
set_option maxRecDepth 100000 in
theorem t_X12_declare {l : Launch} {D : va_G} {dA : Nat → ClassId} {K : Kmap} {V : Vmap} {sz : Nat} {x : Nat} {k pe dr : Int32} {k_i pe_i dr_i : Int} (iz_k : k.toInt = k_i) (iz_pe : pe.toInt = pe_i) (iz_dr : dr.toInt = dr_i) (F : FM K V x) : Met l yX12_declare (wsOf yX12_declare cX12_declare 4 (some .boolean)) { frames := 2, cells := 0, slots := 0, locals := 43 } (PC D dA K V sz [.ref x, .int k, .int pe, .int dr]) (PQi (fun r => (r.toInt = 0))) 0 0 noFree := by
  refine th_body (by decide +kernel) (Nat.le_of_ble_eq_true rfl) (fun pZ eZ sZ mZ belowZ methZ cZ C hR hsz hnm ls hl => ?_)
  have C : CX pZ sZ mZ [.ref x, .int k, .int pe, .int dr].toArray methZ cZ cX12_declare 4 (some .boolean) RX12 D dA := C
  have hx := C.1; have hb := C.2.1
  have hl : lv_has ls 4 [(0, .ref x), (1, .int k), (2, .int pe), (3, .int dr)] := hl
  subst hsz
  have hS : ST D dA K sZ.heap K V sZ.heap [] := ST.rf hR
  have r_k := th_rng k; rw [iz_k] at r_k
  have r_pe := th_rng pe; rw [iz_pe] at r_pe
  have r_dr := th_rng dr; rw [iz_dr] at r_dr
  have F0 := F
  refine lv_aload_n hx hb dX12_declare_0 rfl (lv_at hl 0 rfl) ?_
  refine lv_iload_n hx hb dX12_declare_1 rfl (lv_at hl 1 rfl) ?_
  refine th_goi (th_runV (As := [.int k]) (rest := []) C hS.1 (RX12, TX12, 151) rfl gV_RX12_403 F.1 (t_X12_isStation iz_k F.1 (F.2.2.1 (10, 0) (by decide))) hl rfl rfl rfl rfl ⟨Nat.le_of_ble_eq_true rfl, Nat.le_of_ble_eq_true rfl⟩ (Nat.le_of_ble_eq_true rfl) ⟨Nat.le_of_ble_eq_true rfl, Nat.le_of_ble_eq_true rfl⟩ dX12_declare_2) (fun r4324 hq4325 => ?_)
  refine th_if_eq (X := r4324.toInt) (tgt := 30) hx hb dX12_declare_5 (by decide) rfl (fun c4326 => ?_) (fun c4326 => absurd c4326 (by omega))
  refine lv_iconst (v := 0) hx hb dX12_declare_30 (by decide) ?_
  exact th_retz C (by have hfin := li_0; omega) (by have hfin := li_0; omega) dX12_declare_31

set_option maxHeartbeats 400000 in
set_option maxRecDepth 100000 in
theorem t_X12_visit {l : Launch} {D : va_G} {dA : Nat → ClassId} {K : Kmap} {V : Vmap} {sz : Nat} {x : Nat} {p k : Int32} {p_i k_i : Int} (iz_p : p.toInt = p_i) (iz_k : k.toInt = k_i) (F : FM K V x) : Met l yX12_visit (wsOf yX12_visit cX12_visit 3 (some .int)) { frames := 1, cells := 0, slots := 0, locals := 21 } (PC D dA K V sz [.ref x, .int p, .int k]) (PQi (fun r => (r.toInt = (-1)))) 0 0 noFree := by
  refine th_body (by decide +kernel) (Nat.le_of_ble_eq_true rfl) (fun pZ eZ sZ mZ belowZ methZ cZ C hR hsz hnm ls hl => ?_)
  have C : CX pZ sZ mZ [.ref x, .int p, .int k].toArray methZ cZ cX12_visit 3 (some .int) RX12 D dA := C
  have hx := C.1; have hb := C.2.1
  have hl : lv_has ls 3 [(0, .ref x), (1, .int p), (2, .int k)] := hl
  subst hsz
  have hS : ST D dA K sZ.heap K V sZ.heap [] := ST.rf hR
  have r_p := th_rng p; rw [iz_p] at r_p
  have r_k := th_rng k; rw [iz_k] at r_k
  have F0 := F
  refine lv_aload_n hx hb dX12_visit_0 rfl (lv_at hl 0 rfl) ?_
  refine lv_iload_n hx hb dX12_visit_1 rfl (lv_at hl 1 rfl) ?_
  refine th_goi (th_runV (As := [.int p]) (rest := []) C hS.1 (RX12, TX12, 151) rfl gV_RX12_406 F.1 (t_X12_isParty iz_p F.1 (F.2.2.1 (9, 0) (by decide))) hl rfl rfl rfl rfl ⟨Nat.le_of_ble_eq_true rfl, Nat.le_of_ble_eq_true rfl⟩ (Nat.le_of_ble_eq_true rfl) ⟨Nat.le_of_ble_eq_true rfl, Nat.le_of_ble_eq_true rfl⟩ dX12_visit_2) (fun r4327 hq4328 => ?_)
  refine th_if_eq (X := r4327.toInt) (tgt := 47) hx hb dX12_visit_5 (by decide) rfl (fun c4329 => ?_) (fun c4329 => absurd c4329 (by omega))
  refine lv_iconst (v := (-1)) hx hb dX12_visit_47 (by decide) ?_
  exact th_reti C (by have hfin := li_n1; omega) dX12_visit_48

set_option maxHeartbeats 400000 in
set_option maxRecDepth 100000 in
theorem t_X12_seen {l : Launch} {D : va_G} {dA : Nat → ClassId} {K : Kmap} {V : Vmap} {sz : Nat} {x : Nat} {v wh : Int32} {v_i wh_i : Int} (iz_v : v.toInt = v_i) (iz_wh : wh.toInt = wh_i) (F : FM K V x) : Met l yX12_seen (wsOf yX12_seen cX12_seen 3 (some .int)) { frames := 0, cells := 0, slots := 0, locals := 0 } (PC D dA K V sz [.ref x, .int v, .int wh]) (PQi (fun r => (r.toInt = (-1000000)))) 0 0 noFree := by
  refine th_body (by decide +kernel) (Nat.le_of_ble_eq_true rfl) (fun pZ eZ sZ mZ belowZ methZ cZ C hR hsz hnm ls hl => ?_)
  have C : CX pZ sZ mZ [.ref x, .int v, .int wh].toArray methZ cZ cX12_seen 3 (some .int) RX12 D dA := C
  have hx := C.1; have hb := C.2.1
  have hl : lv_has ls 3 [(0, .ref x), (1, .int v), (2, .int wh)] := hl
  subst hsz
  have hS : ST D dA K sZ.heap K V sZ.heap [] := ST.rf hR
  have r_v := th_rng v; rw [iz_v] at r_v
  have r_wh := th_rng wh; rw [iz_wh] at r_wh
  have F0 := F
  refine lv_iload_n hx hb dX12_seen_0 rfl (lv_at hl 1 rfl) ?_
  refine th_if_lt (X := v_i) (tgt := 12) hx hb dX12_seen_1 (by decide) iz_v (fun c4330 => ?_) (fun c4330 => ?_)
  · refine lv_ldcw (v := (-1000000)) hx hb C.2.2.2.2.2.1 (C.2.2.2.2.2.2.1 _ gw_2322) dX12_seen_12 ?_
    exact th_reti C (by have hfin := li_n1000000; omega) dX12_seen_15
  · refine lv_iload_n hx hb dX12_seen_4 rfl (lv_at hl 1 rfl) ?_
    refine lv_aload_n hx hb dX12_seen_5 rfl (lv_at hl 0 rfl) ?_
    refine th_get C hS.1 F.1 fl_RX12_660 (F.2.2.1 (93, 0) (by decide)) dX12_seen_6 ?_
    refine th_icmp_lt (X := v_i) (Y := 0) (tgt := 16) hx hb dX12_seen_9 (by decide) iz_v li_0 (fun c4331 => absurd c4331 (by omega)) (fun c4331 => ?_)
    refine lv_ldcw (v := (-1000000)) hx hb C.2.2.2.2.2.1 (C.2.2.2.2.2.2.1 _ gw_2322) dX12_seen_12 ?_
    exact th_reti C (by have hfin := li_n1000000; omega) dX12_seen_15

set_option maxHeartbeats 400000 in
set_option maxRecDepth 100000 in
theorem t_X12_day {l : Launch} {D : va_G} {dA : Nat → ClassId} {K : Kmap} {V : Vmap} {sz : Nat} {x : Nat} (F : FM K V x) : Met l yX12_day (wsOf yX12_day cX12_day 2 (some .int)) { frames := 1, cells := 0, slots := 0, locals := 22 } (PC D dA K V sz [.ref x]) (HQi D dA K (fun r K1 V1 => ((r.toInt = 1)))) 0 0 (AK K sz) := by
  refine th_body (by decide +kernel) (Nat.le_of_ble_eq_true rfl) (fun pZ eZ sZ mZ belowZ methZ cZ C hR hsz hnm ls hl => ?_)
  have C : CX pZ sZ mZ [.ref x].toArray methZ cZ cX12_day 2 (some .int) RX12 D dA := C
  have hx := C.1; have hb := C.2.1
  have hl : lv_has ls 2 [(0, .ref x)] := hl
  subst hsz
  have hS : ST D dA K sZ.heap K V sZ.heap [] := ST.rf hR
  have F0 := F
  refine lv_aload_n hx hb dX12_day_0 rfl (lv_at hl 0 rfl) ?_
  refine th_get C hS.1 F.1 fl_RX12_396 (F.2.2.1 (2, 0) (by decide)) dX12_day_1 ?_
  refine lv_sipush (v := 3599) hx hb dX12_day_4 (by decide) ?_
  refine th_icmp_ne (X := 0) (Y := 3599) (tgt := 12) hx hb dX12_day_7 (by decide) li_0 li_3599 (fun c4332 => ?_) (fun c4332 => absurd c4332 (by omega))
  refine lv_aload_n hx hb dX12_day_12 rfl (lv_at hl 0 rfl) ?_
  refine lv_aload_n hx hb dX12_day_13 rfl (lv_at hl 0 rfl) ?_
  refine th_get C hS.1 F.1 fl_RX12_396 (F.2.2.1 (2, 0) (by decide)) dX12_day_14 ?_
  refine lv_iconst (v := 1) hx hb dX12_day_17 (by decide) ?_
  refine lv_iadd hx hb dX12_day_18 ?_
  refine th_is (w := .int 1) (by decide) ?_
  refine th_put C hS F.1 fp_RX12_396 rfl rfl dX12_day_19 (fun V4333 H locs1 hV4334 hS => ?_)
  refine lv_aload_n hx hb dX12_day_22 rfl (lv_at hl 0 rfl) ?_
  have hv4335 : V4333 x 66 = .int 0 := Eq.trans (uq_ne hV4334 (Or.inr (by decide))) (F.2.2.1 (66, 0) (by decide))
  have hv4336 : V4333 x 9 = .int 0 := Eq.trans (uq_ne hV4334 (Or.inr (by decide))) (F.2.2.1 (9, 0) (by decide))
  refine th_gov (th_runV (As := []) (rest := []) C hS.1 (RX12, TX12, 151) rfl gV_RX12_688 F.1 (t_X12_worksGo F.1 hv4335 hv4336) hl rfl rfl rfl rfl ⟨Nat.le_of_ble_eq_true rfl, Nat.le_of_ble_eq_true rfl⟩ (Nat.le_of_ble_eq_true rfl) ⟨Nat.le_of_ble_eq_true rfl, Nat.le_of_ble_eq_true rfl⟩ dX12_day_23) ?_
  refine lv_iconst (v := 0) hx hb dX12_day_26 (by decide) ?_
  refine lv_istore_n (lv' := [(1, .int 0), (0, .ref x)]) hx hb dX12_day_27 rfl hl (by decide) rfl (fun ls hl => ?_)
  refine lv_iload_n hx hb dX12_day_28 rfl (lv_at hl 0 rfl) ?_
  refine lv_aload_n hx hb dX12_day_29 rfl (lv_at hl 1 rfl) ?_
  have hv4339 : V4333 x 10 = .int 0 := Eq.trans (uq_ne hV4334 (Or.inr (by decide))) (F.2.2.1 (10, 0) (by decide))
  refine th_get C hS.1 F.1 fl_RX12_375 hv4339 dX12_day_30 ?_
  refine th_icmp_ge (X := 0) (Y := 0) (tgt := 63) hx hb dX12_day_33 (by decide) li_0 li_0 (fun c4340 => ?_) (fun c4340 => absurd c4340 (by omega))
  refine lv_iconst (v := 0) hx hb dX12_day_63 (by decide) ?_
  refine lv_istore_n (lv' := [(1, .int 0), (0, .ref x)]) hx hb dX12_day_64 rfl hl (by decide) rfl (fun ls hl => ?_)
  refine lv_iload_n hx hb dX12_day_65 rfl (lv_at hl 0 rfl) ?_
  refine lv_aload_n hx hb dX12_day_66 rfl (lv_at hl 1 rfl) ?_
  have hv4341 : V4333 x 91 = .int 0 := Eq.trans (uq_ne hV4334 (Or.inr (by decide))) (F.2.2.1 (91, 0) (by decide))
  refine th_get C hS.1 F.1 fl_RX12_612 hv4341 dX12_day_67 ?_
  refine th_icmp_ge (X := 0) (Y := 0) (tgt := 84) hx hb dX12_day_70 (by decide) li_0 li_0 (fun c4342 => ?_) (fun c4342 => absurd c4342 (by omega))
  refine lv_iconst (v := 0) hx hb dX12_day_84 (by decide) ?_
  refine lv_istore_n (lv' := [(1, .int 0), (0, .ref x)]) hx hb dX12_day_85 rfl hl (by decide) rfl (fun ls hl => ?_)
  refine lv_iload_n hx hb dX12_day_86 rfl (lv_at hl 0 rfl) ?_
  refine lv_aload_n hx hb dX12_day_87 rfl (lv_at hl 1 rfl) ?_
  have hv4343 : V4333 x 92 = .int 0 := Eq.trans (uq_ne hV4334 (Or.inr (by decide))) (F.2.2.1 (92, 0) (by decide))
  refine th_get C hS.1 F.1 fl_RX12_648 hv4343 dX12_day_88 ?_
  refine th_icmp_ge (X := 0) (Y := 0) (tgt := 105) hx hb dX12_day_91 (by decide) li_0 li_0 (fun c4344 => ?_) (fun c4344 => absurd c4344 (by omega))
  refine lv_aload_n hx hb dX12_day_105 rfl (lv_at hl 1 rfl) ?_
  refine th_get C hS.1 F.1 fl_RX12_396 (uq_same hV4334) dX12_day_106 ?_
  exact th_retiH (post := fun r K1 V1 => ((r.toInt = 1))) (cells := 0) (slots := 0) (mc := 0) (ms := 0) C hS (by have hfin := li_1; omega) (Nat.le_of_ble_eq_true rfl) (Nat.le_of_ble_eq_true rfl) dX12_day_109

set_option maxHeartbeats 400000 in
set_option maxRecDepth 100000 in
theorem t_X12_sound {l : Launch} {D : va_G} {dA : Nat → ClassId} {K : Kmap} {V : Vmap} {sz : Nat} {x : Nat} {k de wr : Int32} {k_i de_i wr_i : Int} (iz_k : k.toInt = k_i) (iz_de : de.toInt = de_i) (iz_wr : wr.toInt = wr_i) (F : FM K V x) : Met l yX12_sound (wsOf yX12_sound cX12_sound 4 (some .boolean)) { frames := 1, cells := 0, slots := 0, locals := 22 } (PC D dA K V sz [.ref x, .int k, .int de, .int wr]) (PQi (fun r => (r.toInt = 0))) 0 0 noFree := by
  refine th_body (by decide +kernel) (Nat.le_of_ble_eq_true rfl) (fun pZ eZ sZ mZ belowZ methZ cZ C hR hsz hnm ls hl => ?_)
  have C : CX pZ sZ mZ [.ref x, .int k, .int de, .int wr].toArray methZ cZ cX12_sound 4 (some .boolean) RX12 D dA := C
  have hx := C.1; have hb := C.2.1
  have hl : lv_has ls 4 [(0, .ref x), (1, .int k), (2, .int de), (3, .int wr)] := hl
  subst hsz
  have hS : ST D dA K sZ.heap K V sZ.heap [] := ST.rf hR
  have r_k := th_rng k; rw [iz_k] at r_k
  have r_de := th_rng de; rw [iz_de] at r_de
  have r_wr := th_rng wr; rw [iz_wr] at r_wr
  have F0 := F
  refine lv_aload_n hx hb dX12_sound_0 rfl (lv_at hl 0 rfl) ?_
  refine lv_iload_n hx hb dX12_sound_1 rfl (lv_at hl 1 rfl) ?_
  refine lv_iconst (v := 4) hx hb dX12_sound_2 (by decide) ?_
  refine th_goi (th_runV (As := [.int k, .int 4]) (rest := []) C hS.1 (RX12, TX12, 151) rfl gV_RX12_399 F.1 (t_X12_isPlace iz_k li_4 F.1 (F.2.2.1 (10, 0) (by decide))) hl rfl rfl rfl rfl ⟨Nat.le_of_ble_eq_true rfl, Nat.le_of_ble_eq_true rfl⟩ (Nat.le_of_ble_eq_true rfl) ⟨Nat.le_of_ble_eq_true rfl, Nat.le_of_ble_eq_true rfl⟩ dX12_sound_3) (fun r4345 hq4346 => ?_)
  refine th_if_eq (X := r4345.toInt) (tgt := 42) hx hb dX12_sound_6 (by decide) rfl (fun c4347 => ?_) (fun c4347 => absurd c4347 (by omega))
  refine lv_iconst (v := 0) hx hb dX12_sound_42 (by decide) ?_
  exact th_retz C (by have hfin := li_0; omega) (by have hfin := li_0; omega) dX12_sound_43

set_option maxHeartbeats 400000 in
set_option maxRecDepth 100000 in
theorem t_X12_sure {l : Launch} {D : va_G} {dA : Nat → ClassId} {K : Kmap} {V : Vmap} {sz : Nat} {x : Nat} {k : Int32} {k_i : Int} (iz_k : k.toInt = k_i) (F : FM K V x) : Met l yX12_sure (wsOf yX12_sure cX12_sure 2 (some .int)) { frames := 1, cells := 0, slots := 0, locals := 22 } (PC D dA K V sz [.ref x, .int k]) (PQi (fun r => (r.toInt = (-1)))) 0 0 noFree := by
  refine th_body (by decide +kernel) (Nat.le_of_ble_eq_true rfl) (fun pZ eZ sZ mZ belowZ methZ cZ C hR hsz hnm ls hl => ?_)
  have C : CX pZ sZ mZ [.ref x, .int k].toArray methZ cZ cX12_sure 2 (some .int) RX12 D dA := C
  have hx := C.1; have hb := C.2.1
  have hl : lv_has ls 2 [(0, .ref x), (1, .int k)] := hl
  subst hsz
  have hS : ST D dA K sZ.heap K V sZ.heap [] := ST.rf hR
  have r_k := th_rng k; rw [iz_k] at r_k
  have F0 := F
  refine lv_aload_n hx hb dX12_sure_0 rfl (lv_at hl 0 rfl) ?_
  refine lv_iload_n hx hb dX12_sure_1 rfl (lv_at hl 1 rfl) ?_
  refine lv_iconst (v := 4) hx hb dX12_sure_2 (by decide) ?_
  refine th_goi (th_runV (As := [.int k, .int 4]) (rest := []) C hS.1 (RX12, TX12, 151) rfl gV_RX12_399 F.1 (t_X12_isPlace iz_k li_4 F.1 (F.2.2.1 (10, 0) (by decide))) hl rfl rfl rfl rfl ⟨Nat.le_of_ble_eq_true rfl, Nat.le_of_ble_eq_true rfl⟩ (Nat.le_of_ble_eq_true rfl) ⟨Nat.le_of_ble_eq_true rfl, Nat.le_of_ble_eq_true rfl⟩ dX12_sure_3) (fun r4348 hq4349 => ?_)
  refine th_if_eq (X := r4348.toInt) (tgt := 17) hx hb dX12_sure_6 (by decide) rfl (fun c4350 => ?_) (fun c4350 => absurd c4350 (by omega))
  refine lv_iconst (v := (-1)) hx hb dX12_sure_17 (by decide) ?_
  exact th_reti C (by have hfin := li_n1; omega) dX12_sure_18
