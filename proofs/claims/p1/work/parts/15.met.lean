set_option maxHeartbeats 4000000 in
set_option maxRecDepth 100000 in
theorem t_X11_between {l : Launch} {D : va_G} {dA : Nat → ClassId} {K : Kmap} {V : Vmap} {sz : Nat} {n least most : Int32} {n_i least_i most_i : Int} (iz_n : n.toInt = n_i) (iz_least : least.toInt = least_i) (iz_most : most.toInt = most_i) : Met l yX11_between (wsOf yX11_between cX11_between 3 (some .boolean)) { frames := 0, cells := 0, slots := 0, locals := 0 } (PC D dA K V sz [.int n, .int least, .int most]) (PQi (fun r => ((least_i ≤ n_i ∧ n_i ≤ most_i) ∧ r.toInt = 1) ∨ ((least_i > n_i ∨ n_i > most_i) ∧ r.toInt = 0))) 0 0 noFree := by
  refine th_body (by decide +kernel) (Nat.le_of_ble_eq_true rfl) (fun pZ eZ sZ mZ belowZ methZ cZ C hR hsz hnm ls hl => ?_)
  have C : CX pZ sZ mZ [.int n, .int least, .int most].toArray methZ cZ cX11_between 3 (some .boolean) RX11 D dA := C
  have hx := C.1; have hb := C.2.1
  have hl : lv_has ls 3 [(0, .int n), (1, .int least), (2, .int most)] := hl
  subst hsz
  have hS : ST D dA K sZ.heap K V sZ.heap [] := ST.rf hR
  have r_n := th_rng n; rw [iz_n] at r_n
  have r_least := th_rng least; rw [iz_least] at r_least
  have r_most := th_rng most; rw [iz_most] at r_most
  refine lv_iload_n hx hb dX11_between_0 rfl (lv_at hl 0 rfl) ?_
  refine lv_iload_n hx hb dX11_between_1 rfl (lv_at hl 1 rfl) ?_
  refine th_icmp_lt (X := n_i) (Y := least_i) (tgt := 14) hx hb dX11_between_2 (by decide) iz_n iz_least (fun c1 => ?_) (fun c1 => ?_)
  · refine lv_iconst (v := 0) hx hb dX11_between_14 (by decide) ?_
    exact th_retz C (by have hfin := li_0; omega) (Or.inr (⟨by omega, li_0⟩)) dX11_between_15
  · refine lv_iload_n hx hb dX11_between_5 rfl (lv_at hl 0 rfl) ?_
    refine lv_iload_n hx hb dX11_between_6 rfl (lv_at hl 2 rfl) ?_
    refine th_icmp_gt (X := n_i) (Y := most_i) (tgt := 14) hx hb dX11_between_7 (by decide) iz_n iz_most (fun c2 => ?_) (fun c2 => ?_)
    · refine lv_iconst (v := 0) hx hb dX11_between_14 (by decide) ?_
      exact th_retz C (by have hfin := li_0; omega) (Or.inr (⟨by omega, li_0⟩)) dX11_between_15
    · refine lv_iconst (v := 1) hx hb dX11_between_10 (by decide) ?_
      refine lv_goto (tgt := 15) hx hb dX11_between_11 (by decide) ?_
      exact th_retz C (by have hfin := li_1; omega) (Or.inl ⟨by omega, li_1⟩) dX11_between_15

set_option maxHeartbeats 4000000 in
set_option maxRecDepth 100000 in
theorem t_X11_isDay {l : Launch} {D : va_G} {dA : Nat → ClassId} {K : Kmap} {V : Vmap} {sz : Nat} {n : Int32} {n_i : Int} (iz_n : n.toInt = n_i) : Met l yX11_isDay (wsOf yX11_isDay cX11_isDay 1 (some .boolean)) { frames := 1, cells := 0, slots := 0, locals := 22 } (PC D dA K V sz [.int n]) (PQi (fun r => ((0 ≤ n_i ∧ n_i ≤ 3599) ∧ r.toInt = 1) ∨ ((0 > n_i ∨ n_i > 3599) ∧ r.toInt = 0))) 0 0 noFree := by
  refine th_body (by decide +kernel) (Nat.le_of_ble_eq_true rfl) (fun pZ eZ sZ mZ belowZ methZ cZ C hR hsz hnm ls hl => ?_)
  have C : CX pZ sZ mZ [.int n].toArray methZ cZ cX11_isDay 1 (some .boolean) RX11 D dA := C
  have hx := C.1; have hb := C.2.1
  have hl : lv_has ls 1 [(0, .int n)] := hl
  subst hsz
  have hS : ST D dA K sZ.heap K V sZ.heap [] := ST.rf hR
  have r_n := th_rng n; rw [iz_n] at r_n
  refine lv_iload_n hx hb dX11_isDay_0 rfl (lv_at hl 0 rfl) ?_
  refine lv_iconst (v := 0) hx hb dX11_isDay_1 (by decide) ?_
  refine lv_sipush (v := 3599) hx hb dX11_isDay_2 (by decide) ?_
  refine th_goi (th_runS (As := [.int n, .int 0, .int 3599]) (rest := []) C hS.1 gS_RX11_112 (t_X11_between iz_n li_0 li_3599) hl rfl rfl rfl rfl ⟨Nat.le_of_ble_eq_true rfl, Nat.le_of_ble_eq_true rfl⟩ (Nat.le_of_ble_eq_true rfl) ⟨Nat.le_of_ble_eq_true rfl, Nat.le_of_ble_eq_true rfl⟩ dX11_isDay_5) (fun r3 hq4 => ?_)
  exact th_retz C (by omega) (by omega) dX11_isDay_8

set_option maxHeartbeats 4000000 in
set_option maxRecDepth 100000 in
theorem t_X11_areDays {l : Launch} {D : va_G} {dA : Nat → ClassId} {K : Kmap} {V : Vmap} {sz : Nat} {a b : Int32} {a_i b_i : Int} (iz_a : a.toInt = a_i) (iz_b : b.toInt = b_i) : Met l yX11_areDays (wsOf yX11_areDays cX11_areDays 2 (some .boolean)) { frames := 0, cells := 0, slots := 0, locals := 0 } (PC D dA K V sz [.int a, .int b]) (PQi (fun r => ((0 ≤ a_i ∧ a_i ≤ b_i ∧ b_i < 3600) ∧ r.toInt = 1) ∨ ((0 > a_i ∨ a_i > b_i ∨ b_i ≥ 3600) ∧ r.toInt = 0))) 0 0 noFree := by
  refine th_body (by decide +kernel) (Nat.le_of_ble_eq_true rfl) (fun pZ eZ sZ mZ belowZ methZ cZ C hR hsz hnm ls hl => ?_)
  have C : CX pZ sZ mZ [.int a, .int b].toArray methZ cZ cX11_areDays 2 (some .boolean) RX11 D dA := C
  have hx := C.1; have hb := C.2.1
  have hl : lv_has ls 2 [(0, .int a), (1, .int b)] := hl
  subst hsz
  have hS : ST D dA K sZ.heap K V sZ.heap [] := ST.rf hR
  have r_a := th_rng a; rw [iz_a] at r_a
  have r_b := th_rng b; rw [iz_b] at r_b
  refine lv_iload_n hx hb dX11_areDays_0 rfl (lv_at hl 0 rfl) ?_
  refine th_if_lt (X := a_i) (tgt := 20) hx hb dX11_areDays_1 (by decide) iz_a (fun c5 => ?_) (fun c5 => ?_)
  · refine lv_iconst (v := 0) hx hb dX11_areDays_20 (by decide) ?_
    exact th_retz C (by have hfin := li_0; omega) (Or.inr (⟨by omega, li_0⟩)) dX11_areDays_21
  · refine lv_iload_n hx hb dX11_areDays_4 rfl (lv_at hl 0 rfl) ?_
    refine lv_iload_n hx hb dX11_areDays_5 rfl (lv_at hl 1 rfl) ?_
    refine th_icmp_gt (X := a_i) (Y := b_i) (tgt := 20) hx hb dX11_areDays_6 (by decide) iz_a iz_b (fun c6 => ?_) (fun c6 => ?_)
    · refine lv_iconst (v := 0) hx hb dX11_areDays_20 (by decide) ?_
      exact th_retz C (by have hfin := li_0; omega) (Or.inr (⟨by omega, li_0⟩)) dX11_areDays_21
    · refine lv_iload_n hx hb dX11_areDays_9 rfl (lv_at hl 1 rfl) ?_
      refine lv_sipush (v := 3600) hx hb dX11_areDays_10 (by decide) ?_
      refine th_icmp_ge (X := b_i) (Y := 3600) (tgt := 20) hx hb dX11_areDays_13 (by decide) iz_b li_3600 (fun c7 => ?_) (fun c7 => ?_)
      · refine lv_iconst (v := 0) hx hb dX11_areDays_20 (by decide) ?_
        exact th_retz C (by have hfin := li_0; omega) (Or.inr (⟨by omega, li_0⟩)) dX11_areDays_21
      · refine lv_iconst (v := 1) hx hb dX11_areDays_16 (by decide) ?_
        refine lv_goto (tgt := 21) hx hb dX11_areDays_17 (by decide) ?_
        exact th_retz C (by have hfin := li_1; omega) (Or.inl ⟨by omega, li_1⟩) dX11_areDays_21

set_option maxHeartbeats 4000000 in
set_option maxRecDepth 100000 in
theorem t_X11_areYearDays {l : Launch} {D : va_G} {dA : Nat → ClassId} {K : Kmap} {V : Vmap} {sz : Nat} {a b : Int32} {a_i b_i : Int} (iz_a : a.toInt = a_i) (iz_b : b.toInt = b_i) : Met l yX11_areYearDays (wsOf yX11_areYearDays cX11_areYearDays 2 (some .boolean)) { frames := 0, cells := 0, slots := 0, locals := 0 } (PC D dA K V sz [.int a, .int b]) (PQi (fun r => ((0 ≤ a_i ∧ a_i ≤ b_i ∧ b_i < 360) ∧ r.toInt = 1) ∨ ((0 > a_i ∨ a_i > b_i ∨ b_i ≥ 360) ∧ r.toInt = 0))) 0 0 noFree := by
  refine th_body (by decide +kernel) (Nat.le_of_ble_eq_true rfl) (fun pZ eZ sZ mZ belowZ methZ cZ C hR hsz hnm ls hl => ?_)
  have C : CX pZ sZ mZ [.int a, .int b].toArray methZ cZ cX11_areYearDays 2 (some .boolean) RX11 D dA := C
  have hx := C.1; have hb := C.2.1
  have hl : lv_has ls 2 [(0, .int a), (1, .int b)] := hl
  subst hsz
  have hS : ST D dA K sZ.heap K V sZ.heap [] := ST.rf hR
  have r_a := th_rng a; rw [iz_a] at r_a
  have r_b := th_rng b; rw [iz_b] at r_b
  refine lv_iload_n hx hb dX11_areYearDays_0 rfl (lv_at hl 0 rfl) ?_
  refine th_if_lt (X := a_i) (tgt := 20) hx hb dX11_areYearDays_1 (by decide) iz_a (fun c8 => ?_) (fun c8 => ?_)
  · refine lv_iconst (v := 0) hx hb dX11_areYearDays_20 (by decide) ?_
    exact th_retz C (by have hfin := li_0; omega) (Or.inr (⟨by omega, li_0⟩)) dX11_areYearDays_21
  · refine lv_iload_n hx hb dX11_areYearDays_4 rfl (lv_at hl 0 rfl) ?_
    refine lv_iload_n hx hb dX11_areYearDays_5 rfl (lv_at hl 1 rfl) ?_
    refine th_icmp_gt (X := a_i) (Y := b_i) (tgt := 20) hx hb dX11_areYearDays_6 (by decide) iz_a iz_b (fun c9 => ?_) (fun c9 => ?_)
    · refine lv_iconst (v := 0) hx hb dX11_areYearDays_20 (by decide) ?_
      exact th_retz C (by have hfin := li_0; omega) (Or.inr (⟨by omega, li_0⟩)) dX11_areYearDays_21
    · refine lv_iload_n hx hb dX11_areYearDays_9 rfl (lv_at hl 1 rfl) ?_
      refine lv_sipush (v := 360) hx hb dX11_areYearDays_10 (by decide) ?_
      refine th_icmp_ge (X := b_i) (Y := 360) (tgt := 20) hx hb dX11_areYearDays_13 (by decide) iz_b li_360 (fun c10 => ?_) (fun c10 => ?_)
      · refine lv_iconst (v := 0) hx hb dX11_areYearDays_20 (by decide) ?_
        exact th_retz C (by have hfin := li_0; omega) (Or.inr (⟨by omega, li_0⟩)) dX11_areYearDays_21
      · refine lv_iconst (v := 1) hx hb dX11_areYearDays_16 (by decide) ?_
        refine lv_goto (tgt := 21) hx hb dX11_areYearDays_17 (by decide) ?_
        exact th_retz C (by have hfin := li_1; omega) (Or.inl ⟨by omega, li_1⟩) dX11_areYearDays_21

set_option maxHeartbeats 4000000 in
set_option maxRecDepth 100000 in
theorem t_X11_isYear {l : Launch} {D : va_G} {dA : Nat → ClassId} {K : Kmap} {V : Vmap} {sz : Nat} {n : Int32} {n_i : Int} (iz_n : n.toInt = n_i) : Met l yX11_isYear (wsOf yX11_isYear cX11_isYear 1 (some .boolean)) { frames := 1, cells := 0, slots := 0, locals := 22 } (PC D dA K V sz [.int n]) (PQi (fun r => ((0 ≤ n_i ∧ n_i ≤ 9) ∧ r.toInt = 1) ∨ ((0 > n_i ∨ n_i > 9) ∧ r.toInt = 0))) 0 0 noFree := by
  refine th_body (by decide +kernel) (Nat.le_of_ble_eq_true rfl) (fun pZ eZ sZ mZ belowZ methZ cZ C hR hsz hnm ls hl => ?_)
  have C : CX pZ sZ mZ [.int n].toArray methZ cZ cX11_isYear 1 (some .boolean) RX11 D dA := C
  have hx := C.1; have hb := C.2.1
  have hl : lv_has ls 1 [(0, .int n)] := hl
  subst hsz
  have hS : ST D dA K sZ.heap K V sZ.heap [] := ST.rf hR
  have r_n := th_rng n; rw [iz_n] at r_n
  refine lv_iload_n hx hb dX11_isYear_0 rfl (lv_at hl 0 rfl) ?_
  refine lv_iconst (v := 0) hx hb dX11_isYear_1 (by decide) ?_
  refine lv_bipush (v := 9) hx hb dX11_isYear_2 (by decide) ?_
  refine th_goi (th_runS (As := [.int n, .int 0, .int 9]) (rest := []) C hS.1 gS_RX11_112 (t_X11_between iz_n li_0 li_9) hl rfl rfl rfl rfl ⟨Nat.le_of_ble_eq_true rfl, Nat.le_of_ble_eq_true rfl⟩ (Nat.le_of_ble_eq_true rfl) ⟨Nat.le_of_ble_eq_true rfl, Nat.le_of_ble_eq_true rfl⟩ dX11_isYear_4) (fun r11 hq12 => ?_)
  exact th_retz C (by omega) (by omega) dX11_isYear_7

set_option maxHeartbeats 4000000 in
set_option maxRecDepth 100000 in
theorem t_X11_isSea {l : Launch} {D : va_G} {dA : Nat → ClassId} {K : Kmap} {V : Vmap} {sz : Nat} {n : Int32} {n_i : Int} (iz_n : n.toInt = n_i) : Met l yX11_isSea (wsOf yX11_isSea cX11_isSea 1 (some .boolean)) { frames := 1, cells := 0, slots := 0, locals := 22 } (PC D dA K V sz [.int n]) (PQi (fun r => ((0 ≤ n_i ∧ n_i ≤ 3) ∧ r.toInt = 1) ∨ ((0 > n_i ∨ n_i > 3) ∧ r.toInt = 0))) 0 0 noFree := by
  refine th_body (by decide +kernel) (Nat.le_of_ble_eq_true rfl) (fun pZ eZ sZ mZ belowZ methZ cZ C hR hsz hnm ls hl => ?_)
  have C : CX pZ sZ mZ [.int n].toArray methZ cZ cX11_isSea 1 (some .boolean) RX11 D dA := C
  have hx := C.1; have hb := C.2.1
  have hl : lv_has ls 1 [(0, .int n)] := hl
  subst hsz
  have hS : ST D dA K sZ.heap K V sZ.heap [] := ST.rf hR
  have r_n := th_rng n; rw [iz_n] at r_n
  refine lv_iload_n hx hb dX11_isSea_0 rfl (lv_at hl 0 rfl) ?_
  refine lv_iconst (v := 0) hx hb dX11_isSea_1 (by decide) ?_
  refine lv_iconst (v := 3) hx hb dX11_isSea_2 (by decide) ?_
  refine th_goi (th_runS (As := [.int n, .int 0, .int 3]) (rest := []) C hS.1 gS_RX11_112 (t_X11_between iz_n li_0 li_3) hl rfl rfl rfl rfl ⟨Nat.le_of_ble_eq_true rfl, Nat.le_of_ble_eq_true rfl⟩ (Nat.le_of_ble_eq_true rfl) ⟨Nat.le_of_ble_eq_true rfl, Nat.le_of_ble_eq_true rfl⟩ dX11_isSea_3) (fun r13 hq14 => ?_)
  exact th_retz C (by omega) (by omega) dX11_isSea_6

set_option maxHeartbeats 4000000 in
set_option maxRecDepth 100000 in
theorem t_X11_partyOf {l : Launch} {D : va_G} {dA : Nat → ClassId} {K : Kmap} {V : Vmap} {sz : Nat} {x : Nat} {p : Int32} {p_i : Int} (iz_p : p.toInt = p_i) (hp0 : K x = some (0, 10)) (hp1 : V x 4 = .int 0) : Met l yX11_partyOf (wsOf yX11_partyOf cX11_partyOf 2 (some (.object "IceTreaty$Party"))) { frames := 0, cells := 0, slots := 0, locals := 0 } (PC D dA K V sz [.ref x, .int p]) (PQr .null) 0 0 noFree := by
  refine th_body (by decide +kernel) (Nat.le_of_ble_eq_true rfl) (fun pZ eZ sZ mZ belowZ methZ cZ C hR hsz hnm ls hl => ?_)
  have C : CX pZ sZ mZ [.ref x, .int p].toArray methZ cZ cX11_partyOf 2 (some (.object "IceTreaty$Party")) RX11 D dA := C
  have hx := C.1; have hb := C.2.1
  have hl : lv_has ls 2 [(0, .ref x), (1, .int p)] := hl
  subst hsz
  have hS : ST D dA K sZ.heap K V sZ.heap [] := ST.rf hR
  have r_p := th_rng p; rw [iz_p] at r_p
  refine lv_iload_n hx hb dX11_partyOf_0 rfl (lv_at hl 1 rfl) ?_
  refine th_if_lt (X := p_i) (tgt := 30) hx hb dX11_partyOf_1 (by decide) iz_p (fun c15 => ?_) (fun c15 => ?_)
  · refine lv_null hx hb dX11_partyOf_30 ?_
    exact th_retr C (by first | exact Or.inl ⟨_, rfl⟩ | exact Or.inr ⟨_, rfl⟩) (Or.inl rfl) dX11_partyOf_31
  · refine lv_iload_n hx hb dX11_partyOf_4 rfl (lv_at hl 1 rfl) ?_
    refine lv_aload_n hx hb dX11_partyOf_5 rfl (lv_at hl 0 rfl) ?_
    refine th_get C hS.1 hp0 fl_RX11_36 hp1 dX11_partyOf_6 ?_
    refine th_icmp_ge (X := p_i) (Y := 0) (tgt := 30) hx hb dX11_partyOf_9 (by decide) iz_p li_0 (fun c16 => ?_) (fun c16 => absurd c16 (by omega))
    refine lv_null hx hb dX11_partyOf_30 ?_
    exact th_retr C (by first | exact Or.inl ⟨_, rfl⟩ | exact Or.inr ⟨_, rfl⟩) (Or.inl rfl) dX11_partyOf_31

set_option maxHeartbeats 4000000 in
set_option maxRecDepth 100000 in
theorem t_X11_anyPlace {l : Launch} {D : va_G} {dA : Nat → ClassId} {K : Kmap} {V : Vmap} {sz : Nat} {x : Nat} {k : Int32} {k_i : Int} (iz_k : k.toInt = k_i) (hp0 : K x = some (0, 10)) (hp1 : V x 6 = .int 0) : Met l yX11_anyPlace (wsOf yX11_anyPlace cX11_anyPlace 2 (some (.object "IceTreaty$Place"))) { frames := 0, cells := 0, slots := 0, locals := 0 } (PC D dA K V sz [.ref x, .int k]) (PQr .null) 0 0 noFree := by
  refine th_body (by decide +kernel) (Nat.le_of_ble_eq_true rfl) (fun pZ eZ sZ mZ belowZ methZ cZ C hR hsz hnm ls hl => ?_)
  have C : CX pZ sZ mZ [.ref x, .int k].toArray methZ cZ cX11_anyPlace 2 (some (.object "IceTreaty$Place")) RX11 D dA := C
  have hx := C.1; have hb := C.2.1
  have hl : lv_has ls 2 [(0, .ref x), (1, .int k)] := hl
  subst hsz
  have hS : ST D dA K sZ.heap K V sZ.heap [] := ST.rf hR
  have r_k := th_rng k; rw [iz_k] at r_k
  refine lv_iload_n hx hb dX11_anyPlace_0 rfl (lv_at hl 1 rfl) ?_
  refine th_if_lt (X := k_i) (tgt := 30) hx hb dX11_anyPlace_1 (by decide) iz_k (fun c17 => ?_) (fun c17 => ?_)
  · refine lv_null hx hb dX11_anyPlace_30 ?_
    exact th_retr C (by first | exact Or.inl ⟨_, rfl⟩ | exact Or.inr ⟨_, rfl⟩) (Or.inl rfl) dX11_anyPlace_31
  · refine lv_iload_n hx hb dX11_anyPlace_4 rfl (lv_at hl 1 rfl) ?_
    refine lv_aload_n hx hb dX11_anyPlace_5 rfl (lv_at hl 0 rfl) ?_
    refine th_get C hS.1 hp0 fl_RX11_46 hp1 dX11_anyPlace_6 ?_
    refine th_icmp_ge (X := k_i) (Y := 0) (tgt := 30) hx hb dX11_anyPlace_9 (by decide) iz_k li_0 (fun c18 => ?_) (fun c18 => absurd c18 (by omega))
    refine lv_null hx hb dX11_anyPlace_30 ?_
    exact th_retr C (by first | exact Or.inl ⟨_, rfl⟩ | exact Or.inr ⟨_, rfl⟩) (Or.inl rfl) dX11_anyPlace_31

set_option maxHeartbeats 4000000 in
set_option maxRecDepth 100000 in
theorem t_X11_placeOf {l : Launch} {D : va_G} {dA : Nat → ClassId} {K : Kmap} {V : Vmap} {sz : Nat} {x : Nat} {k kind : Int32} {k_i kind_i : Int} (iz_k : k.toInt = k_i) (iz_kind : kind.toInt = kind_i) (hp0 : K x = some (0, 10)) (hp1 : V x 6 = .int 0) : Met l yX11_placeOf (wsOf yX11_placeOf cX11_placeOf 4 (some (.object "IceTreaty$Place"))) { frames := 1, cells := 0, slots := 0, locals := 21 } (PC D dA K V sz [.ref x, .int k, .int kind]) (PQr .null) 0 0 noFree := by
  refine th_body (by decide +kernel) (Nat.le_of_ble_eq_true rfl) (fun pZ eZ sZ mZ belowZ methZ cZ C hR hsz hnm ls hl => ?_)
  have C : CX pZ sZ mZ [.ref x, .int k, .int kind].toArray methZ cZ cX11_placeOf 4 (some (.object "IceTreaty$Place")) RX11 D dA := C
  have hx := C.1; have hb := C.2.1
  have hl : lv_has ls 4 [(0, .ref x), (1, .int k), (2, .int kind)] := hl
  subst hsz
  have hS : ST D dA K sZ.heap K V sZ.heap [] := ST.rf hR
  have r_k := th_rng k; rw [iz_k] at r_k
  have r_kind := th_rng kind; rw [iz_kind] at r_kind
  refine lv_aload_n hx hb dX11_placeOf_0 rfl (lv_at hl 0 rfl) ?_
  refine lv_iload_n hx hb dX11_placeOf_1 rfl (lv_at hl 1 rfl) ?_
  refine th_gor (th_runV (As := [.int k]) (rest := []) C hS.1 (RX11, TX11, 20) rfl gV_RX11_384 hp0 (t_X11_anyPlace iz_k hp0 hp1) hl rfl rfl rfl rfl ⟨Nat.le_of_ble_eq_true rfl, Nat.le_of_ble_eq_true rfl⟩ (Nat.le_of_ble_eq_true rfl) ⟨Nat.le_of_ble_eq_true rfl, Nat.le_of_ble_eq_true rfl⟩ dX11_placeOf_2) ?_
  refine lv_astore_nN (lv' := [(3, .null), (0, .ref x), (1, .int k), (2, .int kind)]) hx hb dX11_placeOf_5 rfl hl (by decide) rfl (fun ls hl => ?_)
  refine lv_aload_nN hx hb dX11_placeOf_6 rfl (lv_at hl 0 rfl) ?_
  refine lv_ifnullN hx hb (tgt := 22) dX11_placeOf_7 (by decide) ?_
  refine lv_null hx hb dX11_placeOf_22 ?_
  exact th_retr C (by first | exact Or.inl ⟨_, rfl⟩ | exact Or.inr ⟨_, rfl⟩) (Or.inl rfl) dX11_placeOf_23

set_option maxHeartbeats 4000000 in
set_option maxRecDepth 100000 in
theorem t_X11_standingStation {l : Launch} {D : va_G} {dA : Nat → ClassId} {K : Kmap} {V : Vmap} {sz : Nat} {x : Nat} {k : Int32} {k_i : Int} (iz_k : k.toInt = k_i) (hp0 : K x = some (0, 10)) (hp1 : V x 6 = .int 0) : Met l yX11_standingStation (wsOf yX11_standingStation cX11_standingStation 3 (some (.object "IceTreaty$Place"))) { frames := 2, cells := 0, slots := 0, locals := 44 } (PC D dA K V sz [.ref x, .int k]) (PQr .null) 0 0 noFree := by
  refine th_body (by decide +kernel) (Nat.le_of_ble_eq_true rfl) (fun pZ eZ sZ mZ belowZ methZ cZ C hR hsz hnm ls hl => ?_)
  have C : CX pZ sZ mZ [.ref x, .int k].toArray methZ cZ cX11_standingStation 3 (some (.object "IceTreaty$Place")) RX11 D dA := C
  have hx := C.1; have hb := C.2.1
  have hl : lv_has ls 3 [(0, .ref x), (1, .int k)] := hl
  subst hsz
  have hS : ST D dA K sZ.heap K V sZ.heap [] := ST.rf hR
  have r_k := th_rng k; rw [iz_k] at r_k
  refine lv_aload_n hx hb dX11_standingStation_0 rfl (lv_at hl 0 rfl) ?_
  refine lv_iload_n hx hb dX11_standingStation_1 rfl (lv_at hl 1 rfl) ?_
  refine lv_iconst (v := 1) hx hb dX11_standingStation_2 (by decide) ?_
  refine th_gor (th_runV (As := [.int k, .int 1]) (rest := []) C hS.1 (RX11, TX11, 20) rfl gV_RX11_169 hp0 (t_X11_placeOf iz_k li_1 hp0 hp1) hl rfl rfl rfl rfl ⟨Nat.le_of_ble_eq_true rfl, Nat.le_of_ble_eq_true rfl⟩ (Nat.le_of_ble_eq_true rfl) ⟨Nat.le_of_ble_eq_true rfl, Nat.le_of_ble_eq_true rfl⟩ dX11_standingStation_3) ?_
  refine lv_astore_nN (lv' := [(2, .null), (0, .ref x), (1, .int k)]) hx hb dX11_standingStation_6 rfl hl (by decide) rfl (fun ls hl => ?_)
  refine lv_aload_nN hx hb dX11_standingStation_7 rfl (lv_at hl 0 rfl) ?_
  refine lv_ifnullN hx hb (tgt := 22) dX11_standingStation_8 (by decide) ?_
  refine lv_null hx hb dX11_standingStation_22 ?_
  exact th_retr C (by first | exact Or.inl ⟨_, rfl⟩ | exact Or.inr ⟨_, rfl⟩) (Or.inl rfl) dX11_standingStation_23

set_option maxHeartbeats 4000000 in
set_option maxRecDepth 100000 in
theorem t_X11_workOf {l : Launch} {D : va_G} {dA : Nat → ClassId} {K : Kmap} {V : Vmap} {sz : Nat} {x : Nat} {w : Int32} {w_i : Int} (iz_w : w.toInt = w_i) (hp0 : K x = some (0, 10)) (hp1 : V x 8 = .int 0) : Met l yX11_workOf (wsOf yX11_workOf cX11_workOf 2 (some (.object "IceTreaty$Work"))) { frames := 0, cells := 0, slots := 0, locals := 0 } (PC D dA K V sz [.ref x, .int w]) (PQr .null) 0 0 noFree := by
  refine th_body (by decide +kernel) (Nat.le_of_ble_eq_true rfl) (fun pZ eZ sZ mZ belowZ methZ cZ C hR hsz hnm ls hl => ?_)
  have C : CX pZ sZ mZ [.ref x, .int w].toArray methZ cZ cX11_workOf 2 (some (.object "IceTreaty$Work")) RX11 D dA := C
  have hx := C.1; have hb := C.2.1
  have hl : lv_has ls 2 [(0, .ref x), (1, .int w)] := hl
  subst hsz
  have hS : ST D dA K sZ.heap K V sZ.heap [] := ST.rf hR
  have r_w := th_rng w; rw [iz_w] at r_w
  refine lv_iload_n hx hb dX11_workOf_0 rfl (lv_at hl 1 rfl) ?_
  refine th_if_lt (X := w_i) (tgt := 30) hx hb dX11_workOf_1 (by decide) iz_w (fun c23 => ?_) (fun c23 => ?_)
  · refine lv_null hx hb dX11_workOf_30 ?_
    exact th_retr C (by first | exact Or.inl ⟨_, rfl⟩ | exact Or.inr ⟨_, rfl⟩) (Or.inl rfl) dX11_workOf_31
  · refine lv_iload_n hx hb dX11_workOf_4 rfl (lv_at hl 1 rfl) ?_
    refine lv_aload_n hx hb dX11_workOf_5 rfl (lv_at hl 0 rfl) ?_
    refine th_get C hS.1 hp0 fl_RX11_55 hp1 dX11_workOf_6 ?_
    refine th_icmp_ge (X := w_i) (Y := 0) (tgt := 30) hx hb dX11_workOf_9 (by decide) iz_w li_0 (fun c24 => ?_) (fun c24 => absurd c24 (by omega))
    refine lv_null hx hb dX11_workOf_30 ?_
    exact th_retr C (by first | exact Or.inl ⟨_, rfl⟩ | exact Or.inr ⟨_, rfl⟩) (Or.inl rfl) dX11_workOf_31

set_option maxHeartbeats 4000000 in
set_option maxRecDepth 100000 in
theorem t_X11_shipOf {l : Launch} {D : va_G} {dA : Nat → ClassId} {K : Kmap} {V : Vmap} {sz : Nat} {x : Nat} {w : Int32} {w_i : Int} (iz_w : w.toInt = w_i) (hp0 : K x = some (0, 10)) (hp1 : V x 10 = .int 0) : Met l yX11_shipOf (wsOf yX11_shipOf cX11_shipOf 2 (some (.object "IceTreaty$Ship"))) { frames := 0, cells := 0, slots := 0, locals := 0 } (PC D dA K V sz [.ref x, .int w]) (PQr .null) 0 0 noFree := by
  refine th_body (by decide +kernel) (Nat.le_of_ble_eq_true rfl) (fun pZ eZ sZ mZ belowZ methZ cZ C hR hsz hnm ls hl => ?_)
  have C : CX pZ sZ mZ [.ref x, .int w].toArray methZ cZ cX11_shipOf 2 (some (.object "IceTreaty$Ship")) RX11 D dA := C
  have hx := C.1; have hb := C.2.1
  have hl : lv_has ls 2 [(0, .ref x), (1, .int w)] := hl
  subst hsz
  have hS : ST D dA K sZ.heap K V sZ.heap [] := ST.rf hR
  have r_w := th_rng w; rw [iz_w] at r_w
  refine lv_iload_n hx hb dX11_shipOf_0 rfl (lv_at hl 1 rfl) ?_
  refine th_if_lt (X := w_i) (tgt := 30) hx hb dX11_shipOf_1 (by decide) iz_w (fun c25 => ?_) (fun c25 => ?_)
  · refine lv_null hx hb dX11_shipOf_30 ?_
    exact th_retr C (by first | exact Or.inl ⟨_, rfl⟩ | exact Or.inr ⟨_, rfl⟩) (Or.inl rfl) dX11_shipOf_31
  · refine lv_iload_n hx hb dX11_shipOf_4 rfl (lv_at hl 1 rfl) ?_
    refine lv_aload_n hx hb dX11_shipOf_5 rfl (lv_at hl 0 rfl) ?_
    refine th_get C hS.1 hp0 fl_RX11_64 hp1 dX11_shipOf_6 ?_
    refine th_icmp_ge (X := w_i) (Y := 0) (tgt := 30) hx hb dX11_shipOf_9 (by decide) iz_w li_0 (fun c26 => ?_) (fun c26 => absurd c26 (by omega))
    refine lv_null hx hb dX11_shipOf_30 ?_
    exact th_retr C (by first | exact Or.inl ⟨_, rfl⟩ | exact Or.inr ⟨_, rfl⟩) (Or.inl rfl) dX11_shipOf_31

set_option maxHeartbeats 4000000 in
set_option maxRecDepth 100000 in
theorem t_X1_textOf {l : Launch} {D : va_G} {dA : Nat → ClassId} {K : Kmap} {V : Vmap} {sz : Nat} {lw : Nat} {i : Int32} {i_i : Int} (iz_i : i.toInt = i_i) (hp0 : K lw = some (0, 1)) (hp1 : V lw 1 = .int 0) : Met l yX1_textOf (wsOf yX1_textOf cX1_textOf 2 (some (.object "IceTreaty$Text"))) { frames := 0, cells := 0, slots := 0, locals := 0 } (PC D dA K V sz [.ref lw, .int i]) (PQr .null) 0 0 noFree := by
  refine th_body (by decide +kernel) (Nat.le_of_ble_eq_true rfl) (fun pZ eZ sZ mZ belowZ methZ cZ C hR hsz hnm ls hl => ?_)
  have C : CX pZ sZ mZ [.ref lw, .int i].toArray methZ cZ cX1_textOf 2 (some (.object "IceTreaty$Text")) RX1 D dA := C
  have hx := C.1; have hb := C.2.1
  have hl : lv_has ls 2 [(0, .ref lw), (1, .int i)] := hl
  subst hsz
  have hS : ST D dA K sZ.heap K V sZ.heap [] := ST.rf hR
  have r_i := th_rng i; rw [iz_i] at r_i
  refine lv_iload_n hx hb dX1_textOf_0 rfl (lv_at hl 1 rfl) ?_
  refine th_if_lt (X := i_i) (tgt := 30) hx hb dX1_textOf_1 (by decide) iz_i (fun c27 => ?_) (fun c27 => ?_)
  · refine lv_null hx hb dX1_textOf_30 ?_
    exact th_retr C (by first | exact Or.inl ⟨_, rfl⟩ | exact Or.inr ⟨_, rfl⟩) (Or.inl rfl) dX1_textOf_31
  · refine lv_iload_n hx hb dX1_textOf_4 rfl (lv_at hl 1 rfl) ?_
    refine lv_aload_n hx hb dX1_textOf_5 rfl (lv_at hl 0 rfl) ?_
    refine th_get C hS.1 hp0 fl_RX1_17 hp1 dX1_textOf_6 ?_
    refine th_icmp_ge (X := i_i) (Y := 0) (tgt := 30) hx hb dX1_textOf_9 (by decide) iz_i li_0 (fun c28 => ?_) (fun c28 => absurd c28 (by omega))
    refine lv_null hx hb dX1_textOf_30 ?_
    exact th_retr C (by first | exact Or.inl ⟨_, rfl⟩ | exact Or.inr ⟨_, rfl⟩) (Or.inl rfl) dX1_textOf_31

set_option maxHeartbeats 4000000 in
set_option maxRecDepth 100000 in
theorem t_X0_isCell {l : Launch} {D : va_G} {dA : Nat → ClassId} {K : Kmap} {V : Vmap} {sz : Nat} {la : Nat} {c : Int32} {c_i : Int} (iz_c : c.toInt = c_i) (hp0 : K la = some (0, 0)) (hp1 : V la 3 = .int 8) (hp2 : V la 4 = .int 8) : Met l yX0_isCell (wsOf yX0_isCell cX0_isCell 2 (some .boolean)) { frames := 0, cells := 0, slots := 0, locals := 0 } (PC D dA K V sz [.ref la, .int c]) (PQi (fun r => ((0 ≤ c_i ∧ c_i ≤ 63) ∧ r.toInt = 1) ∨ ((0 > c_i ∨ c_i > 63) ∧ r.toInt = 0))) 0 0 noFree := by
  refine th_body (by decide +kernel) (Nat.le_of_ble_eq_true rfl) (fun pZ eZ sZ mZ belowZ methZ cZ C hR hsz hnm ls hl => ?_)
  have C : CX pZ sZ mZ [.ref la, .int c].toArray methZ cZ cX0_isCell 2 (some .boolean) RX0 D dA := C
  have hx := C.1; have hb := C.2.1
  have hl : lv_has ls 2 [(0, .ref la), (1, .int c)] := hl
  subst hsz
  have hS : ST D dA K sZ.heap K V sZ.heap [] := ST.rf hR
  have r_c := th_rng c; rw [iz_c] at r_c
  refine lv_iload_n hx hb dX0_isCell_0 rfl (lv_at hl 1 rfl) ?_
  refine th_if_lt (X := c_i) (tgt := 21) hx hb dX0_isCell_1 (by decide) iz_c (fun c29 => ?_) (fun c29 => ?_)
  · refine lv_iconst (v := 0) hx hb dX0_isCell_21 (by decide) ?_
    exact th_retz C (by have hfin := li_0; omega) (Or.inr (⟨by omega, li_0⟩)) dX0_isCell_22
  · refine lv_iload_n hx hb dX0_isCell_4 rfl (lv_at hl 1 rfl) ?_
    refine lv_aload_n hx hb dX0_isCell_5 rfl (lv_at hl 0 rfl) ?_
    refine th_get C hS.1 hp0 fl_RX0_21 hp1 dX0_isCell_6 ?_
    refine lv_aload_n hx hb dX0_isCell_9 rfl (lv_at hl 0 rfl) ?_
    refine th_get C hS.1 hp0 fl_RX0_24 hp2 dX0_isCell_10 ?_
    refine lv_imul hx hb dX0_isCell_13 ?_
    refine th_is (w := .int 64) (by decide) ?_
    refine th_icmp_ge (X := c_i) (Y := 64) (tgt := 21) hx hb dX0_isCell_14 (by decide) iz_c li_64 (fun c30 => ?_) (fun c30 => ?_)
    · refine lv_iconst (v := 0) hx hb dX0_isCell_21 (by decide) ?_
      exact th_retz C (by have hfin := li_0; omega) (Or.inr (⟨by omega, li_0⟩)) dX0_isCell_22
    · refine lv_iconst (v := 1) hx hb dX0_isCell_17 (by decide) ?_
      refine lv_goto (tgt := 22) hx hb dX0_isCell_18 (by decide) ?_
      exact th_retz C (by have hfin := li_1; omega) (Or.inl ⟨by omega, li_1⟩) dX0_isCell_22

set_option maxHeartbeats 4000000 in
set_option maxRecDepth 100000 in
theorem t_X0_rowOf {l : Launch} {D : va_G} {dA : Nat → ClassId} {K : Kmap} {V : Vmap} {sz : Nat} {la : Nat} {c : Int32} {c_i : Int} (iz_c : c.toInt = c_i) (hp0 : K la = some (0, 0)) (hp1 : V la 3 = .int 8) (hc0 : 0 ≤ c_i) : Met l yX0_rowOf (wsOf yX0_rowOf cX0_rowOf 2 (some .int)) { frames := 0, cells := 0, slots := 0, locals := 0 } (PC D dA K V sz [.ref la, .int c]) (PQi (fun r => (r.toInt = (c_i / 8)))) 0 0 noFree := by
  refine th_body (by decide +kernel) (Nat.le_of_ble_eq_true rfl) (fun pZ eZ sZ mZ belowZ methZ cZ C hR hsz hnm ls hl => ?_)
  have C : CX pZ sZ mZ [.ref la, .int c].toArray methZ cZ cX0_rowOf 2 (some .int) RX0 D dA := C
  have hx := C.1; have hb := C.2.1
  have hl : lv_has ls 2 [(0, .ref la), (1, .int c)] := hl
  subst hsz
  have hS : ST D dA K sZ.heap K V sZ.heap [] := ST.rf hR
  have r_c := th_rng c; rw [iz_c] at r_c
  refine lv_aload_n hx hb dX0_rowOf_0 rfl (lv_at hl 0 rfl) ?_
  refine th_get C hS.1 hp0 fl_RX0_21 hp1 dX0_rowOf_1 ?_
  refine th_if_le (X := 8) (tgt := 16) hx hb dX0_rowOf_4 (by decide) li_8 (fun c31 => absurd c31 (by omega)) (fun c31 => ?_)
  refine lv_iload_n hx hb dX0_rowOf_7 rfl (lv_at hl 1 rfl) ?_
  refine lv_aload_n hx hb dX0_rowOf_8 rfl (lv_at hl 0 rfl) ?_
  refine th_get C hS.1 hp0 fl_RX0_21 hp1 dX0_rowOf_9 ?_
  refine lv_idiv hx hb dX0_rowOf_12 (by decide) ?_
  refine th_top (X := (c_i / 8)) (th_div iz_c li_8 (by omega) (by omega)) (fun z32 hz32 => ?_)
  refine lv_goto (tgt := 17) hx hb dX0_rowOf_13 (by decide) ?_
  exact th_reti C (by have hfin := hz32; omega) dX0_rowOf_17

set_option maxHeartbeats 4000000 in
set_option maxRecDepth 100000 in
theorem t_X0_columnOf {l : Launch} {D : va_G} {dA : Nat → ClassId} {K : Kmap} {V : Vmap} {sz : Nat} {la : Nat} {c : Int32} {c_i : Int} (iz_c : c.toInt = c_i) (hp0 : K la = some (0, 0)) (hp1 : V la 3 = .int 8) (hc0 : 0 ≤ c_i) : Met l yX0_columnOf (wsOf yX0_columnOf cX0_columnOf 2 (some .int)) { frames := 0, cells := 0, slots := 0, locals := 0 } (PC D dA K V sz [.ref la, .int c]) (PQi (fun r => (r.toInt = (c_i % 8)))) 0 0 noFree := by
  refine th_body (by decide +kernel) (Nat.le_of_ble_eq_true rfl) (fun pZ eZ sZ mZ belowZ methZ cZ C hR hsz hnm ls hl => ?_)
  have C : CX pZ sZ mZ [.ref la, .int c].toArray methZ cZ cX0_columnOf 2 (some .int) RX0 D dA := C
  have hx := C.1; have hb := C.2.1
  have hl : lv_has ls 2 [(0, .ref la), (1, .int c)] := hl
  subst hsz
  have hS : ST D dA K sZ.heap K V sZ.heap [] := ST.rf hR
  have r_c := th_rng c; rw [iz_c] at r_c
  refine lv_aload_n hx hb dX0_columnOf_0 rfl (lv_at hl 0 rfl) ?_
  refine th_get C hS.1 hp0 fl_RX0_21 hp1 dX0_columnOf_1 ?_
  refine th_if_le (X := 8) (tgt := 16) hx hb dX0_columnOf_4 (by decide) li_8 (fun c33 => absurd c33 (by omega)) (fun c33 => ?_)
  refine lv_iload_n hx hb dX0_columnOf_7 rfl (lv_at hl 1 rfl) ?_
  refine lv_aload_n hx hb dX0_columnOf_8 rfl (lv_at hl 0 rfl) ?_
  refine th_get C hS.1 hp0 fl_RX0_21 hp1 dX0_columnOf_9 ?_
  refine lv_irem hx hb dX0_columnOf_12 (by decide) ?_
  refine th_top (X := (c_i % 8)) (th_rem iz_c li_8 (by omega) (by omega)) (fun z34 hz34 => ?_)
  refine lv_goto (tgt := 17) hx hb dX0_columnOf_13 (by decide) ?_
  exact th_reti C (by have hfin := hz34; omega) dX0_columnOf_17

set_option maxHeartbeats 4000000 in
set_option maxRecDepth 100000 in
theorem t_X0_isRectangle {l : Launch} {D : va_G} {dA : Nat → ClassId} {K : Kmap} {V : Vmap} {sz : Nat} {la : Nat} {a b : Int32} {a_i b_i : Int} (iz_a : a.toInt = a_i) (iz_b : b.toInt = b_i) (hp0 : K la = some (0, 0)) (hp1 : V la 3 = .int 8) (hp2 : V la 4 = .int 8) : Met l yX0_isRectangle (wsOf yX0_isRectangle cX0_isRectangle 3 (some .boolean)) { frames := 1, cells := 0, slots := 0, locals := 21 } (PC D dA K V sz [.ref la, .int a, .int b]) (PQi (fun r => (((0 ≤ a_i ∧ a_i ≤ 63) ∧ (0 ≤ b_i ∧ b_i ≤ 63) ∧ (a_i / 8) ≤ (b_i / 8) ∧ (a_i % 8) ≤ (b_i % 8)) ∧ r.toInt = 1) ∨ (((0 > a_i ∨ a_i > 63) ∨ (0 > b_i ∨ b_i > 63) ∨ (a_i / 8) > (b_i / 8) ∨ (a_i % 8) > (b_i % 8)) ∧ r.toInt = 0))) 0 0 noFree := by
  refine th_body (by decide +kernel) (Nat.le_of_ble_eq_true rfl) (fun pZ eZ sZ mZ belowZ methZ cZ C hR hsz hnm ls hl => ?_)
  have C : CX pZ sZ mZ [.ref la, .int a, .int b].toArray methZ cZ cX0_isRectangle 3 (some .boolean) RX0 D dA := C
  have hx := C.1; have hb := C.2.1
  have hl : lv_has ls 3 [(0, .ref la), (1, .int a), (2, .int b)] := hl
  subst hsz
  have hS : ST D dA K sZ.heap K V sZ.heap [] := ST.rf hR
  have r_a := th_rng a; rw [iz_a] at r_a
  have r_b := th_rng b; rw [iz_b] at r_b
  refine lv_aload_n hx hb dX0_isRectangle_0 rfl (lv_at hl 0 rfl) ?_
  refine lv_iload_n hx hb dX0_isRectangle_1 rfl (lv_at hl 1 rfl) ?_
  refine th_goi (th_runV (As := [.int a]) (rest := []) C hS.1 (RX0, TX0, 13) rfl gV_RX0_62 hp0 (t_X0_isCell iz_a hp0 hp1 hp2) hl rfl rfl rfl rfl ⟨Nat.le_of_ble_eq_true rfl, Nat.le_of_ble_eq_true rfl⟩ (Nat.le_of_ble_eq_true rfl) ⟨Nat.le_of_ble_eq_true rfl, Nat.le_of_ble_eq_true rfl⟩ dX0_isRectangle_2) (fun r35 hq36 => ?_)
  refine th_if_eq (X := r35.toInt) (tgt := 46) hx hb dX0_isRectangle_5 (by decide) rfl (fun c37 => ?_) (fun c37 => ?_)
  · replace hq36 := Or.resolve_left hq36 (fun h => absurd h.2 (by omega))
    refine lv_iconst (v := 0) hx hb dX0_isRectangle_46 (by decide) ?_
    exact th_retz C (by have hfin := li_0; omega) (Or.inr (⟨by omega, li_0⟩)) dX0_isRectangle_47
  · replace hq36 := Or.resolve_right hq36 (fun h => absurd h.2 (by omega))
    refine lv_aload_n hx hb dX0_isRectangle_8 rfl (lv_at hl 0 rfl) ?_
    refine lv_iload_n hx hb dX0_isRectangle_9 rfl (lv_at hl 2 rfl) ?_
    refine th_goi (th_runV (As := [.int b]) (rest := []) C hS.1 (RX0, TX0, 13) rfl gV_RX0_62 hp0 (t_X0_isCell iz_b hp0 hp1 hp2) hl rfl rfl rfl rfl ⟨Nat.le_of_ble_eq_true rfl, Nat.le_of_ble_eq_true rfl⟩ (Nat.le_of_ble_eq_true rfl) ⟨Nat.le_of_ble_eq_true rfl, Nat.le_of_ble_eq_true rfl⟩ dX0_isRectangle_10) (fun r38 hq39 => ?_)
    refine th_if_eq (X := r38.toInt) (tgt := 46) hx hb dX0_isRectangle_13 (by decide) rfl (fun c40 => ?_) (fun c40 => ?_)
    · replace hq39 := Or.resolve_left hq39 (fun h => absurd h.2 (by omega))
      refine lv_iconst (v := 0) hx hb dX0_isRectangle_46 (by decide) ?_
      exact th_retz C (by have hfin := li_0; omega) (Or.inr (⟨by omega, li_0⟩)) dX0_isRectangle_47
    · replace hq39 := Or.resolve_right hq39 (fun h => absurd h.2 (by omega))
      refine lv_aload_n hx hb dX0_isRectangle_16 rfl (lv_at hl 0 rfl) ?_
      refine lv_iload_n hx hb dX0_isRectangle_17 rfl (lv_at hl 1 rfl) ?_
      refine th_goi (th_runV (As := [.int a]) (rest := []) C hS.1 (RX0, TX0, 13) rfl gV_RX0_66 hp0 (t_X0_rowOf iz_a hp0 hp1 (by omega)) hl rfl rfl rfl rfl ⟨Nat.le_of_ble_eq_true rfl, Nat.le_of_ble_eq_true rfl⟩ (Nat.le_of_ble_eq_true rfl) ⟨Nat.le_of_ble_eq_true rfl, Nat.le_of_ble_eq_true rfl⟩ dX0_isRectangle_18) (fun r41 hq42 => ?_)
      refine lv_aload_n hx hb dX0_isRectangle_21 rfl (lv_at hl 0 rfl) ?_
      refine lv_iload_n hx hb dX0_isRectangle_22 rfl (lv_at hl 2 rfl) ?_
      refine th_goi (th_runV (As := [.int b]) (rest := [.int r41]) C hS.1 (RX0, TX0, 13) rfl gV_RX0_66 hp0 (t_X0_rowOf iz_b hp0 hp1 (by omega)) hl rfl rfl rfl rfl ⟨Nat.le_of_ble_eq_true rfl, Nat.le_of_ble_eq_true rfl⟩ (Nat.le_of_ble_eq_true rfl) ⟨Nat.le_of_ble_eq_true rfl, Nat.le_of_ble_eq_true rfl⟩ dX0_isRectangle_23) (fun r43 hq44 => ?_)
      refine th_icmp_gt (X := r41.toInt) (Y := r43.toInt) (tgt := 46) hx hb dX0_isRectangle_26 (by decide) rfl rfl (fun c45 => ?_) (fun c45 => ?_)
      · refine lv_iconst (v := 0) hx hb dX0_isRectangle_46 (by decide) ?_
        exact th_retz C (by have hfin := li_0; omega) (Or.inr (⟨by omega, li_0⟩)) dX0_isRectangle_47
      · refine lv_aload_n hx hb dX0_isRectangle_29 rfl (lv_at hl 0 rfl) ?_
        refine lv_iload_n hx hb dX0_isRectangle_30 rfl (lv_at hl 1 rfl) ?_
        refine th_goi (th_runV (As := [.int a]) (rest := []) C hS.1 (RX0, TX0, 13) rfl gV_RX0_75 hp0 (t_X0_columnOf iz_a hp0 hp1 (by omega)) hl rfl rfl rfl rfl ⟨Nat.le_of_ble_eq_true rfl, Nat.le_of_ble_eq_true rfl⟩ (Nat.le_of_ble_eq_true rfl) ⟨Nat.le_of_ble_eq_true rfl, Nat.le_of_ble_eq_true rfl⟩ dX0_isRectangle_31) (fun r46 hq47 => ?_)
        refine lv_aload_n hx hb dX0_isRectangle_34 rfl (lv_at hl 0 rfl) ?_
        refine lv_iload_n hx hb dX0_isRectangle_35 rfl (lv_at hl 2 rfl) ?_
        refine th_goi (th_runV (As := [.int b]) (rest := [.int r46]) C hS.1 (RX0, TX0, 13) rfl gV_RX0_75 hp0 (t_X0_columnOf iz_b hp0 hp1 (by omega)) hl rfl rfl rfl rfl ⟨Nat.le_of_ble_eq_true rfl, Nat.le_of_ble_eq_true rfl⟩ (Nat.le_of_ble_eq_true rfl) ⟨Nat.le_of_ble_eq_true rfl, Nat.le_of_ble_eq_true rfl⟩ dX0_isRectangle_36) (fun r48 hq49 => ?_)
        refine th_icmp_gt (X := r46.toInt) (Y := r48.toInt) (tgt := 46) hx hb dX0_isRectangle_39 (by decide) rfl rfl (fun c50 => ?_) (fun c50 => ?_)
        · refine lv_iconst (v := 0) hx hb dX0_isRectangle_46 (by decide) ?_
          exact th_retz C (by have hfin := li_0; omega) (Or.inr (⟨by omega, li_0⟩)) dX0_isRectangle_47
        · refine lv_iconst (v := 1) hx hb dX0_isRectangle_42 (by decide) ?_
          refine lv_goto (tgt := 47) hx hb dX0_isRectangle_43 (by decide) ?_
          exact th_retz C (by have hfin := li_1; omega) (Or.inl ⟨by omega, li_1⟩) dX0_isRectangle_47

set_option maxHeartbeats 4000000 in
set_option maxRecDepth 100000 in
theorem t_X4_put {l : Launch} {D : va_G} {dA : Nat → ClassId} {K : Kmap} {V : Vmap} {sz : Nat} {row : Nat} {i n : Int32} {i_i n_i : Int} {N : Nat} (iz_i : i.toInt = i_i) (iz_n : n.toInt = n_i) (hp0 : K row = some (1, N)) (hp1 : N < 2147483648) : Met l yX4_put (wsOf yX4_put cX4_put 3 (none : Option Jvm.ClassFile.FieldType)) { frames := 0, cells := 0, slots := 0, locals := 0 } (PC D dA K V sz [.ref row, .int i, .int n]) (HQv D dA K (fun K1 V1 => K = K1 ∧ (∀ b, K b ≠ none → b ≠ row → V1 b = V b))) 0 0 (AK K sz) := by
  refine th_body (by decide +kernel) (Nat.le_of_ble_eq_true rfl) (fun pZ eZ sZ mZ belowZ methZ cZ C hR hsz hnm ls hl => ?_)
  have C : CX pZ sZ mZ [.ref row, .int i, .int n].toArray methZ cZ cX4_put 3 (none : Option Jvm.ClassFile.FieldType) RX4 D dA := C
  have hx := C.1; have hb := C.2.1
  have hl : lv_has ls 3 [(0, .ref row), (1, .int i), (2, .int n)] := hl
  subst hsz
  have hS : ST D dA K sZ.heap K V sZ.heap [] := ST.rf hR
  have r_i := th_rng i; rw [iz_i] at r_i
  have r_n := th_rng n; rw [iz_n] at r_n
  refine lv_aload_n hx hb dX4_put_0 rfl (lv_at hl 0 rfl) ?_
  refine lv_ifnull hx hb dX4_put_1 ?_
  refine lv_iload_n hx hb dX4_put_4 rfl (lv_at hl 1 rfl) ?_
  refine th_if_lt (X := i_i) (tgt := 18) hx hb dX4_put_5 (by decide) iz_i (fun c51 => ?_) (fun c51 => ?_)
  · exact th_retvH (post := fun K1 V1 => K = K1 ∧ (∀ b, K b ≠ none → b ≠ row → V1 b = V b)) (cells := 0) (slots := 0) (mc := 0) (ms := 0) C hS ⟨rfl, (fun b hb hm0 => rfl)⟩ (Nat.le_of_ble_eq_true rfl) (Nat.le_of_ble_eq_true rfl) dX4_put_18
  · refine lv_iload_n hx hb dX4_put_8 rfl (lv_at hl 1 rfl) ?_
    refine lv_aload_n hx hb dX4_put_9 rfl (lv_at hl 0 rfl) ?_
    refine th_alen C hS.1 (t := 0) (by decide) hp0 dX4_put_10 ?_
    refine th_top (X := (N : Int)) (nI_toInt (by omega)) (fun z52 hz52 => ?_)
    refine th_icmp_ge (X := i_i) (Y := (N : Int)) (tgt := 18) hx hb dX4_put_11 (by decide) iz_i hz52 (fun c53 => ?_) (fun c53 => ?_)
    · exact th_retvH (post := fun K1 V1 => K = K1 ∧ (∀ b, K b ≠ none → b ≠ row → V1 b = V b)) (cells := 0) (slots := 0) (mc := 0) (ms := 0) C hS ⟨rfl, (fun b hb hm0 => rfl)⟩ (Nat.le_of_ble_eq_true rfl) (Nat.le_of_ble_eq_true rfl) dX4_put_18
    · refine lv_aload_n hx hb dX4_put_14 rfl (lv_at hl 0 rfl) ?_
      refine lv_iload_n hx hb dX4_put_15 rfl (lv_at hl 1 rfl) ?_
      refine lv_iload_n hx hb dX4_put_16 rfl (lv_at hl 2 rfl) ?_
      refine th_iast C hS hp0 (by rw [iz_i]; omega) (by rw [iz_i]; omega) dX4_put_17 (fun V54 H locs1 hV55 hS => ?_)
      exact th_retvH (post := fun K1 V1 => K = K1 ∧ (∀ b, K b ≠ none → b ≠ row → V1 b = V b)) (cells := 0) (slots := 0) (mc := 0) (ms := 0) C hS ⟨rfl, (fun b hb hm0 => (uq_other hV55 hm0))⟩ (Nat.le_of_ble_eq_true rfl) (Nat.le_of_ble_eq_true rfl) dX4_put_18

set_option maxHeartbeats 4000000 in
set_option maxRecDepth 100000 in
theorem t_X4_fill {l : Launch} {D : va_G} {dA : Nat → ClassId} {K : Kmap} {V : Vmap} {sz : Nat} {row : Nat} {n : Int32} {n_i : Int} {N : Nat} (iz_n : n.toInt = n_i) (hp0 : K row = some (1, N)) (hp1 : N < 2147483648) : Met l yX4_fill (wsOf yX4_fill cX4_fill 3 (none : Option Jvm.ClassFile.FieldType)) { frames := 0, cells := 0, slots := 0, locals := 0 } (PC D dA K V sz [.ref row, .int n]) (HQv D dA K (fun K1 V1 => K = K1 ∧ (∀ b, K b ≠ none → b ≠ row → V1 b = V b))) 0 0 (AK K sz) := by
  refine th_body (by decide +kernel) (Nat.le_of_ble_eq_true rfl) (fun pZ eZ sZ mZ belowZ methZ cZ C hR hsz hnm ls hl => ?_)
  have C : CX pZ sZ mZ [.ref row, .int n].toArray methZ cZ cX4_fill 3 (none : Option Jvm.ClassFile.FieldType) RX4 D dA := C
  have hx := C.1; have hb := C.2.1
  have hl : lv_has ls 3 [(0, .ref row), (1, .int n)] := hl
  subst hsz
  have hS : ST D dA K sZ.heap K V sZ.heap [] := ST.rf hR
  have r_n := th_rng n; rw [iz_n] at r_n
  refine lv_aload_n hx hb dX4_fill_0 rfl (lv_at hl 0 rfl) ?_
  refine lv_ifnonnull hx hb (tgt := 5) dX4_fill_1 (by decide) ?_
  refine lv_iconst (v := 0) hx hb dX4_fill_5 (by decide) ?_
  refine lv_istore_n (lv' := [(2, .int 0), (0, .ref row), (1, .int n)]) hx hb dX4_fill_6 rfl hl (by decide) rfl (fun ls hl => ?_)
  refine th_loop (fun nMeas ls V' H' locs' => ∃ z : Int32, 0 ≤ z.toInt ∧ z.toInt ≤ (N : Int) ∧ nMeas = ((N : Int) - z.toInt).toNat ∧ lv_has ls 3 [(0, .ref row), (1, .int n), (2, .int z)] ∧ ST D dA K sZ.heap K V' H' locs' ∧ ∀ b, b ≠ row → V' b = V b) _ ⟨0, (by have := li_0; omega), (by have := li_0; omega), rfl, lv_sub hl [1, 2, 0] rfl, hS, fun b _ => rfl⟩ (fun n56 ls V60 H locs1 hI61 ih57 => ?_)
  obtain ⟨z58, hz62, hz63, hn64, hl, hS, hinv59⟩ := hI61
  refine lv_iload_n hx hb dX4_fill_7 rfl (lv_at hl 2 rfl) ?_
  refine lv_aload_n hx hb dX4_fill_8 rfl (lv_at hl 0 rfl) ?_
  refine th_alen C hS.1 (t := 0) (by decide) hp0 dX4_fill_9 ?_
  refine th_top (X := (N : Int)) (nI_toInt (by omega)) (fun z65 hz65 => ?_)
  refine th_icmp_ge (X := z58.toInt) (Y := (N : Int)) (tgt := 23) hx hb dX4_fill_10 (by decide) rfl hz65 (fun c66 => ?_) (fun c66 => ?_)
  · exact th_retvH (post := fun K1 V1 => K = K1 ∧ (∀ b, K b ≠ none → b ≠ row → V1 b = V b)) (cells := 0) (slots := 0) (mc := 0) (ms := 0) C hS ⟨rfl, (fun b hb hm0 => (hinv59 _ hm0))⟩ (Nat.le_of_ble_eq_true rfl) (Nat.le_of_ble_eq_true rfl) dX4_fill_23
  · refine lv_aload_n hx hb dX4_fill_13 rfl (lv_at hl 0 rfl) ?_
    refine lv_iload_n hx hb dX4_fill_14 rfl (lv_at hl 2 rfl) ?_
    refine lv_iload_n hx hb dX4_fill_15 rfl (lv_at hl 1 rfl) ?_
    refine th_iast C hS hp0 (by omega) (by omega) dX4_fill_16 (fun V67 H locs1 hV68 hS => ?_)
    obtain ⟨z69, hz69, ez69⟩ : ∃ y : Int32, z58 + Int32.ofInt 1 = y ∧ y.toInt = z58.toInt + 1 := ⟨_, rfl, th_add rfl (by decide) (by omega) (by omega)⟩
    refine lv_iinc (v := z69) (lv' := [(2, .int z69), (0, .ref row), (1, .int n)]) hx hb dX4_fill_17 hl (k := 2) rfl hz69 (by decide) rfl (fun ls hl => ?_)
    refine lv_goto (tgt := 7) hx hb dX4_fill_20 (by decide) ?_
    exact ih57 _ (by rw [ez69]; omega) _ _ _ _ ⟨z69, (by rw [ez69]; omega), (by rw [ez69]; omega), rfl, lv_sub hl [1, 2, 0] rfl, hS, fun b hm0 => Eq.trans (uq_other hV68 hm0) (hinv59 b hm0)⟩

set_option maxHeartbeats 4000000 in
set_option maxRecDepth 100000 in
theorem t_X8_has {l : Launch} {D : va_G} {dA : Nat → ClassId} {K : Kmap} {V : Vmap} {sz : Nat} {t : Nat} {row : Int32} {row_i : Int} (iz_row : row.toInt = row_i) (hp0 : K t = some (0, 7)) (hp1 : V t 3 = .int 0) : Met l yX8_has (wsOf yX8_has cX8_has 2 (some .boolean)) { frames := 0, cells := 0, slots := 0, locals := 0 } (PC D dA K V sz [.ref t, .int row]) (PQi (fun r => (r.toInt = 0))) 0 0 noFree := by
  refine th_body (by decide +kernel) (Nat.le_of_ble_eq_true rfl) (fun pZ eZ sZ mZ belowZ methZ cZ C hR hsz hnm ls hl => ?_)
  have C : CX pZ sZ mZ [.ref t, .int row].toArray methZ cZ cX8_has 2 (some .boolean) RX8 D dA := C
  have hx := C.1; have hb := C.2.1
  have hl : lv_has ls 2 [(0, .ref t), (1, .int row)] := hl
  subst hsz
  have hS : ST D dA K sZ.heap K V sZ.heap [] := ST.rf hR
  have r_row := th_rng row; rw [iz_row] at r_row
  refine lv_iload_n hx hb dX8_has_0 rfl (lv_at hl 1 rfl) ?_
  refine th_if_lt (X := row_i) (tgt := 16) hx hb dX8_has_1 (by decide) iz_row (fun c70 => ?_) (fun c70 => ?_)
  · refine lv_iconst (v := 0) hx hb dX8_has_16 (by decide) ?_
    exact th_retz C (by have hfin := li_0; omega) (by have hfin := li_0; omega) dX8_has_17
  · refine lv_iload_n hx hb dX8_has_4 rfl (lv_at hl 1 rfl) ?_
    refine lv_aload_n hx hb dX8_has_5 rfl (lv_at hl 0 rfl) ?_
    refine th_get C hS.1 hp0 fl_RX8_9 hp1 dX8_has_6 ?_
    refine th_icmp_ge (X := row_i) (Y := 0) (tgt := 16) hx hb dX8_has_9 (by decide) iz_row li_0 (fun c71 => ?_) (fun c71 => absurd c71 (by omega))
    refine lv_iconst (v := 0) hx hb dX8_has_16 (by decide) ?_
    exact th_retz C (by have hfin := li_0; omega) (by have hfin := li_0; omega) dX8_has_17

set_option maxHeartbeats 4000000 in
set_option maxRecDepth 100000 in
theorem t_X8_isFull_7 {l : Launch} {D : va_G} {dA : Nat → ClassId} {K : Kmap} {V : Vmap} {sz : Nat} {t : Nat} {size : Int32} {size_i : Int} (iz_size : size.toInt = size_i) (hp0 : K t = some (0, 7)) (hp1 : V t 1 = .int 7) (hp2 : V t 3 = .int size) : Met l yX8_isFull (wsOf yX8_isFull cX8_isFull 1 (some .boolean)) { frames := 0, cells := 0, slots := 0, locals := 0 } (PC D dA K V sz [.ref t]) (PQi (fun r => (size_i ≥ 7 ∧ r.toInt = 1) ∨ (size_i < 7 ∧ r.toInt = 0))) 0 0 noFree := by
  refine th_body (by decide +kernel) (Nat.le_of_ble_eq_true rfl) (fun pZ eZ sZ mZ belowZ methZ cZ C hR hsz hnm ls hl => ?_)
  have C : CX pZ sZ mZ [.ref t].toArray methZ cZ cX8_isFull 1 (some .boolean) RX8 D dA := C
  have hx := C.1; have hb := C.2.1
  have hl : lv_has ls 1 [(0, .ref t)] := hl
  subst hsz
  have hS : ST D dA K sZ.heap K V sZ.heap [] := ST.rf hR
  refine lv_aload_n hx hb dX8_isFull_0 rfl (lv_at hl 0 rfl) ?_
  refine th_get C hS.1 hp0 fl_RX8_9 hp2 dX8_isFull_1 ?_
  refine lv_aload_n hx hb dX8_isFull_4 rfl (lv_at hl 0 rfl) ?_
  refine th_get C hS.1 hp0 fl_RX8_18 hp1 dX8_isFull_5 ?_
  refine th_icmp_lt (X := size_i) (Y := 7) (tgt := 15) hx hb dX8_isFull_8 (by decide) iz_size li_7 (fun c72 => ?_) (fun c72 => ?_)
  · refine lv_iconst (v := 0) hx hb dX8_isFull_15 (by decide) ?_
    exact th_retz C (by have hfin := li_0; omega) (Or.inr (⟨by omega, li_0⟩)) dX8_isFull_16
  · refine lv_iconst (v := 1) hx hb dX8_isFull_11 (by decide) ?_
    refine lv_goto (tgt := 16) hx hb dX8_isFull_12 (by decide) ?_
    exact th_retz C (by have hfin := li_1; omega) (Or.inl ⟨by omega, li_1⟩) dX8_isFull_16

set_option maxHeartbeats 4000000 in
set_option maxRecDepth 100000 in
theorem t_X8_put_7 {l : Launch} {D : va_G} {dA : Nat → ClassId} {K : Kmap} {V : Vmap} {sz : Nat} {t ce : Nat} {row column n size : Int32} {row_i column_i n_i size_i : Int} (iz_row : row.toInt = row_i) (iz_column : column.toInt = column_i) (iz_n : n.toInt = n_i) (iz_size : size.toInt = size_i) (hp0 : K t = some (0, 7)) (hp1 : V t 0 = .int 1) (hp2 : V t 1 = .int 7) (hp3 : V t 2 = .ref ce) (hp4 : K ce = some (1, 7)) (hp5 : V t 3 = .int size) : Met l yX8_put (wsOf yX8_put cX8_put 6 (none : Option Jvm.ClassFile.FieldType)) { frames := 0, cells := 0, slots := 0, locals := 0 } (PC D dA K V sz [.ref t, .int row, .int column, .int n]) (HQv D dA K (fun K1 V1 => K = K1 ∧ (∀ b, K b ≠ none → b ≠ ce → V1 b = V b))) 0 0 (AK K sz) := by
  refine th_body (by decide +kernel) (Nat.le_of_ble_eq_true rfl) (fun pZ eZ sZ mZ belowZ methZ cZ C hR hsz hnm ls hl => ?_)
  have C : CX pZ sZ mZ [.ref t, .int row, .int column, .int n].toArray methZ cZ cX8_put 6 (none : Option Jvm.ClassFile.FieldType) RX8 D dA := C
  have hx := C.1; have hb := C.2.1
  have hl : lv_has ls 6 [(0, .ref t), (1, .int row), (2, .int column), (3, .int n)] := hl
  subst hsz
  have hS : ST D dA K sZ.heap K V sZ.heap [] := ST.rf hR
  have r_row := th_rng row; rw [iz_row] at r_row
  have r_column := th_rng column; rw [iz_column] at r_column
  have r_n := th_rng n; rw [iz_n] at r_n
  refine lv_iload_n hx hb dX8_put_0 rfl (lv_at hl 1 rfl) ?_
  refine lv_aload_n hx hb dX8_put_1 rfl (lv_at hl 0 rfl) ?_
  refine th_get C hS.1 hp0 fl_RX8_15 hp1 dX8_put_2 ?_
  refine lv_imul hx hb dX8_put_5 ?_
  refine th_top (X := (row_i * 1)) (th_mul iz_row li_1 (by omega) (by omega)) (fun z73 hz73 => ?_)
  refine lv_iload_n hx hb dX8_put_6 rfl (lv_at hl 2 rfl) ?_
  refine lv_iadd hx hb dX8_put_7 ?_
  refine lv_topi (fun z74 _ => ?_)
  have hrz74 := th_rng z74
  refine lv_istore (lv' := [(4, .int z74), (0, .ref t), (1, .int row), (2, .int column), (3, .int n)]) hx hb dX8_put_8 hl (by decide) rfl (fun ls hl => ?_)
  refine lv_iload_n hx hb dX8_put_10 rfl (lv_at hl 2 rfl) ?_
  refine th_if_lt (X := row_i) (tgt := 38) hx hb dX8_put_11 (by decide) iz_row (fun c75 => ?_) (fun c75 => ?_)
  · refine lv_iconst (v := 0) hx hb dX8_put_38 (by decide) ?_
    refine lv_istore (lv' := [(5, .int 0), (4, .int z74), (0, .ref t), (1, .int row), (2, .int column), (3, .int n)]) hx hb dX8_put_39 hl (by decide) rfl (fun ls hl => ?_)
    refine lv_iload hx hb dX8_put_41 (lv_at hl 0 rfl) ?_
    refine th_if_eq (X := 0) (tgt := 69) hx hb dX8_put_43 (by decide) li_0 (fun c76 => ?_) (fun c76 => absurd c76 (by omega))
    exact th_retvH (post := fun K1 V1 => K = K1 ∧ (∀ b, K b ≠ none → b ≠ ce → V1 b = V b)) (cells := 0) (slots := 0) (mc := 0) (ms := 0) C hS ⟨rfl, (fun b hb hm0 => rfl)⟩ (Nat.le_of_ble_eq_true rfl) (Nat.le_of_ble_eq_true rfl) dX8_put_69
  · refine lv_iload_n hx hb dX8_put_14 rfl (lv_at hl 2 rfl) ?_
    refine lv_aload_n hx hb dX8_put_15 rfl (lv_at hl 1 rfl) ?_
    refine th_get C hS.1 hp0 fl_RX8_9 hp5 dX8_put_16 ?_
    refine th_icmp_ge (X := row_i) (Y := size_i) (tgt := 38) hx hb dX8_put_19 (by decide) iz_row iz_size (fun c77 => ?_) (fun c77 => ?_)
    · refine lv_iconst (v := 0) hx hb dX8_put_38 (by decide) ?_
      refine lv_istore (lv' := [(5, .int 0), (4, .int z74), (0, .ref t), (1, .int row), (2, .int column), (3, .int n)]) hx hb dX8_put_39 hl (by decide) rfl (fun ls hl => ?_)
      refine lv_iload hx hb dX8_put_41 (lv_at hl 0 rfl) ?_
      refine th_if_eq (X := 0) (tgt := 69) hx hb dX8_put_43 (by decide) li_0 (fun c78 => ?_) (fun c78 => absurd c78 (by omega))
      exact th_retvH (post := fun K1 V1 => K = K1 ∧ (∀ b, K b ≠ none → b ≠ ce → V1 b = V b)) (cells := 0) (slots := 0) (mc := 0) (ms := 0) C hS ⟨rfl, (fun b hb hm0 => rfl)⟩ (Nat.le_of_ble_eq_true rfl) (Nat.le_of_ble_eq_true rfl) dX8_put_69
    · refine lv_iload_n hx hb dX8_put_22 rfl (lv_at hl 3 rfl) ?_
      refine th_if_lt (X := column_i) (tgt := 38) hx hb dX8_put_23 (by decide) iz_column (fun c79 => ?_) (fun c79 => ?_)
      · refine lv_iconst (v := 0) hx hb dX8_put_38 (by decide) ?_
        refine lv_istore (lv' := [(5, .int 0), (4, .int z74), (0, .ref t), (1, .int row), (2, .int column), (3, .int n)]) hx hb dX8_put_39 hl (by decide) rfl (fun ls hl => ?_)
        refine lv_iload hx hb dX8_put_41 (lv_at hl 0 rfl) ?_
        refine th_if_eq (X := 0) (tgt := 69) hx hb dX8_put_43 (by decide) li_0 (fun c80 => ?_) (fun c80 => absurd c80 (by omega))
        exact th_retvH (post := fun K1 V1 => K = K1 ∧ (∀ b, K b ≠ none → b ≠ ce → V1 b = V b)) (cells := 0) (slots := 0) (mc := 0) (ms := 0) C hS ⟨rfl, (fun b hb hm0 => rfl)⟩ (Nat.le_of_ble_eq_true rfl) (Nat.le_of_ble_eq_true rfl) dX8_put_69
      · refine lv_iload_n hx hb dX8_put_26 rfl (lv_at hl 3 rfl) ?_
        refine lv_aload_n hx hb dX8_put_27 rfl (lv_at hl 1 rfl) ?_
        refine th_get C hS.1 hp0 fl_RX8_15 hp1 dX8_put_28 ?_
        refine th_icmp_ge (X := column_i) (Y := 1) (tgt := 38) hx hb dX8_put_31 (by decide) iz_column li_1 (fun c81 => ?_) (fun c81 => ?_)
        · refine lv_iconst (v := 0) hx hb dX8_put_38 (by decide) ?_
          refine lv_istore (lv' := [(5, .int 0), (4, .int z74), (0, .ref t), (1, .int row), (2, .int column), (3, .int n)]) hx hb dX8_put_39 hl (by decide) rfl (fun ls hl => ?_)
          refine lv_iload hx hb dX8_put_41 (lv_at hl 0 rfl) ?_
          refine th_if_eq (X := 0) (tgt := 69) hx hb dX8_put_43 (by decide) li_0 (fun c82 => ?_) (fun c82 => absurd c82 (by omega))
          exact th_retvH (post := fun K1 V1 => K = K1 ∧ (∀ b, K b ≠ none → b ≠ ce → V1 b = V b)) (cells := 0) (slots := 0) (mc := 0) (ms := 0) C hS ⟨rfl, (fun b hb hm0 => rfl)⟩ (Nat.le_of_ble_eq_true rfl) (Nat.le_of_ble_eq_true rfl) dX8_put_69
        · refine lv_iconst (v := 1) hx hb dX8_put_34 (by decide) ?_
          refine lv_goto (tgt := 39) hx hb dX8_put_35 (by decide) ?_
          refine lv_istore (lv' := [(5, .int 1), (4, .int z74), (0, .ref t), (1, .int row), (2, .int column), (3, .int n)]) hx hb dX8_put_39 hl (by decide) rfl (fun ls hl => ?_)
          refine lv_iload hx hb dX8_put_41 (lv_at hl 0 rfl) ?_
          refine th_if_eq (X := 1) (tgt := 69) hx hb dX8_put_43 (by decide) li_1 (fun c83 => absurd c83 (by omega)) (fun c83 => ?_)
          refine lv_iload hx hb dX8_put_46 (lv_at hl 1 rfl) ?_
          refine th_if_lt (X := z74.toInt) (tgt := 69) hx hb dX8_put_48 (by decide) rfl (fun c84 => ?_) (fun c84 => ?_)
          · exact th_retvH (post := fun K1 V1 => K = K1 ∧ (∀ b, K b ≠ none → b ≠ ce → V1 b = V b)) (cells := 0) (slots := 0) (mc := 0) (ms := 0) C hS ⟨rfl, (fun b hb hm0 => rfl)⟩ (Nat.le_of_ble_eq_true rfl) (Nat.le_of_ble_eq_true rfl) dX8_put_69
          · refine lv_iload hx hb dX8_put_51 (lv_at hl 1 rfl) ?_
            refine lv_aload_n hx hb dX8_put_53 rfl (lv_at hl 2 rfl) ?_
            refine th_get C hS.1 hp0 fl_RX8_27 hp3 dX8_put_54 ?_
            refine th_alen C hS.1 (t := 0) (by decide) hp4 dX8_put_57 ?_
            refine th_is (w := .int 7) (by decide) ?_
            refine th_icmp_ge (X := z74.toInt) (Y := 7) (tgt := 69) hx hb dX8_put_58 (by decide) rfl li_7 (fun c85 => ?_) (fun c85 => ?_)
            · exact th_retvH (post := fun K1 V1 => K = K1 ∧ (∀ b, K b ≠ none → b ≠ ce → V1 b = V b)) (cells := 0) (slots := 0) (mc := 0) (ms := 0) C hS ⟨rfl, (fun b hb hm0 => rfl)⟩ (Nat.le_of_ble_eq_true rfl) (Nat.le_of_ble_eq_true rfl) dX8_put_69
            · refine lv_aload_n hx hb dX8_put_61 rfl (lv_at hl 2 rfl) ?_
              refine th_get C hS.1 hp0 fl_RX8_27 hp3 dX8_put_62 ?_
              refine lv_iload hx hb dX8_put_65 (lv_at hl 1 rfl) ?_
              refine lv_iload_n hx hb dX8_put_67 rfl (lv_at hl 5 rfl) ?_
              refine th_iast C hS hp4 (by omega) (by omega) dX8_put_68 (fun V86 H locs1 hV87 hS => ?_)
              exact th_retvH (post := fun K1 V1 => K = K1 ∧ (∀ b, K b ≠ none → b ≠ ce → V1 b = V b)) (cells := 0) (slots := 0) (mc := 0) (ms := 0) C hS ⟨rfl, (fun b hb hm0 => (uq_other hV87 hm0))⟩ (Nat.le_of_ble_eq_true rfl) (Nat.le_of_ble_eq_true rfl) dX8_put_69

set_option maxHeartbeats 4000000 in
set_option maxRecDepth 100000 in
theorem t_X8_append_7 {l : Launch} {D : va_G} {dA : Nat → ClassId} {K : Kmap} {V : Vmap} {sz : Nat} {t ce : Nat} {a b c d e size : Int32} {a_i b_i c_i d_i e_i size_i : Int} (iz_a : a.toInt = a_i) (iz_b : b.toInt = b_i) (iz_c : c.toInt = c_i) (iz_d : d.toInt = d_i) (iz_e : e.toInt = e_i) (iz_size : size.toInt = size_i) (hp0 : K t = some (0, 7)) (hp1 : V t 0 = .int 1) (hp2 : V t 1 = .int 7) (hp3 : V t 2 = .ref ce) (hp4 : K ce = some (1, 7)) (hp5 : V t 3 = .int size) (hc0 : 0 ≤ size_i) (hc1 : size_i < 7) : Met l yX8_append (wsOf yX8_append cX8_append 7 (some .int)) { frames := 1, cells := 0, slots := 0, locals := 25 } (PC D dA K V sz [.ref t, .int a, .int b, .int c, .int d, .int e]) (HQi D dA K (fun r K1 V1 => K = K1 ∧ (∀ b, K b ≠ none → b ≠ ce → b ≠ t → V1 b = V b) ∧ (V1 t 0 = .int 1) ∧ (V1 t 1 = .int 7) ∧ (V1 t 2 = .ref ce) ∧ (∃ z : Int32, V1 t 3 = .int z ∧ z.toInt = (size_i + 1)) ∧ ((r.toInt = size_i)))) 0 0 (AK K sz) := by
  refine th_body (by decide +kernel) (Nat.le_of_ble_eq_true rfl) (fun pZ eZ sZ mZ belowZ methZ cZ C hR hsz hnm ls hl => ?_)
  have C : CX pZ sZ mZ [.ref t, .int a, .int b, .int c, .int d, .int e].toArray methZ cZ cX8_append 7 (some .int) RX8 D dA := C
  have hx := C.1; have hb := C.2.1
  have hl : lv_has ls 7 [(0, .ref t), (1, .int a), (2, .int b), (3, .int c), (4, .int d), (5, .int e)] := hl
  subst hsz
  have hS : ST D dA K sZ.heap K V sZ.heap [] := ST.rf hR
  have r_a := th_rng a; rw [iz_a] at r_a
  have r_b := th_rng b; rw [iz_b] at r_b
  have r_c := th_rng c; rw [iz_c] at r_c
  have r_d := th_rng d; rw [iz_d] at r_d
  have r_e := th_rng e; rw [iz_e] at r_e
  refine lv_aload_n hx hb dX8_append_0 rfl (lv_at hl 0 rfl) ?_
  refine th_goi (th_runV (As := []) (rest := []) C hS.1 (RX8, TX8, 4) rfl gV_RX8_31 hp0 (t_X8_isFull_7 iz_size hp0 hp2 hp5) hl rfl rfl rfl rfl ⟨Nat.le_of_ble_eq_true rfl, Nat.le_of_ble_eq_true rfl⟩ (Nat.le_of_ble_eq_true rfl) ⟨Nat.le_of_ble_eq_true rfl, Nat.le_of_ble_eq_true rfl⟩ dX8_append_1) (fun r88 hq89 => ?_)
  refine th_if_eq (X := r88.toInt) (tgt := 9) hx hb dX8_append_4 (by decide) rfl (fun c90 => ?_) (fun c90 => absurd c90 (by omega))
  refine lv_aload_n hx hb dX8_append_9 rfl (lv_at hl 0 rfl) ?_
  refine th_get C hS.1 hp0 fl_RX8_9 hp5 dX8_append_10 ?_
  refine lv_istore (lv' := [(6, .int size), (0, .ref t), (1, .int a), (2, .int b), (3, .int c), (4, .int d), (5, .int e)]) hx hb dX8_append_13 hl (by decide) rfl (fun ls hl => ?_)
  refine lv_aload_n hx hb dX8_append_15 rfl (lv_at hl 1 rfl) ?_
  refine lv_dup hx hb dX8_append_16 rfl ?_
  refine th_get C hS.1 hp0 fl_RX8_9 hp5 dX8_append_17 ?_
  refine lv_iconst (v := 1) hx hb dX8_append_20 (by decide) ?_
  refine lv_iadd hx hb dX8_append_21 ?_
  refine th_top (X := (size_i + 1)) (th_add iz_size li_1 (by omega) (by omega)) (fun z91 hz91 => ?_)
  refine th_put C hS hp0 fp_RX8_9 rfl rfl dX8_append_22 (fun V92 H locs1 hV93 hS => ?_)
  refine lv_aload_n hx hb dX8_append_25 rfl (lv_at hl 1 rfl) ?_
  refine lv_iload hx hb dX8_append_26 (lv_at hl 0 rfl) ?_
  refine lv_iconst (v := 0) hx hb dX8_append_28 (by decide) ?_
  refine lv_iload_n hx hb dX8_append_29 rfl (lv_at hl 2 rfl) ?_
  have hv94 : V92 t 0 = .int 1 := Eq.trans (uq_ne hV93 (Or.inr (by decide))) hp1
  have hv95 : V92 t 1 = .int 7 := Eq.trans (uq_ne hV93 (Or.inr (by decide))) hp2
  have hv96 : V92 t 2 = .ref ce := Eq.trans (uq_ne hV93 (Or.inr (by decide))) hp3
  refine th_govH hS rfl (th_runV (As := [.int size, .int 0, .int a]) (rest := []) C hS.1 (RX8, TX8, 4) rfl gV_RX8_35 hp0 (t_X8_put_7 iz_size li_0 iz_a hz91 hp0 hv94 hv95 hv96 hp4 (uq_same hV93)) hl rfl rfl rfl rfl ⟨Nat.le_of_ble_eq_true rfl, Nat.le_of_ble_eq_true rfl⟩ (Nat.le_of_ble_eq_true rfl) ⟨Nat.le_of_ble_eq_true rfl, Nat.le_of_ble_eq_true rfl⟩ dX8_append_30) (fun K99 V100 H locs1 hq98 hE101 hS => ?_)
  obtain ⟨rfl, hF102⟩ := hq98
  refine lv_aload_n hx hb dX8_append_33 rfl (lv_at hl 1 rfl) ?_
  refine lv_iload hx hb dX8_append_34 (lv_at hl 0 rfl) ?_
  refine lv_iconst (v := 1) hx hb dX8_append_36 (by decide) ?_
  refine lv_iload_n hx hb dX8_append_37 rfl (lv_at hl 3 rfl) ?_
  have hv104 : V100 t 0 = .int 1 := Eq.trans (congrFun (hF102 _ (by rw [hp0]; exact fun h => by cases h) (K_ne hp0 hp4 (by decide))) 0) hv94
  have hv105 : V100 t 1 = .int 7 := Eq.trans (congrFun (hF102 _ (by rw [hp0]; exact fun h => by cases h) (K_ne hp0 hp4 (by decide))) 1) hv95
  have hv106 : V100 t 2 = .ref ce := Eq.trans (congrFun (hF102 _ (by rw [hp0]; exact fun h => by cases h) (K_ne hp0 hp4 (by decide))) 2) hv96
  have hv107 : V100 t 3 = .int z91 := Eq.trans (congrFun (hF102 _ (by rw [hp0]; exact fun h => by cases h) (K_ne hp0 hp4 (by decide))) 3) (uq_same hV93)
  refine th_govH hS rfl (th_runV (As := [.int size, .int 1, .int b]) (rest := []) C hS.1 (RX8, TX8, 4) rfl gV_RX8_35 hp0 (t_X8_put_7 iz_size li_1 iz_b hz91 hp0 hv104 hv105 hv106 hp4 hv107) hl rfl rfl rfl rfl ⟨Nat.le_of_ble_eq_true rfl, Nat.le_of_ble_eq_true rfl⟩ (Nat.le_of_ble_eq_true rfl) ⟨Nat.le_of_ble_eq_true rfl, Nat.le_of_ble_eq_true rfl⟩ dX8_append_38) (fun K110 V111 H locs1 hq109 hE112 hS => ?_)
  obtain ⟨rfl, hF113⟩ := hq109
  refine lv_aload_n hx hb dX8_append_41 rfl (lv_at hl 1 rfl) ?_
  refine lv_iload hx hb dX8_append_42 (lv_at hl 0 rfl) ?_
  refine lv_iconst (v := 2) hx hb dX8_append_44 (by decide) ?_
  refine lv_iload_n hx hb dX8_append_45 rfl (lv_at hl 4 rfl) ?_
  have hv115 : V111 t 0 = .int 1 := Eq.trans (congrFun (hF113 _ (by rw [hp0]; exact fun h => by cases h) (K_ne hp0 hp4 (by decide))) 0) hv104
  have hv116 : V111 t 1 = .int 7 := Eq.trans (congrFun (hF113 _ (by rw [hp0]; exact fun h => by cases h) (K_ne hp0 hp4 (by decide))) 1) hv105
  have hv117 : V111 t 2 = .ref ce := Eq.trans (congrFun (hF113 _ (by rw [hp0]; exact fun h => by cases h) (K_ne hp0 hp4 (by decide))) 2) hv106
  have hv118 : V111 t 3 = .int z91 := Eq.trans (congrFun (hF113 _ (by rw [hp0]; exact fun h => by cases h) (K_ne hp0 hp4 (by decide))) 3) hv107
  refine th_govH hS rfl (th_runV (As := [.int size, .int 2, .int c]) (rest := []) C hS.1 (RX8, TX8, 4) rfl gV_RX8_35 hp0 (t_X8_put_7 iz_size li_2 iz_c hz91 hp0 hv115 hv116 hv117 hp4 hv118) hl rfl rfl rfl rfl ⟨Nat.le_of_ble_eq_true rfl, Nat.le_of_ble_eq_true rfl⟩ (Nat.le_of_ble_eq_true rfl) ⟨Nat.le_of_ble_eq_true rfl, Nat.le_of_ble_eq_true rfl⟩ dX8_append_46) (fun K121 V122 H locs1 hq120 hE123 hS => ?_)
  obtain ⟨rfl, hF124⟩ := hq120
  refine lv_aload_n hx hb dX8_append_49 rfl (lv_at hl 1 rfl) ?_
  refine lv_iload hx hb dX8_append_50 (lv_at hl 0 rfl) ?_
  refine lv_iconst (v := 3) hx hb dX8_append_52 (by decide) ?_
  refine lv_iload hx hb dX8_append_53 (lv_at hl 5 rfl) ?_
  have hv126 : V122 t 0 = .int 1 := Eq.trans (congrFun (hF124 _ (by rw [hp0]; exact fun h => by cases h) (K_ne hp0 hp4 (by decide))) 0) hv115
  have hv127 : V122 t 1 = .int 7 := Eq.trans (congrFun (hF124 _ (by rw [hp0]; exact fun h => by cases h) (K_ne hp0 hp4 (by decide))) 1) hv116
  have hv128 : V122 t 2 = .ref ce := Eq.trans (congrFun (hF124 _ (by rw [hp0]; exact fun h => by cases h) (K_ne hp0 hp4 (by decide))) 2) hv117
  have hv129 : V122 t 3 = .int z91 := Eq.trans (congrFun (hF124 _ (by rw [hp0]; exact fun h => by cases h) (K_ne hp0 hp4 (by decide))) 3) hv118
  refine th_govH hS rfl (th_runV (As := [.int size, .int 3, .int d]) (rest := []) C hS.1 (RX8, TX8, 4) rfl gV_RX8_35 hp0 (t_X8_put_7 iz_size li_3 iz_d hz91 hp0 hv126 hv127 hv128 hp4 hv129) hl rfl rfl rfl rfl ⟨Nat.le_of_ble_eq_true rfl, Nat.le_of_ble_eq_true rfl⟩ (Nat.le_of_ble_eq_true rfl) ⟨Nat.le_of_ble_eq_true rfl, Nat.le_of_ble_eq_true rfl⟩ dX8_append_55) (fun K132 V133 H locs1 hq131 hE134 hS => ?_)
  obtain ⟨rfl, hF135⟩ := hq131
  refine lv_aload_n hx hb dX8_append_58 rfl (lv_at hl 1 rfl) ?_
  refine lv_iload hx hb dX8_append_59 (lv_at hl 0 rfl) ?_
  refine lv_iconst (v := 4) hx hb dX8_append_61 (by decide) ?_
  refine lv_iload hx hb dX8_append_62 (lv_at hl 6 rfl) ?_
  have hv137 : V133 t 0 = .int 1 := Eq.trans (congrFun (hF135 _ (by rw [hp0]; exact fun h => by cases h) (K_ne hp0 hp4 (by decide))) 0) hv126
  have hv138 : V133 t 1 = .int 7 := Eq.trans (congrFun (hF135 _ (by rw [hp0]; exact fun h => by cases h) (K_ne hp0 hp4 (by decide))) 1) hv127
  have hv139 : V133 t 2 = .ref ce := Eq.trans (congrFun (hF135 _ (by rw [hp0]; exact fun h => by cases h) (K_ne hp0 hp4 (by decide))) 2) hv128
  have hv140 : V133 t 3 = .int z91 := Eq.trans (congrFun (hF135 _ (by rw [hp0]; exact fun h => by cases h) (K_ne hp0 hp4 (by decide))) 3) hv129
  refine th_govH hS rfl (th_runV (As := [.int size, .int 4, .int e]) (rest := []) C hS.1 (RX8, TX8, 4) rfl gV_RX8_35 hp0 (t_X8_put_7 iz_size li_4 iz_e hz91 hp0 hv137 hv138 hv139 hp4 hv140) hl rfl rfl rfl rfl ⟨Nat.le_of_ble_eq_true rfl, Nat.le_of_ble_eq_true rfl⟩ (Nat.le_of_ble_eq_true rfl) ⟨Nat.le_of_ble_eq_true rfl, Nat.le_of_ble_eq_true rfl⟩ dX8_append_64) (fun K143 V144 H locs1 hq142 hE145 hS => ?_)
  obtain ⟨rfl, hF146⟩ := hq142
  refine lv_iload hx hb dX8_append_67 (lv_at hl 0 rfl) ?_
  have hv148 : V144 t 0 = .int 1 := Eq.trans (congrFun (hF146 _ (by rw [hp0]; exact fun h => by cases h) (K_ne hp0 hp4 (by decide))) 0) hv137
  have hv149 : V144 t 1 = .int 7 := Eq.trans (congrFun (hF146 _ (by rw [hp0]; exact fun h => by cases h) (K_ne hp0 hp4 (by decide))) 1) hv138
  have hv150 : V144 t 2 = .ref ce := Eq.trans (congrFun (hF146 _ (by rw [hp0]; exact fun h => by cases h) (K_ne hp0 hp4 (by decide))) 2) hv139
  have hv151 : V144 t 3 = .int z91 := Eq.trans (congrFun (hF146 _ (by rw [hp0]; exact fun h => by cases h) (K_ne hp0 hp4 (by decide))) 3) hv140
  exact th_retiH (post := fun r K1 V1 => K = K1 ∧ (∀ b, K b ≠ none → b ≠ ce → b ≠ t → V1 b = V b) ∧ (V1 t 0 = .int 1) ∧ (V1 t 1 = .int 7) ∧ (V1 t 2 = .ref ce) ∧ (∃ z : Int32, V1 t 3 = .int z ∧ z.toInt = (size_i + 1)) ∧ ((r.toInt = size_i))) (cells := 0) (slots := 0) (mc := 0) (ms := 0) C hS ⟨rfl, (fun b hb hm0 hm1 => Eq.trans (hF146 _ hb hm0) (Eq.trans (hF135 _ hb hm0) (Eq.trans (hF124 _ hb hm0) (Eq.trans (hF113 _ hb hm0) (Eq.trans (hF102 _ hb hm0) ((uq_other hV93 hm1))))))), hv148, hv149, hv150, ⟨_, hv151, (by have hfin := hz91; omega)⟩, (by have hfin := iz_size; omega)⟩ (Nat.le_of_ble_eq_true rfl) (Nat.le_of_ble_eq_true rfl) dX8_append_69

set_option maxHeartbeats 4000000 in
set_option maxRecDepth 100000 in
theorem t_X8_isFull_400 {l : Launch} {D : va_G} {dA : Nat → ClassId} {K : Kmap} {V : Vmap} {sz : Nat} {t : Nat} {size : Int32} {size_i : Int} (iz_size : size.toInt = size_i) (hp0 : K t = some (0, 7)) (hp1 : V t 1 = .int 400) (hp2 : V t 3 = .int size) : Met l yX8_isFull (wsOf yX8_isFull cX8_isFull 1 (some .boolean)) { frames := 0, cells := 0, slots := 0, locals := 0 } (PC D dA K V sz [.ref t]) (PQi (fun r => (size_i ≥ 400 ∧ r.toInt = 1) ∨ (size_i < 400 ∧ r.toInt = 0))) 0 0 noFree := by
  refine th_body (by decide +kernel) (Nat.le_of_ble_eq_true rfl) (fun pZ eZ sZ mZ belowZ methZ cZ C hR hsz hnm ls hl => ?_)
  have C : CX pZ sZ mZ [.ref t].toArray methZ cZ cX8_isFull 1 (some .boolean) RX8 D dA := C
  have hx := C.1; have hb := C.2.1
  have hl : lv_has ls 1 [(0, .ref t)] := hl
  subst hsz
  have hS : ST D dA K sZ.heap K V sZ.heap [] := ST.rf hR
  refine lv_aload_n hx hb dX8_isFull_0 rfl (lv_at hl 0 rfl) ?_
  refine th_get C hS.1 hp0 fl_RX8_9 hp2 dX8_isFull_1 ?_
  refine lv_aload_n hx hb dX8_isFull_4 rfl (lv_at hl 0 rfl) ?_
  refine th_get C hS.1 hp0 fl_RX8_18 hp1 dX8_isFull_5 ?_
  refine th_icmp_lt (X := size_i) (Y := 400) (tgt := 15) hx hb dX8_isFull_8 (by decide) iz_size li_400 (fun c152 => ?_) (fun c152 => ?_)
  · refine lv_iconst (v := 0) hx hb dX8_isFull_15 (by decide) ?_
    exact th_retz C (by have hfin := li_0; omega) (Or.inr (⟨by omega, li_0⟩)) dX8_isFull_16
  · refine lv_iconst (v := 1) hx hb dX8_isFull_11 (by decide) ?_
    refine lv_goto (tgt := 16) hx hb dX8_isFull_12 (by decide) ?_
    exact th_retz C (by have hfin := li_1; omega) (Or.inl ⟨by omega, li_1⟩) dX8_isFull_16

set_option maxHeartbeats 4000000 in
set_option maxRecDepth 100000 in
theorem t_X8_put_400 {l : Launch} {D : va_G} {dA : Nat → ClassId} {K : Kmap} {V : Vmap} {sz : Nat} {t ce : Nat} {row column n size : Int32} {row_i column_i n_i size_i : Int} (iz_row : row.toInt = row_i) (iz_column : column.toInt = column_i) (iz_n : n.toInt = n_i) (iz_size : size.toInt = size_i) (hp0 : K t = some (0, 7)) (hp1 : V t 0 = .int 1) (hp2 : V t 1 = .int 400) (hp3 : V t 2 = .ref ce) (hp4 : K ce = some (1, 400)) (hp5 : V t 3 = .int size) : Met l yX8_put (wsOf yX8_put cX8_put 6 (none : Option Jvm.ClassFile.FieldType)) { frames := 0, cells := 0, slots := 0, locals := 0 } (PC D dA K V sz [.ref t, .int row, .int column, .int n]) (HQv D dA K (fun K1 V1 => K = K1 ∧ (∀ b, K b ≠ none → b ≠ ce → V1 b = V b))) 0 0 (AK K sz) := by
  refine th_body (by decide +kernel) (Nat.le_of_ble_eq_true rfl) (fun pZ eZ sZ mZ belowZ methZ cZ C hR hsz hnm ls hl => ?_)
  have C : CX pZ sZ mZ [.ref t, .int row, .int column, .int n].toArray methZ cZ cX8_put 6 (none : Option Jvm.ClassFile.FieldType) RX8 D dA := C
  have hx := C.1; have hb := C.2.1
  have hl : lv_has ls 6 [(0, .ref t), (1, .int row), (2, .int column), (3, .int n)] := hl
  subst hsz
  have hS : ST D dA K sZ.heap K V sZ.heap [] := ST.rf hR
  have r_row := th_rng row; rw [iz_row] at r_row
  have r_column := th_rng column; rw [iz_column] at r_column
  have r_n := th_rng n; rw [iz_n] at r_n
  refine lv_iload_n hx hb dX8_put_0 rfl (lv_at hl 1 rfl) ?_
  refine lv_aload_n hx hb dX8_put_1 rfl (lv_at hl 0 rfl) ?_
  refine th_get C hS.1 hp0 fl_RX8_15 hp1 dX8_put_2 ?_
  refine lv_imul hx hb dX8_put_5 ?_
  refine th_top (X := (row_i * 1)) (th_mul iz_row li_1 (by omega) (by omega)) (fun z153 hz153 => ?_)
  refine lv_iload_n hx hb dX8_put_6 rfl (lv_at hl 2 rfl) ?_
  refine lv_iadd hx hb dX8_put_7 ?_
  refine lv_topi (fun z154 _ => ?_)
  have hrz154 := th_rng z154
  refine lv_istore (lv' := [(4, .int z154), (0, .ref t), (1, .int row), (2, .int column), (3, .int n)]) hx hb dX8_put_8 hl (by decide) rfl (fun ls hl => ?_)
  refine lv_iload_n hx hb dX8_put_10 rfl (lv_at hl 2 rfl) ?_
  refine th_if_lt (X := row_i) (tgt := 38) hx hb dX8_put_11 (by decide) iz_row (fun c155 => ?_) (fun c155 => ?_)
  · refine lv_iconst (v := 0) hx hb dX8_put_38 (by decide) ?_
    refine lv_istore (lv' := [(5, .int 0), (4, .int z154), (0, .ref t), (1, .int row), (2, .int column), (3, .int n)]) hx hb dX8_put_39 hl (by decide) rfl (fun ls hl => ?_)
    refine lv_iload hx hb dX8_put_41 (lv_at hl 0 rfl) ?_
    refine th_if_eq (X := 0) (tgt := 69) hx hb dX8_put_43 (by decide) li_0 (fun c156 => ?_) (fun c156 => absurd c156 (by omega))
    exact th_retvH (post := fun K1 V1 => K = K1 ∧ (∀ b, K b ≠ none → b ≠ ce → V1 b = V b)) (cells := 0) (slots := 0) (mc := 0) (ms := 0) C hS ⟨rfl, (fun b hb hm0 => rfl)⟩ (Nat.le_of_ble_eq_true rfl) (Nat.le_of_ble_eq_true rfl) dX8_put_69
  · refine lv_iload_n hx hb dX8_put_14 rfl (lv_at hl 2 rfl) ?_
    refine lv_aload_n hx hb dX8_put_15 rfl (lv_at hl 1 rfl) ?_
    refine th_get C hS.1 hp0 fl_RX8_9 hp5 dX8_put_16 ?_
    refine th_icmp_ge (X := row_i) (Y := size_i) (tgt := 38) hx hb dX8_put_19 (by decide) iz_row iz_size (fun c157 => ?_) (fun c157 => ?_)
    · refine lv_iconst (v := 0) hx hb dX8_put_38 (by decide) ?_
      refine lv_istore (lv' := [(5, .int 0), (4, .int z154), (0, .ref t), (1, .int row), (2, .int column), (3, .int n)]) hx hb dX8_put_39 hl (by decide) rfl (fun ls hl => ?_)
      refine lv_iload hx hb dX8_put_41 (lv_at hl 0 rfl) ?_
      refine th_if_eq (X := 0) (tgt := 69) hx hb dX8_put_43 (by decide) li_0 (fun c158 => ?_) (fun c158 => absurd c158 (by omega))
      exact th_retvH (post := fun K1 V1 => K = K1 ∧ (∀ b, K b ≠ none → b ≠ ce → V1 b = V b)) (cells := 0) (slots := 0) (mc := 0) (ms := 0) C hS ⟨rfl, (fun b hb hm0 => rfl)⟩ (Nat.le_of_ble_eq_true rfl) (Nat.le_of_ble_eq_true rfl) dX8_put_69
    · refine lv_iload_n hx hb dX8_put_22 rfl (lv_at hl 3 rfl) ?_
      refine th_if_lt (X := column_i) (tgt := 38) hx hb dX8_put_23 (by decide) iz_column (fun c159 => ?_) (fun c159 => ?_)
      · refine lv_iconst (v := 0) hx hb dX8_put_38 (by decide) ?_
        refine lv_istore (lv' := [(5, .int 0), (4, .int z154), (0, .ref t), (1, .int row), (2, .int column), (3, .int n)]) hx hb dX8_put_39 hl (by decide) rfl (fun ls hl => ?_)
        refine lv_iload hx hb dX8_put_41 (lv_at hl 0 rfl) ?_
        refine th_if_eq (X := 0) (tgt := 69) hx hb dX8_put_43 (by decide) li_0 (fun c160 => ?_) (fun c160 => absurd c160 (by omega))
        exact th_retvH (post := fun K1 V1 => K = K1 ∧ (∀ b, K b ≠ none → b ≠ ce → V1 b = V b)) (cells := 0) (slots := 0) (mc := 0) (ms := 0) C hS ⟨rfl, (fun b hb hm0 => rfl)⟩ (Nat.le_of_ble_eq_true rfl) (Nat.le_of_ble_eq_true rfl) dX8_put_69
      · refine lv_iload_n hx hb dX8_put_26 rfl (lv_at hl 3 rfl) ?_
        refine lv_aload_n hx hb dX8_put_27 rfl (lv_at hl 1 rfl) ?_
        refine th_get C hS.1 hp0 fl_RX8_15 hp1 dX8_put_28 ?_
        refine th_icmp_ge (X := column_i) (Y := 1) (tgt := 38) hx hb dX8_put_31 (by decide) iz_column li_1 (fun c161 => ?_) (fun c161 => ?_)
        · refine lv_iconst (v := 0) hx hb dX8_put_38 (by decide) ?_
          refine lv_istore (lv' := [(5, .int 0), (4, .int z154), (0, .ref t), (1, .int row), (2, .int column), (3, .int n)]) hx hb dX8_put_39 hl (by decide) rfl (fun ls hl => ?_)
          refine lv_iload hx hb dX8_put_41 (lv_at hl 0 rfl) ?_
          refine th_if_eq (X := 0) (tgt := 69) hx hb dX8_put_43 (by decide) li_0 (fun c162 => ?_) (fun c162 => absurd c162 (by omega))
          exact th_retvH (post := fun K1 V1 => K = K1 ∧ (∀ b, K b ≠ none → b ≠ ce → V1 b = V b)) (cells := 0) (slots := 0) (mc := 0) (ms := 0) C hS ⟨rfl, (fun b hb hm0 => rfl)⟩ (Nat.le_of_ble_eq_true rfl) (Nat.le_of_ble_eq_true rfl) dX8_put_69
        · refine lv_iconst (v := 1) hx hb dX8_put_34 (by decide) ?_
          refine lv_goto (tgt := 39) hx hb dX8_put_35 (by decide) ?_
          refine lv_istore (lv' := [(5, .int 1), (4, .int z154), (0, .ref t), (1, .int row), (2, .int column), (3, .int n)]) hx hb dX8_put_39 hl (by decide) rfl (fun ls hl => ?_)
          refine lv_iload hx hb dX8_put_41 (lv_at hl 0 rfl) ?_
          refine th_if_eq (X := 1) (tgt := 69) hx hb dX8_put_43 (by decide) li_1 (fun c163 => absurd c163 (by omega)) (fun c163 => ?_)
          refine lv_iload hx hb dX8_put_46 (lv_at hl 1 rfl) ?_
          refine th_if_lt (X := z154.toInt) (tgt := 69) hx hb dX8_put_48 (by decide) rfl (fun c164 => ?_) (fun c164 => ?_)
          · exact th_retvH (post := fun K1 V1 => K = K1 ∧ (∀ b, K b ≠ none → b ≠ ce → V1 b = V b)) (cells := 0) (slots := 0) (mc := 0) (ms := 0) C hS ⟨rfl, (fun b hb hm0 => rfl)⟩ (Nat.le_of_ble_eq_true rfl) (Nat.le_of_ble_eq_true rfl) dX8_put_69
          · refine lv_iload hx hb dX8_put_51 (lv_at hl 1 rfl) ?_
            refine lv_aload_n hx hb dX8_put_53 rfl (lv_at hl 2 rfl) ?_
            refine th_get C hS.1 hp0 fl_RX8_27 hp3 dX8_put_54 ?_
            refine th_alen C hS.1 (t := 0) (by decide) hp4 dX8_put_57 ?_
            refine th_is (w := .int 400) (by decide) ?_
            refine th_icmp_ge (X := z154.toInt) (Y := 400) (tgt := 69) hx hb dX8_put_58 (by decide) rfl li_400 (fun c165 => ?_) (fun c165 => ?_)
            · exact th_retvH (post := fun K1 V1 => K = K1 ∧ (∀ b, K b ≠ none → b ≠ ce → V1 b = V b)) (cells := 0) (slots := 0) (mc := 0) (ms := 0) C hS ⟨rfl, (fun b hb hm0 => rfl)⟩ (Nat.le_of_ble_eq_true rfl) (Nat.le_of_ble_eq_true rfl) dX8_put_69
            · refine lv_aload_n hx hb dX8_put_61 rfl (lv_at hl 2 rfl) ?_
              refine th_get C hS.1 hp0 fl_RX8_27 hp3 dX8_put_62 ?_
              refine lv_iload hx hb dX8_put_65 (lv_at hl 1 rfl) ?_
              refine lv_iload_n hx hb dX8_put_67 rfl (lv_at hl 5 rfl) ?_
              refine th_iast C hS hp4 (by omega) (by omega) dX8_put_68 (fun V166 H locs1 hV167 hS => ?_)
              exact th_retvH (post := fun K1 V1 => K = K1 ∧ (∀ b, K b ≠ none → b ≠ ce → V1 b = V b)) (cells := 0) (slots := 0) (mc := 0) (ms := 0) C hS ⟨rfl, (fun b hb hm0 => (uq_other hV167 hm0))⟩ (Nat.le_of_ble_eq_true rfl) (Nat.le_of_ble_eq_true rfl) dX8_put_69
