set_option maxHeartbeats 4000000 in
set_option maxRecDepth 100000 in
theorem t_X12_isRectangle {l : Launch} {D : va_G} {dA : Nat → ClassId} {K : Kmap} {V : Vmap} {sz : Nat} {x : Nat} {a b : Int32} {a_i b_i : Int} (iz_a : a.toInt = a_i) (iz_b : b.toInt = b_i) (hp0 : K x = some (0, 11)) (hp1 : V x 0 = .int 8) (hp2 : V x 1 = .int 8) : Met l yX12_isRectangle (wsOf yX12_isRectangle cX12_isRectangle 3 (some .boolean)) { frames := 1, cells := 0, slots := 0, locals := 21 } (PC D dA K V sz [.ref x, .int a, .int b]) (PQi (fun r => (((0 ≤ a_i ∧ a_i ≤ 63) ∧ (0 ≤ b_i ∧ b_i ≤ 63) ∧ (a_i / 8) ≤ (b_i / 8) ∧ (a_i % 8) ≤ (b_i % 8)) ∧ r.toInt = 1) ∨ (((0 > a_i ∨ a_i > 63) ∨ (0 > b_i ∨ b_i > 63) ∨ (a_i / 8) > (b_i / 8) ∨ (a_i % 8) > (b_i % 8)) ∧ r.toInt = 0))) 0 0 noFree := by
  refine th_body (by decide +kernel) (Nat.le_of_ble_eq_true rfl) (fun pZ eZ sZ mZ belowZ methZ cZ C hR hsz hnm ls hl => ?_)
  have C : CX pZ sZ mZ [.ref x, .int a, .int b].toArray methZ cZ cX12_isRectangle 3 (some .boolean) RX12 D dA := C
  have hx := C.1; have hb := C.2.1
  have hl : lv_has ls 3 [(0, .ref x), (1, .int a), (2, .int b)] := hl
  subst hsz
  have hS : ST D dA K sZ.heap K V sZ.heap [] := ST.rf hR
  have r_a := th_rng a; rw [iz_a] at r_a
  have r_b := th_rng b; rw [iz_b] at r_b
  refine lv_aload_n hx hb dX12_isRectangle_0 rfl (lv_at hl 0 rfl) ?_
  refine lv_iload_n hx hb dX12_isRectangle_1 rfl (lv_at hl 1 rfl) ?_
  refine th_goi (th_runV (As := [.int a]) (rest := []) C hS.1 (RX12, TX12, 151) rfl gV_RX12_381 hp0 (t_X12_isCell iz_a hp0 hp1 hp2) hl rfl rfl rfl rfl ⟨Nat.le_of_ble_eq_true rfl, Nat.le_of_ble_eq_true rfl⟩ (Nat.le_of_ble_eq_true rfl) ⟨Nat.le_of_ble_eq_true rfl, Nat.le_of_ble_eq_true rfl⟩ dX12_isRectangle_2) (fun r3894 hq3895 => ?_)
  refine th_if_eq (X := r3894.toInt) (tgt := 50) hx hb dX12_isRectangle_5 (by decide) rfl (fun c3896 => ?_) (fun c3896 => ?_)
  · replace hq3895 := Or.resolve_left hq3895 (fun h => absurd h.2 (by omega))
    refine lv_iconst (v := 0) hx hb dX12_isRectangle_50 (by decide) ?_
    exact th_retz C (by have hfin := li_0; omega) (Or.inr (⟨by omega, li_0⟩)) dX12_isRectangle_51
  · replace hq3895 := Or.resolve_right hq3895 (fun h => absurd h.2 (by omega))
    refine lv_aload_n hx hb dX12_isRectangle_8 rfl (lv_at hl 0 rfl) ?_
    refine lv_iload_n hx hb dX12_isRectangle_9 rfl (lv_at hl 2 rfl) ?_
    refine th_goi (th_runV (As := [.int b]) (rest := []) C hS.1 (RX12, TX12, 151) rfl gV_RX12_381 hp0 (t_X12_isCell iz_b hp0 hp1 hp2) hl rfl rfl rfl rfl ⟨Nat.le_of_ble_eq_true rfl, Nat.le_of_ble_eq_true rfl⟩ (Nat.le_of_ble_eq_true rfl) ⟨Nat.le_of_ble_eq_true rfl, Nat.le_of_ble_eq_true rfl⟩ dX12_isRectangle_10) (fun r3897 hq3898 => ?_)
    refine th_if_eq (X := r3897.toInt) (tgt := 50) hx hb dX12_isRectangle_13 (by decide) rfl (fun c3899 => ?_) (fun c3899 => ?_)
    · replace hq3898 := Or.resolve_left hq3898 (fun h => absurd h.2 (by omega))
      refine lv_iconst (v := 0) hx hb dX12_isRectangle_50 (by decide) ?_
      exact th_retz C (by have hfin := li_0; omega) (Or.inr (⟨by omega, li_0⟩)) dX12_isRectangle_51
    · replace hq3898 := Or.resolve_right hq3898 (fun h => absurd h.2 (by omega))
      refine lv_iload_n hx hb dX12_isRectangle_16 rfl (lv_at hl 1 rfl) ?_
      refine lv_aload_n hx hb dX12_isRectangle_17 rfl (lv_at hl 0 rfl) ?_
      refine th_get C hS.1 hp0 fl_RX12_365 hp1 dX12_isRectangle_18 ?_
      refine lv_irem hx hb dX12_isRectangle_21 (by decide) ?_
      refine th_top (X := (a_i % 8)) (th_rem iz_a li_8 (by omega) (by omega)) (fun z3900 hz3900 => ?_)
      refine lv_iload_n hx hb dX12_isRectangle_22 rfl (lv_at hl 2 rfl) ?_
      refine lv_aload_n hx hb dX12_isRectangle_23 rfl (lv_at hl 0 rfl) ?_
      refine th_get C hS.1 hp0 fl_RX12_365 hp1 dX12_isRectangle_24 ?_
      refine lv_irem hx hb dX12_isRectangle_27 (by decide) ?_
      refine th_top (X := (b_i % 8)) (th_rem iz_b li_8 (by omega) (by omega)) (fun z3901 hz3901 => ?_)
      refine th_icmp_gt (X := (a_i % 8)) (Y := (b_i % 8)) (tgt := 50) hx hb dX12_isRectangle_28 (by decide) hz3900 hz3901 (fun c3902 => ?_) (fun c3902 => ?_)
      · refine lv_iconst (v := 0) hx hb dX12_isRectangle_50 (by decide) ?_
        exact th_retz C (by have hfin := li_0; omega) (Or.inr (⟨by omega, li_0⟩)) dX12_isRectangle_51
      · refine lv_iload_n hx hb dX12_isRectangle_31 rfl (lv_at hl 1 rfl) ?_
        refine lv_aload_n hx hb dX12_isRectangle_32 rfl (lv_at hl 0 rfl) ?_
        refine th_get C hS.1 hp0 fl_RX12_365 hp1 dX12_isRectangle_33 ?_
        refine lv_idiv hx hb dX12_isRectangle_36 (by decide) ?_
        refine th_top (X := (a_i / 8)) (th_div iz_a li_8 (by omega) (by omega)) (fun z3903 hz3903 => ?_)
        refine lv_iload_n hx hb dX12_isRectangle_37 rfl (lv_at hl 2 rfl) ?_
        refine lv_aload_n hx hb dX12_isRectangle_38 rfl (lv_at hl 0 rfl) ?_
        refine th_get C hS.1 hp0 fl_RX12_365 hp1 dX12_isRectangle_39 ?_
        refine lv_idiv hx hb dX12_isRectangle_42 (by decide) ?_
        refine th_top (X := (b_i / 8)) (th_div iz_b li_8 (by omega) (by omega)) (fun z3904 hz3904 => ?_)
        refine th_icmp_gt (X := (a_i / 8)) (Y := (b_i / 8)) (tgt := 50) hx hb dX12_isRectangle_43 (by decide) hz3903 hz3904 (fun c3905 => ?_) (fun c3905 => ?_)
        · refine lv_iconst (v := 0) hx hb dX12_isRectangle_50 (by decide) ?_
          exact th_retz C (by have hfin := li_0; omega) (Or.inr (⟨by omega, li_0⟩)) dX12_isRectangle_51
        · refine lv_iconst (v := 1) hx hb dX12_isRectangle_46 (by decide) ?_
          refine lv_goto (tgt := 51) hx hb dX12_isRectangle_47 (by decide) ?_
          exact th_retz C (by have hfin := li_1; omega) (Or.inl ⟨by omega, li_1⟩) dX12_isRectangle_51

set_option maxHeartbeats 4000000 in
set_option maxRecDepth 100000 in
theorem t_X12_isParty {l : Launch} {D : va_G} {dA : Nat → ClassId} {K : Kmap} {V : Vmap} {sz : Nat} {x : Nat} {p : Int32} {p_i : Int} (iz_p : p.toInt = p_i) (hp0 : K x = some (0, 11)) (hp1 : V x 9 = .int 0) : Met l yX12_isParty (wsOf yX12_isParty cX12_isParty 2 (some .boolean)) { frames := 0, cells := 0, slots := 0, locals := 0 } (PC D dA K V sz [.ref x, .int p]) (PQi (fun r => (r.toInt = 0))) 0 0 noFree := by
  refine th_body (by decide +kernel) (Nat.le_of_ble_eq_true rfl) (fun pZ eZ sZ mZ belowZ methZ cZ C hR hsz hnm ls hl => ?_)
  have C : CX pZ sZ mZ [.ref x, .int p].toArray methZ cZ cX12_isParty 2 (some .boolean) RX12 D dA := C
  have hx := C.1; have hb := C.2.1
  have hl : lv_has ls 2 [(0, .ref x), (1, .int p)] := hl
  subst hsz
  have hS : ST D dA K sZ.heap K V sZ.heap [] := ST.rf hR
  have r_p := th_rng p; rw [iz_p] at r_p
  refine lv_iload_n hx hb dX12_isParty_0 rfl (lv_at hl 1 rfl) ?_
  refine th_if_lt (X := p_i) (tgt := 16) hx hb dX12_isParty_1 (by decide) iz_p (fun c3906 => ?_) (fun c3906 => ?_)
  · refine lv_iconst (v := 0) hx hb dX12_isParty_16 (by decide) ?_
    exact th_retz C (by have hfin := li_0; omega) (by have hfin := li_0; omega) dX12_isParty_17
  · refine lv_iload_n hx hb dX12_isParty_4 rfl (lv_at hl 1 rfl) ?_
    refine lv_aload_n hx hb dX12_isParty_5 rfl (lv_at hl 0 rfl) ?_
    refine th_get C hS.1 hp0 fl_RX12_393 hp1 dX12_isParty_6 ?_
    refine th_icmp_ge (X := p_i) (Y := 0) (tgt := 16) hx hb dX12_isParty_9 (by decide) iz_p li_0 (fun c3907 => ?_) (fun c3907 => absurd c3907 (by omega))
    refine lv_iconst (v := 0) hx hb dX12_isParty_16 (by decide) ?_
    exact th_retz C (by have hfin := li_0; omega) (by have hfin := li_0; omega) dX12_isParty_17

set_option maxHeartbeats 4000000 in
set_option maxRecDepth 100000 in
theorem t_X12_isPlace {l : Launch} {D : va_G} {dA : Nat → ClassId} {K : Kmap} {V : Vmap} {sz : Nat} {x : Nat} {k kd : Int32} {k_i kd_i : Int} (iz_k : k.toInt = k_i) (iz_kd : kd.toInt = kd_i) (hp0 : K x = some (0, 11)) (hp1 : V x 10 = .int 0) : Met l yX12_isPlace (wsOf yX12_isPlace cX12_isPlace 3 (some .boolean)) { frames := 0, cells := 0, slots := 0, locals := 0 } (PC D dA K V sz [.ref x, .int k, .int kd]) (PQi (fun r => (r.toInt = 0))) 0 0 noFree := by
  refine th_body (by decide +kernel) (Nat.le_of_ble_eq_true rfl) (fun pZ eZ sZ mZ belowZ methZ cZ C hR hsz hnm ls hl => ?_)
  have C : CX pZ sZ mZ [.ref x, .int k, .int kd].toArray methZ cZ cX12_isPlace 3 (some .boolean) RX12 D dA := C
  have hx := C.1; have hb := C.2.1
  have hl : lv_has ls 3 [(0, .ref x), (1, .int k), (2, .int kd)] := hl
  subst hsz
  have hS : ST D dA K sZ.heap K V sZ.heap [] := ST.rf hR
  have r_k := th_rng k; rw [iz_k] at r_k
  have r_kd := th_rng kd; rw [iz_kd] at r_kd
  refine lv_iload_n hx hb dX12_isPlace_0 rfl (lv_at hl 1 rfl) ?_
  refine th_if_lt (X := k_i) (tgt := 26) hx hb dX12_isPlace_1 (by decide) iz_k (fun c3908 => ?_) (fun c3908 => ?_)
  · refine lv_iconst (v := 0) hx hb dX12_isPlace_26 (by decide) ?_
    exact th_retz C (by have hfin := li_0; omega) (by have hfin := li_0; omega) dX12_isPlace_27
  · refine lv_iload_n hx hb dX12_isPlace_4 rfl (lv_at hl 1 rfl) ?_
    refine lv_aload_n hx hb dX12_isPlace_5 rfl (lv_at hl 0 rfl) ?_
    refine th_get C hS.1 hp0 fl_RX12_375 hp1 dX12_isPlace_6 ?_
    refine th_icmp_ge (X := k_i) (Y := 0) (tgt := 26) hx hb dX12_isPlace_9 (by decide) iz_k li_0 (fun c3909 => ?_) (fun c3909 => absurd c3909 (by omega))
    refine lv_iconst (v := 0) hx hb dX12_isPlace_26 (by decide) ?_
    exact th_retz C (by have hfin := li_0; omega) (by have hfin := li_0; omega) dX12_isPlace_27

set_option maxHeartbeats 4000000 in
set_option maxRecDepth 100000 in
theorem t_X12_isStation {l : Launch} {D : va_G} {dA : Nat → ClassId} {K : Kmap} {V : Vmap} {sz : Nat} {x : Nat} {k : Int32} {k_i : Int} (iz_k : k.toInt = k_i) (hp0 : K x = some (0, 11)) (hp1 : V x 10 = .int 0) : Met l yX12_isStation (wsOf yX12_isStation cX12_isStation 2 (some .boolean)) { frames := 1, cells := 0, slots := 0, locals := 22 } (PC D dA K V sz [.ref x, .int k]) (PQi (fun r => (r.toInt = 0))) 0 0 noFree := by
  refine th_body (by decide +kernel) (Nat.le_of_ble_eq_true rfl) (fun pZ eZ sZ mZ belowZ methZ cZ C hR hsz hnm ls hl => ?_)
  have C : CX pZ sZ mZ [.ref x, .int k].toArray methZ cZ cX12_isStation 2 (some .boolean) RX12 D dA := C
  have hx := C.1; have hb := C.2.1
  have hl : lv_has ls 2 [(0, .ref x), (1, .int k)] := hl
  subst hsz
  have hS : ST D dA K sZ.heap K V sZ.heap [] := ST.rf hR
  have r_k := th_rng k; rw [iz_k] at r_k
  refine lv_aload_n hx hb dX12_isStation_0 rfl (lv_at hl 0 rfl) ?_
  refine lv_iload_n hx hb dX12_isStation_1 rfl (lv_at hl 1 rfl) ?_
  refine lv_iconst (v := 1) hx hb dX12_isStation_2 (by decide) ?_
  refine th_goi (th_runV (As := [.int k, .int 1]) (rest := []) C hS.1 (RX12, TX12, 151) rfl gV_RX12_399 hp0 (t_X12_isPlace iz_k li_1 hp0 hp1) hl rfl rfl rfl rfl ⟨Nat.le_of_ble_eq_true rfl, Nat.le_of_ble_eq_true rfl⟩ (Nat.le_of_ble_eq_true rfl) ⟨Nat.le_of_ble_eq_true rfl, Nat.le_of_ble_eq_true rfl⟩ dX12_isStation_3) (fun r3910 hq3911 => ?_)
  exact th_retz C (by omega) (by omega) dX12_isStation_6

set_option maxHeartbeats 4000000 in
set_option maxRecDepth 100000 in
theorem t_X12_stands {l : Launch} {D : va_G} {dA : Nat → ClassId} {K : Kmap} {V : Vmap} {sz : Nat} {x : Nat} {k : Int32} {k_i : Int} (iz_k : k.toInt = k_i) (hp0 : K x = some (0, 11)) (hp1 : V x 10 = .int 0) : Met l yX12_stands (wsOf yX12_stands cX12_stands 2 (some .boolean)) { frames := 2, cells := 0, slots := 0, locals := 43 } (PC D dA K V sz [.ref x, .int k]) (PQi (fun r => (r.toInt = 0))) 0 0 noFree := by
  refine th_body (by decide +kernel) (Nat.le_of_ble_eq_true rfl) (fun pZ eZ sZ mZ belowZ methZ cZ C hR hsz hnm ls hl => ?_)
  have C : CX pZ sZ mZ [.ref x, .int k].toArray methZ cZ cX12_stands 2 (some .boolean) RX12 D dA := C
  have hx := C.1; have hb := C.2.1
  have hl : lv_has ls 2 [(0, .ref x), (1, .int k)] := hl
  subst hsz
  have hS : ST D dA K sZ.heap K V sZ.heap [] := ST.rf hR
  have r_k := th_rng k; rw [iz_k] at r_k
  refine lv_aload_n hx hb dX12_stands_0 rfl (lv_at hl 0 rfl) ?_
  refine lv_iload_n hx hb dX12_stands_1 rfl (lv_at hl 1 rfl) ?_
  refine th_goi (th_runV (As := [.int k]) (rest := []) C hS.1 (RX12, TX12, 151) rfl gV_RX12_403 hp0 (t_X12_isStation iz_k hp0 hp1) hl rfl rfl rfl rfl ⟨Nat.le_of_ble_eq_true rfl, Nat.le_of_ble_eq_true rfl⟩ (Nat.le_of_ble_eq_true rfl) ⟨Nat.le_of_ble_eq_true rfl, Nat.le_of_ble_eq_true rfl⟩ dX12_stands_2) (fun r3912 hq3913 => ?_)
  refine th_if_eq (X := r3912.toInt) (tgt := 21) hx hb dX12_stands_5 (by decide) rfl (fun c3914 => ?_) (fun c3914 => absurd c3914 (by omega))
  refine lv_iconst (v := 0) hx hb dX12_stands_21 (by decide) ?_
  exact th_retz C (by have hfin := li_0; omega) (by have hfin := li_0; omega) dX12_stands_22

set_option maxHeartbeats 4000000 in
set_option maxRecDepth 100000 in
theorem t_X12_isText {l : Launch} {D : va_G} {dA : Nat → ClassId} {K : Kmap} {V : Vmap} {sz : Nat} {x : Nat} {i : Int32} {i_i : Int} (iz_i : i.toInt = i_i) (hp0 : K x = some (0, 11)) (hp1 : V x 47 = .int 0) : Met l yX12_isText (wsOf yX12_isText cX12_isText 2 (some .boolean)) { frames := 0, cells := 0, slots := 0, locals := 0 } (PC D dA K V sz [.ref x, .int i]) (PQi (fun r => (r.toInt = 0))) 0 0 noFree := by
  refine th_body (by decide +kernel) (Nat.le_of_ble_eq_true rfl) (fun pZ eZ sZ mZ belowZ methZ cZ C hR hsz hnm ls hl => ?_)
  have C : CX pZ sZ mZ [.ref x, .int i].toArray methZ cZ cX12_isText 2 (some .boolean) RX12 D dA := C
  have hx := C.1; have hb := C.2.1
  have hl : lv_has ls 2 [(0, .ref x), (1, .int i)] := hl
  subst hsz
  have hS : ST D dA K sZ.heap K V sZ.heap [] := ST.rf hR
  have r_i := th_rng i; rw [iz_i] at r_i
  refine lv_iload_n hx hb dX12_isText_0 rfl (lv_at hl 1 rfl) ?_
  refine th_if_lt (X := i_i) (tgt := 16) hx hb dX12_isText_1 (by decide) iz_i (fun c3915 => ?_) (fun c3915 => ?_)
  · refine lv_iconst (v := 0) hx hb dX12_isText_16 (by decide) ?_
    exact th_retz C (by have hfin := li_0; omega) (by have hfin := li_0; omega) dX12_isText_17
  · refine lv_iload_n hx hb dX12_isText_4 rfl (lv_at hl 1 rfl) ?_
    refine lv_aload_n hx hb dX12_isText_5 rfl (lv_at hl 0 rfl) ?_
    refine th_get C hS.1 hp0 fl_RX12_535 hp1 dX12_isText_6 ?_
    refine th_icmp_ge (X := i_i) (Y := 0) (tgt := 16) hx hb dX12_isText_9 (by decide) iz_i li_0 (fun c3916 => ?_) (fun c3916 => absurd c3916 (by omega))
    refine lv_iconst (v := 0) hx hb dX12_isText_16 (by decide) ?_
    exact th_retz C (by have hfin := li_0; omega) (by have hfin := li_0; omega) dX12_isText_17

set_option maxHeartbeats 4000000 in
set_option maxRecDepth 100000 in
theorem t_X12_isWork {l : Launch} {D : va_G} {dA : Nat → ClassId} {K : Kmap} {V : Vmap} {sz : Nat} {x : Nat} {w : Int32} {w_i : Int} (iz_w : w.toInt = w_i) (hp0 : K x = some (0, 11)) (hp1 : V x 66 = .int 0) : Met l yX12_isWork (wsOf yX12_isWork cX12_isWork 2 (some .boolean)) { frames := 0, cells := 0, slots := 0, locals := 0 } (PC D dA K V sz [.ref x, .int w]) (PQi (fun r => (r.toInt = 0))) 0 0 noFree := by
  refine th_body (by decide +kernel) (Nat.le_of_ble_eq_true rfl) (fun pZ eZ sZ mZ belowZ methZ cZ C hR hsz hnm ls hl => ?_)
  have C : CX pZ sZ mZ [.ref x, .int w].toArray methZ cZ cX12_isWork 2 (some .boolean) RX12 D dA := C
  have hx := C.1; have hb := C.2.1
  have hl : lv_has ls 2 [(0, .ref x), (1, .int w)] := hl
  subst hsz
  have hS : ST D dA K sZ.heap K V sZ.heap [] := ST.rf hR
  have r_w := th_rng w; rw [iz_w] at r_w
  refine lv_iload_n hx hb dX12_isWork_0 rfl (lv_at hl 1 rfl) ?_
  refine th_if_lt (X := w_i) (tgt := 16) hx hb dX12_isWork_1 (by decide) iz_w (fun c3917 => ?_) (fun c3917 => ?_)
  · refine lv_iconst (v := 0) hx hb dX12_isWork_16 (by decide) ?_
    exact th_retz C (by have hfin := li_0; omega) (by have hfin := li_0; omega) dX12_isWork_17
  · refine lv_iload_n hx hb dX12_isWork_4 rfl (lv_at hl 1 rfl) ?_
    refine lv_aload_n hx hb dX12_isWork_5 rfl (lv_at hl 0 rfl) ?_
    refine th_get C hS.1 hp0 fl_RX12_378 hp1 dX12_isWork_6 ?_
    refine th_icmp_ge (X := w_i) (Y := 0) (tgt := 16) hx hb dX12_isWork_9 (by decide) iz_w li_0 (fun c3918 => ?_) (fun c3918 => absurd c3918 (by omega))
    refine lv_iconst (v := 0) hx hb dX12_isWork_16 (by decide) ?_
    exact th_retz C (by have hfin := li_0; omega) (by have hfin := li_0; omega) dX12_isWork_17

set_option maxHeartbeats 4000000 in
set_option maxRecDepth 100000 in
theorem t_X12_isShip {l : Launch} {D : va_G} {dA : Nat → ClassId} {K : Kmap} {V : Vmap} {sz : Nat} {x : Nat} {sh1 : Int32} {sh1_i : Int} (iz_sh1 : sh1.toInt = sh1_i) (hp0 : K x = some (0, 11)) (hp1 : V x 91 = .int 0) : Met l yX12_isShip (wsOf yX12_isShip cX12_isShip 2 (some .boolean)) { frames := 0, cells := 0, slots := 0, locals := 0 } (PC D dA K V sz [.ref x, .int sh1]) (PQi (fun r => (r.toInt = 0))) 0 0 noFree := by
  refine th_body (by decide +kernel) (Nat.le_of_ble_eq_true rfl) (fun pZ eZ sZ mZ belowZ methZ cZ C hR hsz hnm ls hl => ?_)
  have C : CX pZ sZ mZ [.ref x, .int sh1].toArray methZ cZ cX12_isShip 2 (some .boolean) RX12 D dA := C
  have hx := C.1; have hb := C.2.1
  have hl : lv_has ls 2 [(0, .ref x), (1, .int sh1)] := hl
  subst hsz
  have hS : ST D dA K sZ.heap K V sZ.heap [] := ST.rf hR
  have r_sh1 := th_rng sh1; rw [iz_sh1] at r_sh1
  refine lv_iload_n hx hb dX12_isShip_0 rfl (lv_at hl 1 rfl) ?_
  refine th_if_lt (X := sh1_i) (tgt := 16) hx hb dX12_isShip_1 (by decide) iz_sh1 (fun c3919 => ?_) (fun c3919 => ?_)
  · refine lv_iconst (v := 0) hx hb dX12_isShip_16 (by decide) ?_
    exact th_retz C (by have hfin := li_0; omega) (by have hfin := li_0; omega) dX12_isShip_17
  · refine lv_iload_n hx hb dX12_isShip_4 rfl (lv_at hl 1 rfl) ?_
    refine lv_aload_n hx hb dX12_isShip_5 rfl (lv_at hl 0 rfl) ?_
    refine th_get C hS.1 hp0 fl_RX12_612 hp1 dX12_isShip_6 ?_
    refine th_icmp_ge (X := sh1_i) (Y := 0) (tgt := 16) hx hb dX12_isShip_9 (by decide) iz_sh1 li_0 (fun c3920 => ?_) (fun c3920 => absurd c3920 (by omega))
    refine lv_iconst (v := 0) hx hb dX12_isShip_16 (by decide) ?_
    exact th_retz C (by have hfin := li_0; omega) (by have hfin := li_0; omega) dX12_isShip_17

set_option maxHeartbeats 4000000 in
set_option maxRecDepth 100000 in
theorem t_X12_isWord {l : Launch} {D : va_G} {dA : Nat → ClassId} {K : Kmap} {V : Vmap} {sz : Nat} {x : Nat} {w : Int32} {w_i : Int} (iz_w : w.toInt = w_i) (hp0 : K x = some (0, 11)) (hp1 : V x 133 = .int 0) : Met l yX12_isWord (wsOf yX12_isWord cX12_isWord 2 (some .boolean)) { frames := 0, cells := 0, slots := 0, locals := 0 } (PC D dA K V sz [.ref x, .int w]) (PQi (fun r => (r.toInt = 0))) 0 0 noFree := by
  refine th_body (by decide +kernel) (Nat.le_of_ble_eq_true rfl) (fun pZ eZ sZ mZ belowZ methZ cZ C hR hsz hnm ls hl => ?_)
  have C : CX pZ sZ mZ [.ref x, .int w].toArray methZ cZ cX12_isWord 2 (some .boolean) RX12 D dA := C
  have hx := C.1; have hb := C.2.1
  have hl : lv_has ls 2 [(0, .ref x), (1, .int w)] := hl
  subst hsz
  have hS : ST D dA K sZ.heap K V sZ.heap [] := ST.rf hR
  have r_w := th_rng w; rw [iz_w] at r_w
  refine lv_iload_n hx hb dX12_isWord_0 rfl (lv_at hl 1 rfl) ?_
  refine th_if_lt (X := w_i) (tgt := 16) hx hb dX12_isWord_1 (by decide) iz_w (fun c3921 => ?_) (fun c3921 => ?_)
  · refine lv_iconst (v := 0) hx hb dX12_isWord_16 (by decide) ?_
    exact th_retz C (by have hfin := li_0; omega) (by have hfin := li_0; omega) dX12_isWord_17
  · refine lv_iload_n hx hb dX12_isWord_4 rfl (lv_at hl 1 rfl) ?_
    refine lv_aload_n hx hb dX12_isWord_5 rfl (lv_at hl 0 rfl) ?_
    refine th_get C hS.1 hp0 fl_RX12_718 hp1 dX12_isWord_6 ?_
    refine th_icmp_ge (X := w_i) (Y := 0) (tgt := 16) hx hb dX12_isWord_9 (by decide) iz_w li_0 (fun c3922 => ?_) (fun c3922 => absurd c3922 (by omega))
    refine lv_iconst (v := 0) hx hb dX12_isWord_16 (by decide) ?_
    exact th_retz C (by have hfin := li_0; omega) (by have hfin := li_0; omega) dX12_isWord_17

set_option maxHeartbeats 4000000 in
set_option maxRecDepth 100000 in
theorem t_X12_isClause {l : Launch} {D : va_G} {dA : Nat → ClassId} {K : Kmap} {V : Vmap} {sz : Nat} {x : Nat} {i j : Int32} {i_i j_i : Int} (iz_i : i.toInt = i_i) (iz_j : j.toInt = j_i) (hp0 : K x = some (0, 11)) (hp1 : V x 47 = .int 0) : Met l yX12_isClause (wsOf yX12_isClause cX12_isClause 3 (some .boolean)) { frames := 1, cells := 0, slots := 0, locals := 21 } (PC D dA K V sz [.ref x, .int i, .int j]) (PQi (fun r => (r.toInt = 0))) 0 0 noFree := by
  refine th_body (by decide +kernel) (Nat.le_of_ble_eq_true rfl) (fun pZ eZ sZ mZ belowZ methZ cZ C hR hsz hnm ls hl => ?_)
  have C : CX pZ sZ mZ [.ref x, .int i, .int j].toArray methZ cZ cX12_isClause 3 (some .boolean) RX12 D dA := C
  have hx := C.1; have hb := C.2.1
  have hl : lv_has ls 3 [(0, .ref x), (1, .int i), (2, .int j)] := hl
  subst hsz
  have hS : ST D dA K sZ.heap K V sZ.heap [] := ST.rf hR
  have r_i := th_rng i; rw [iz_i] at r_i
  have r_j := th_rng j; rw [iz_j] at r_j
  refine lv_aload_n hx hb dX12_isClause_0 rfl (lv_at hl 0 rfl) ?_
  refine lv_iload_n hx hb dX12_isClause_1 rfl (lv_at hl 1 rfl) ?_
  refine th_goi (th_runV (As := [.int i]) (rest := []) C hS.1 (RX12, TX12, 151) rfl gV_RX12_541 hp0 (t_X12_isText iz_i hp0 hp1) hl rfl rfl rfl rfl ⟨Nat.le_of_ble_eq_true rfl, Nat.le_of_ble_eq_true rfl⟩ (Nat.le_of_ble_eq_true rfl) ⟨Nat.le_of_ble_eq_true rfl, Nat.le_of_ble_eq_true rfl⟩ dX12_isClause_2) (fun r3923 hq3924 => ?_)
  refine th_if_eq (X := r3923.toInt) (tgt := 26) hx hb dX12_isClause_5 (by decide) rfl (fun c3925 => ?_) (fun c3925 => absurd c3925 (by omega))
  refine lv_iconst (v := 0) hx hb dX12_isClause_26 (by decide) ?_
  exact th_retz C (by have hfin := li_0; omega) (by have hfin := li_0; omega) dX12_isClause_27

set_option maxHeartbeats 4000000 in
set_option maxRecDepth 100000 in
theorem t_X12_begins {l : Launch} {D : va_G} {dA : Nat → ClassId} {K : Kmap} {V : Vmap} {sz : Nat} {x hg gd wy fl : Nat} {w h : Int32} {w_i h_i : Int} (iz_w : w.toInt = w_i) (iz_h : h.toInt = h_i) (hp0 : K x = some (0, 11)) (hp1 : V x 5 = .ref hg) (hp2 : K hg = some (1, 144)) (hp3 : V x 6 = .ref gd) (hp4 : K gd = some (1, 144)) (hp5 : V x 7 = .ref wy) (hp6 : K wy = some (1, 144)) (hp7 : V x 8 = .ref fl) (hp8 : K fl = some (1, 144)) : Met l yX12_begins (wsOf yX12_begins cX12_begins 4 (none : Option Jvm.ClassFile.FieldType)) { frames := 0, cells := 0, slots := 0, locals := 0 } (PC D dA K V sz [.ref x, .int w, .int h]) (HQv D dA K (fun K1 V1 => K = K1 ∧ (∀ b, K b ≠ none → b ≠ x → b ≠ hg → b ≠ gd → b ≠ wy → b ≠ fl → V1 b = V b) ∧ (V1 x 0 = .int w) ∧ (V1 x 1 = .int h) ∧ (∀ k, k ≠ 0 → k ≠ 1 → V1 x k = V x k))) 0 0 (AK K sz) := by
  refine th_body (by decide +kernel) (Nat.le_of_ble_eq_true rfl) (fun pZ eZ sZ mZ belowZ methZ cZ C hR hsz hnm ls hl => ?_)
  have C : CX pZ sZ mZ [.ref x, .int w, .int h].toArray methZ cZ cX12_begins 4 (none : Option Jvm.ClassFile.FieldType) RX12 D dA := C
  have hx := C.1; have hb := C.2.1
  have hl : lv_has ls 4 [(0, .ref x), (1, .int w), (2, .int h)] := hl
  subst hsz
  have hS : ST D dA K sZ.heap K V sZ.heap [] := ST.rf hR
  have r_w := th_rng w; rw [iz_w] at r_w
  have r_h := th_rng h; rw [iz_h] at r_h
  refine lv_aload_n hx hb dX12_begins_0 rfl (lv_at hl 0 rfl) ?_
  refine lv_iload_n hx hb dX12_begins_1 rfl (lv_at hl 1 rfl) ?_
  refine th_put C hS hp0 fp_RX12_365 rfl rfl dX12_begins_2 (fun V3926 H locs1 hV3927 hS => ?_)
  refine lv_aload_n hx hb dX12_begins_5 rfl (lv_at hl 0 rfl) ?_
  refine lv_iload_n hx hb dX12_begins_6 rfl (lv_at hl 2 rfl) ?_
  refine th_put C hS hp0 fp_RX12_368 rfl rfl dX12_begins_7 (fun V3928 H locs1 hV3929 hS => ?_)
  refine lv_iconst (v := 0) hx hb dX12_begins_10 (by decide) ?_
  refine lv_istore_n (lv' := [(3, .int 0), (0, .ref x), (1, .int w), (2, .int h)]) hx hb dX12_begins_11 rfl hl (by decide) rfl (fun ls hl => ?_)
  refine th_loop (fun nMeas ls V' H' locs' => ∃ z : Int32, 0 ≤ z.toInt ∧ z.toInt ≤ 144 ∧ nMeas = (144 - z.toInt).toNat ∧ lv_has ls 4 [(0, .ref x), (1, .int w), (2, .int h), (3, .int z)] ∧ ST D dA K sZ.heap K V' H' locs' ∧ ∀ b, b ≠ hg → b ≠ gd → b ≠ wy → b ≠ fl → V' b = V3928 b) _ ⟨0, (by have := li_0; omega), (by have := li_0; omega), rfl, lv_sub hl [1, 2, 3, 0] rfl, hS, fun b _ _ _ _ => rfl⟩ (fun n3930 ls V3934 H locs1 hI3935 ih3931 => ?_)
  obtain ⟨z3932, hz3936, hz3937, hn3938, hl, hS, hinv3933⟩ := hI3935
  refine lv_iload_n hx hb dX12_begins_12 rfl (lv_at hl 3 rfl) ?_
  refine lv_sipush (v := 144) hx hb dX12_begins_13 (by decide) ?_
  refine th_icmp_ge (X := z3932.toInt) (Y := 144) (tgt := 53) hx hb dX12_begins_16 (by decide) rfl li_144 (fun c3939 => ?_) (fun c3939 => ?_)
  · have hv3940 : V3928 x 0 = .int w := Eq.trans (uq_ne hV3929 (Or.inr (by decide))) (uq_same hV3927)
    have hv3941 : V3934 x 0 = .int w := Eq.trans (congrFun (hinv3933 _ (K_ne hp0 hp2 (by decide)) (K_ne hp0 hp4 (by decide)) (K_ne hp0 hp6 (by decide)) (K_ne hp0 hp8 (by decide))) 0) hv3940
    have hv3942 : V3934 x 1 = .int h := Eq.trans (congrFun (hinv3933 _ (K_ne hp0 hp2 (by decide)) (K_ne hp0 hp4 (by decide)) (K_ne hp0 hp6 (by decide)) (K_ne hp0 hp8 (by decide))) 1) (uq_same hV3929)
    exact th_retvH (post := fun K1 V1 => K = K1 ∧ (∀ b, K b ≠ none → b ≠ x → b ≠ hg → b ≠ gd → b ≠ wy → b ≠ fl → V1 b = V b) ∧ (V1 x 0 = .int w) ∧ (V1 x 1 = .int h) ∧ (∀ k, k ≠ 0 → k ≠ 1 → V1 x k = V x k)) (cells := 0) (slots := 0) (mc := 0) (ms := 0) C hS ⟨rfl, (fun b hb hm0 hm1 hm2 hm3 hm4 => Eq.trans (hinv3933 _ hm1 hm2 hm3 hm4) (Eq.trans (uq_other hV3929 hm0) ((uq_other hV3927 hm0)))), hv3941, hv3942, (fun k hk0 hk1 => Eq.trans (congrFun (hinv3933 _ (K_ne hp0 hp2 (by decide)) (K_ne hp0 hp4 (by decide)) (K_ne hp0 hp6 (by decide)) (K_ne hp0 hp8 (by decide))) k) (Eq.trans (uq_ne hV3929 (Or.inr hk1)) ((uq_ne hV3927 (Or.inr hk0)))))⟩ (Nat.le_of_ble_eq_true rfl) (Nat.le_of_ble_eq_true rfl) dX12_begins_53
  · refine lv_aload_n hx hb dX12_begins_19 rfl (lv_at hl 0 rfl) ?_
    have hv3943 : V3926 x 5 = .ref hg := Eq.trans (uq_ne hV3927 (Or.inr (by decide))) hp1
    have hv3944 : V3928 x 5 = .ref hg := Eq.trans (uq_ne hV3929 (Or.inr (by decide))) hv3943
    have hv3945 : V3934 x 5 = .ref hg := Eq.trans (congrFun (hinv3933 _ (K_ne hp0 hp2 (by decide)) (K_ne hp0 hp4 (by decide)) (K_ne hp0 hp6 (by decide)) (K_ne hp0 hp8 (by decide))) 5) hv3944
    refine th_get C hS.1 hp0 fl_RX12_16 hv3945 dX12_begins_20 ?_
    refine lv_iload_n hx hb dX12_begins_23 rfl (lv_at hl 3 rfl) ?_
    refine lv_iconst (v := 0) hx hb dX12_begins_24 (by decide) ?_
    refine th_iast C hS hp2 (by omega) (by omega) dX12_begins_25 (fun V3946 H locs1 hV3947 hS => ?_)
    refine lv_aload_n hx hb dX12_begins_26 rfl (lv_at hl 0 rfl) ?_
    have hv3948 : V3926 x 6 = .ref gd := Eq.trans (uq_ne hV3927 (Or.inr (by decide))) hp3
    have hv3949 : V3928 x 6 = .ref gd := Eq.trans (uq_ne hV3929 (Or.inr (by decide))) hv3948
    have hv3950 : V3934 x 6 = .ref gd := Eq.trans (congrFun (hinv3933 _ (K_ne hp0 hp2 (by decide)) (K_ne hp0 hp4 (by decide)) (K_ne hp0 hp6 (by decide)) (K_ne hp0 hp8 (by decide))) 6) hv3949
    have hv3951 : V3946 x 6 = .ref gd := Eq.trans (uq_ne hV3947 (Or.inl (K_ne hp0 hp2 (by decide)))) hv3950
    refine th_get C hS.1 hp0 fl_RX12_20 hv3951 dX12_begins_27 ?_
    refine lv_iload_n hx hb dX12_begins_30 rfl (lv_at hl 3 rfl) ?_
    refine lv_iconst (v := 0) hx hb dX12_begins_31 (by decide) ?_
    refine th_iast C hS hp4 (by omega) (by omega) dX12_begins_32 (fun V3952 H locs1 hV3953 hS => ?_)
    refine lv_aload_n hx hb dX12_begins_33 rfl (lv_at hl 0 rfl) ?_
    have hv3954 : V3926 x 7 = .ref wy := Eq.trans (uq_ne hV3927 (Or.inr (by decide))) hp5
    have hv3955 : V3928 x 7 = .ref wy := Eq.trans (uq_ne hV3929 (Or.inr (by decide))) hv3954
    have hv3956 : V3934 x 7 = .ref wy := Eq.trans (congrFun (hinv3933 _ (K_ne hp0 hp2 (by decide)) (K_ne hp0 hp4 (by decide)) (K_ne hp0 hp6 (by decide)) (K_ne hp0 hp8 (by decide))) 7) hv3955
    have hv3957 : V3946 x 7 = .ref wy := Eq.trans (uq_ne hV3947 (Or.inl (K_ne hp0 hp2 (by decide)))) hv3956
    have hv3958 : V3952 x 7 = .ref wy := Eq.trans (uq_ne hV3953 (Or.inl (K_ne hp0 hp4 (by decide)))) hv3957
    refine th_get C hS.1 hp0 fl_RX12_23 hv3958 dX12_begins_34 ?_
    refine lv_iload_n hx hb dX12_begins_37 rfl (lv_at hl 3 rfl) ?_
    refine lv_iconst (v := (-1)) hx hb dX12_begins_38 (by decide) ?_
    refine th_iast C hS hp6 (by omega) (by omega) dX12_begins_39 (fun V3959 H locs1 hV3960 hS => ?_)
    refine lv_aload_n hx hb dX12_begins_40 rfl (lv_at hl 0 rfl) ?_
    have hv3961 : V3926 x 8 = .ref fl := Eq.trans (uq_ne hV3927 (Or.inr (by decide))) hp7
    have hv3962 : V3928 x 8 = .ref fl := Eq.trans (uq_ne hV3929 (Or.inr (by decide))) hv3961
    have hv3963 : V3934 x 8 = .ref fl := Eq.trans (congrFun (hinv3933 _ (K_ne hp0 hp2 (by decide)) (K_ne hp0 hp4 (by decide)) (K_ne hp0 hp6 (by decide)) (K_ne hp0 hp8 (by decide))) 8) hv3962
    have hv3964 : V3946 x 8 = .ref fl := Eq.trans (uq_ne hV3947 (Or.inl (K_ne hp0 hp2 (by decide)))) hv3963
    have hv3965 : V3952 x 8 = .ref fl := Eq.trans (uq_ne hV3953 (Or.inl (K_ne hp0 hp4 (by decide)))) hv3964
    have hv3966 : V3959 x 8 = .ref fl := Eq.trans (uq_ne hV3960 (Or.inl (K_ne hp0 hp6 (by decide)))) hv3965
    refine th_get C hS.1 hp0 fl_RX12_26 hv3966 dX12_begins_41 ?_
    refine lv_iload_n hx hb dX12_begins_44 rfl (lv_at hl 3 rfl) ?_
    refine lv_iconst (v := 0) hx hb dX12_begins_45 (by decide) ?_
    refine th_iast C hS hp8 (by omega) (by omega) dX12_begins_46 (fun V3967 H locs1 hV3968 hS => ?_)
    obtain ⟨z3969, hz3969, ez3969⟩ : ∃ y : Int32, z3932 + Int32.ofInt 1 = y ∧ y.toInt = z3932.toInt + 1 := ⟨_, rfl, th_add rfl (by decide) (by omega) (by omega)⟩
    refine lv_iinc (v := z3969) (lv' := [(3, .int z3969), (0, .ref x), (1, .int w), (2, .int h)]) hx hb dX12_begins_47 hl (k := 3) rfl hz3969 (by decide) rfl (fun ls hl => ?_)
    refine lv_goto (tgt := 12) hx hb dX12_begins_50 (by decide) ?_
    exact ih3931 _ (by rw [ez3969]; omega) _ _ _ _ ⟨z3969, (by rw [ez3969]; omega), (by rw [ez3969]; omega), rfl, lv_sub hl [1, 2, 3, 0] rfl, hS, fun b hm0 hm1 hm2 hm3 => Eq.trans (uq_other hV3968 hm3) (Eq.trans (uq_other hV3960 hm2) (Eq.trans (uq_other hV3953 hm1) (Eq.trans (uq_other hV3947 hm0) (hinv3933 b hm0 hm1 hm2 hm3))))⟩

set_option maxHeartbeats 4000000 in
set_option maxRecDepth 100000 in
theorem t_X12_place {l : Launch} {D : va_G} {dA : Nat → ClassId} {K : Kmap} {V : Vmap} {sz : Nat} {x a0 a1 a2 a3 a4 a5 : Nat} {kd p c lw n : Int32} {kd_i p_i c_i lw_i n_i : Int} (iz_kd : kd.toInt = kd_i) (iz_p : p.toInt = p_i) (iz_c : c.toInt = c_i) (iz_lw : lw.toInt = lw_i) (iz_n : n.toInt = n_i) (hp0 : K x = some (0, 11)) (hp1 : V x 10 = .int 0) (hp2 : V x 2 = .int 0) (hp3 : V x 13 = .ref a0) (hp4 : K a0 = some (1, 60)) (hp5 : V x 14 = .ref a1) (hp6 : K a1 = some (1, 60)) (hp7 : V x 15 = .ref a2) (hp8 : K a2 = some (1, 60)) (hp9 : V x 16 = .ref a3) (hp10 : K a3 = some (1, 60)) (hp11 : V x 17 = .ref a4) (hp12 : K a4 = some (1, 60)) (hp13 : V x 18 = .ref a5) (hp14 : K a5 = some (1, 60)) : Met l yX12_place (wsOf yX12_place cX12_place 6 (some .int)) { frames := 0, cells := 0, slots := 0, locals := 0 } (PC D dA K V sz [.ref x, .int kd, .int p, .int c, .int lw, .int n]) (HQi D dA K (fun r K1 V1 => ((r.toInt = 0)))) 0 0 (AK K sz) := by
  refine th_body (by decide +kernel) (Nat.le_of_ble_eq_true rfl) (fun pZ eZ sZ mZ belowZ methZ cZ C hR hsz hnm ls hl => ?_)
  have C : CX pZ sZ mZ [.ref x, .int kd, .int p, .int c, .int lw, .int n].toArray methZ cZ cX12_place 6 (some .int) RX12 D dA := C
  have hx := C.1; have hb := C.2.1
  have hl : lv_has ls 6 [(0, .ref x), (1, .int kd), (2, .int p), (3, .int c), (4, .int lw), (5, .int n)] := hl
  subst hsz
  have hS : ST D dA K sZ.heap K V sZ.heap [] := ST.rf hR
  have r_kd := th_rng kd; rw [iz_kd] at r_kd
  have r_p := th_rng p; rw [iz_p] at r_p
  have r_c := th_rng c; rw [iz_c] at r_c
  have r_lw := th_rng lw; rw [iz_lw] at r_lw
  have r_n := th_rng n; rw [iz_n] at r_n
  refine lv_aload_n hx hb dX12_place_0 rfl (lv_at hl 0 rfl) ?_
  refine th_get C hS.1 hp0 fl_RX12_35 hp3 dX12_place_1 ?_
  refine lv_aload_n hx hb dX12_place_4 rfl (lv_at hl 0 rfl) ?_
  refine th_get C hS.1 hp0 fl_RX12_375 hp1 dX12_place_5 ?_
  refine lv_iload_n hx hb dX12_place_8 rfl (lv_at hl 1 rfl) ?_
  refine th_iast C hS hp4 (by rw [li_0]; omega) (by rw [li_0]; omega) dX12_place_9 (fun V3970 H locs1 hV3971 hS => ?_)
  refine lv_aload_n hx hb dX12_place_10 rfl (lv_at hl 0 rfl) ?_
  have hv3972 : V3970 x 14 = .ref a1 := Eq.trans (uq_ne hV3971 (Or.inl (K_ne hp0 hp4 (by decide)))) hp5
  refine th_get C hS.1 hp0 fl_RX12_38 hv3972 dX12_place_11 ?_
  refine lv_aload_n hx hb dX12_place_14 rfl (lv_at hl 0 rfl) ?_
  have hv3973 : V3970 x 10 = .int 0 := Eq.trans (uq_ne hV3971 (Or.inl (K_ne hp0 hp4 (by decide)))) hp1
  refine th_get C hS.1 hp0 fl_RX12_375 hv3973 dX12_place_15 ?_
  refine lv_iload_n hx hb dX12_place_18 rfl (lv_at hl 2 rfl) ?_
  refine th_iast C hS hp6 (by rw [li_0]; omega) (by rw [li_0]; omega) dX12_place_19 (fun V3974 H locs1 hV3975 hS => ?_)
  refine lv_aload_n hx hb dX12_place_20 rfl (lv_at hl 0 rfl) ?_
  have hv3976 : V3970 x 15 = .ref a2 := Eq.trans (uq_ne hV3971 (Or.inl (K_ne hp0 hp4 (by decide)))) hp7
  have hv3977 : V3974 x 15 = .ref a2 := Eq.trans (uq_ne hV3975 (Or.inl (K_ne hp0 hp6 (by decide)))) hv3976
  refine th_get C hS.1 hp0 fl_RX12_41 hv3977 dX12_place_21 ?_
  refine lv_aload_n hx hb dX12_place_24 rfl (lv_at hl 0 rfl) ?_
  have hv3978 : V3974 x 10 = .int 0 := Eq.trans (uq_ne hV3975 (Or.inl (K_ne hp0 hp6 (by decide)))) hv3973
  refine th_get C hS.1 hp0 fl_RX12_375 hv3978 dX12_place_25 ?_
  refine lv_iload_n hx hb dX12_place_28 rfl (lv_at hl 3 rfl) ?_
  refine th_iast C hS hp8 (by rw [li_0]; omega) (by rw [li_0]; omega) dX12_place_29 (fun V3979 H locs1 hV3980 hS => ?_)
  refine lv_aload_n hx hb dX12_place_30 rfl (lv_at hl 0 rfl) ?_
  have hv3981 : V3970 x 16 = .ref a3 := Eq.trans (uq_ne hV3971 (Or.inl (K_ne hp0 hp4 (by decide)))) hp9
  have hv3982 : V3974 x 16 = .ref a3 := Eq.trans (uq_ne hV3975 (Or.inl (K_ne hp0 hp6 (by decide)))) hv3981
  have hv3983 : V3979 x 16 = .ref a3 := Eq.trans (uq_ne hV3980 (Or.inl (K_ne hp0 hp8 (by decide)))) hv3982
  refine th_get C hS.1 hp0 fl_RX12_44 hv3983 dX12_place_31 ?_
  refine lv_aload_n hx hb dX12_place_34 rfl (lv_at hl 0 rfl) ?_
  have hv3984 : V3979 x 10 = .int 0 := Eq.trans (uq_ne hV3980 (Or.inl (K_ne hp0 hp8 (by decide)))) hv3978
  refine th_get C hS.1 hp0 fl_RX12_375 hv3984 dX12_place_35 ?_
  refine lv_iload hx hb dX12_place_38 (lv_at hl 4 rfl) ?_
  refine th_iast C hS hp10 (by rw [li_0]; omega) (by rw [li_0]; omega) dX12_place_40 (fun V3985 H locs1 hV3986 hS => ?_)
  refine lv_aload_n hx hb dX12_place_41 rfl (lv_at hl 0 rfl) ?_
  have hv3987 : V3970 x 17 = .ref a4 := Eq.trans (uq_ne hV3971 (Or.inl (K_ne hp0 hp4 (by decide)))) hp11
  have hv3988 : V3974 x 17 = .ref a4 := Eq.trans (uq_ne hV3975 (Or.inl (K_ne hp0 hp6 (by decide)))) hv3987
  have hv3989 : V3979 x 17 = .ref a4 := Eq.trans (uq_ne hV3980 (Or.inl (K_ne hp0 hp8 (by decide)))) hv3988
  have hv3990 : V3985 x 17 = .ref a4 := Eq.trans (uq_ne hV3986 (Or.inl (K_ne hp0 hp10 (by decide)))) hv3989
  refine th_get C hS.1 hp0 fl_RX12_47 hv3990 dX12_place_42 ?_
  refine lv_aload_n hx hb dX12_place_45 rfl (lv_at hl 0 rfl) ?_
  have hv3991 : V3985 x 10 = .int 0 := Eq.trans (uq_ne hV3986 (Or.inl (K_ne hp0 hp10 (by decide)))) hv3984
  refine th_get C hS.1 hp0 fl_RX12_375 hv3991 dX12_place_46 ?_
  refine lv_iload hx hb dX12_place_49 (lv_at hl 5 rfl) ?_
  refine th_iast C hS hp12 (by rw [li_0]; omega) (by rw [li_0]; omega) dX12_place_51 (fun V3992 H locs1 hV3993 hS => ?_)
  refine lv_aload_n hx hb dX12_place_52 rfl (lv_at hl 0 rfl) ?_
  have hv3994 : V3970 x 18 = .ref a5 := Eq.trans (uq_ne hV3971 (Or.inl (K_ne hp0 hp4 (by decide)))) hp13
  have hv3995 : V3974 x 18 = .ref a5 := Eq.trans (uq_ne hV3975 (Or.inl (K_ne hp0 hp6 (by decide)))) hv3994
  have hv3996 : V3979 x 18 = .ref a5 := Eq.trans (uq_ne hV3980 (Or.inl (K_ne hp0 hp8 (by decide)))) hv3995
  have hv3997 : V3985 x 18 = .ref a5 := Eq.trans (uq_ne hV3986 (Or.inl (K_ne hp0 hp10 (by decide)))) hv3996
  have hv3998 : V3992 x 18 = .ref a5 := Eq.trans (uq_ne hV3993 (Or.inl (K_ne hp0 hp12 (by decide)))) hv3997
  refine th_get C hS.1 hp0 fl_RX12_50 hv3998 dX12_place_53 ?_
  refine lv_aload_n hx hb dX12_place_56 rfl (lv_at hl 0 rfl) ?_
  have hv3999 : V3992 x 10 = .int 0 := Eq.trans (uq_ne hV3993 (Or.inl (K_ne hp0 hp12 (by decide)))) hv3991
  refine th_get C hS.1 hp0 fl_RX12_375 hv3999 dX12_place_57 ?_
  refine lv_aload_n hx hb dX12_place_60 rfl (lv_at hl 0 rfl) ?_
  have hv4000 : V3970 x 2 = .int 0 := Eq.trans (uq_ne hV3971 (Or.inl (K_ne hp0 hp4 (by decide)))) hp2
  have hv4001 : V3974 x 2 = .int 0 := Eq.trans (uq_ne hV3975 (Or.inl (K_ne hp0 hp6 (by decide)))) hv4000
  have hv4002 : V3979 x 2 = .int 0 := Eq.trans (uq_ne hV3980 (Or.inl (K_ne hp0 hp8 (by decide)))) hv4001
  have hv4003 : V3985 x 2 = .int 0 := Eq.trans (uq_ne hV3986 (Or.inl (K_ne hp0 hp10 (by decide)))) hv4002
  have hv4004 : V3992 x 2 = .int 0 := Eq.trans (uq_ne hV3993 (Or.inl (K_ne hp0 hp12 (by decide)))) hv4003
  refine th_get C hS.1 hp0 fl_RX12_396 hv4004 dX12_place_61 ?_
  refine th_iast C hS hp14 (by rw [li_0]; omega) (by rw [li_0]; omega) dX12_place_64 (fun V4005 H locs1 hV4006 hS => ?_)
  refine lv_aload_n hx hb dX12_place_65 rfl (lv_at hl 0 rfl) ?_
  refine lv_aload_n hx hb dX12_place_66 rfl (lv_at hl 0 rfl) ?_
  have hv4007 : V4005 x 10 = .int 0 := Eq.trans (uq_ne hV4006 (Or.inl (K_ne hp0 hp14 (by decide)))) hv3999
  refine th_get C hS.1 hp0 fl_RX12_375 hv4007 dX12_place_67 ?_
  refine lv_iconst (v := 1) hx hb dX12_place_70 (by decide) ?_
  refine lv_iadd hx hb dX12_place_71 ?_
  refine th_is (w := .int 1) (by decide) ?_
  refine th_put C hS hp0 fp_RX12_375 rfl rfl dX12_place_72 (fun V4008 H locs1 hV4009 hS => ?_)
  refine lv_aload_n hx hb dX12_place_75 rfl (lv_at hl 0 rfl) ?_
  refine th_get C hS.1 hp0 fl_RX12_375 (uq_same hV4009) dX12_place_76 ?_
  refine lv_iconst (v := 1) hx hb dX12_place_79 (by decide) ?_
  refine lv_isub hx hb dX12_place_80 ?_
  refine th_is (w := .int 0) (by decide) ?_
  exact th_retiH (post := fun r K1 V1 => ((r.toInt = 0))) (cells := 0) (slots := 0) (mc := 0) (ms := 0) C hS (by have hfin := li_0; omega) (Nat.le_of_ble_eq_true rfl) (Nat.le_of_ble_eq_true rfl) dX12_place_81
