set_option maxHeartbeats 400000 in
set_option maxRecDepth 100000 in
theorem t_X11_dark {l : Launch} {D : va_G} {dA : Nat → ClassId} {K : Kmap} {V : Vmap} {sz : Nat} {x : Nat} {a b : Int32} {a_i b_i : Int} (iz_a : a.toInt = a_i) (iz_b : b.toInt = b_i) (F : FX K V x) : Met l yX11_dark (wsOf yX11_dark cX11_dark 3 (some .boolean)) { frames := 1, cells := 0, slots := 0, locals := 21 } (PC D dA K V sz [.ref x, .int a, .int b]) (HQi D dA K (fun r K1 V1 => (∀ b, K b = some (0, 11) → V1 b = V b) ∧ (((0 ≤ a_i ∧ a_i ≤ b_i ∧ b_i < 360) ∧ r.toInt = 1) ∨ ((0 > a_i ∨ a_i > b_i ∨ b_i ≥ 360) ∧ r.toInt = 0)))) 0 0 (AK K sz) := by
  refine th_body (by decide +kernel) (Nat.le_of_ble_eq_true rfl) (fun pZ eZ sZ mZ belowZ methZ cZ C hR hsz hnm ls hl => ?_)
  have C : CX pZ sZ mZ [.ref x, .int a, .int b].toArray methZ cZ cX11_dark 3 (some .boolean) RX11 D dA := C
  have hx := C.1; have hb := C.2.1
  have hl : lv_has ls 3 [(0, .ref x), (1, .int a), (2, .int b)] := hl
  subst hsz
  have hS : ST D dA K sZ.heap K V sZ.heap [] := ST.rf hR
  have r_a := th_rng a; rw [iz_a] at r_a
  have r_b := th_rng b; rw [iz_b] at r_b
  have F0 := F
  obtain ⟨la, he, gr, wa, fd, co, sd, lw, rd, se, st, pa, pl, t1, t2, t3, t4, t5, t6, c6, t7, c7, sp, su, hp0, hp1, hp2, hp3, hp4, hp5, hp6, hp7, hp8, hp9, hp10, hp11, hp12, hp13, hp14, hp15, hp16, hp17, hp18, hp19, hp20, hp21, hp22, hp23, hp24, hp25, hp26, hp27, hp28, hp29, hp30, hp31, hp32, hp33, hp34, hp35, hp36, hp37, hp38, hp39, hp40, hp41, hp42, hp43, hp44, hp45, hp46, hp47, hp48, hp49, hp50, hp51, hp52, hp53, hp54, hp55, hp56, hp57, hp58, hp59, hp60, hp61, hp62, hp63, hp64, hp65, hp66, hp67, hp68, hp69, hp70⟩ := F
  refine lv_iload_n hx hb dX11_dark_0 rfl (lv_at hl 1 rfl) ?_
  refine lv_iload_n hx hb dX11_dark_1 rfl (lv_at hl 2 rfl) ?_
  refine th_goi (th_runS (As := [.int a, .int b]) (rest := []) C hS.1 gS_RX11_135 (t_X11_areYearDays iz_a iz_b) hl rfl rfl rfl rfl ⟨Nat.le_of_ble_eq_true rfl, Nat.le_of_ble_eq_true rfl⟩ (Nat.le_of_ble_eq_true rfl) ⟨Nat.le_of_ble_eq_true rfl, Nat.le_of_ble_eq_true rfl⟩ dX11_dark_2) (fun r3412 hq3413 => ?_)
  refine th_if_ne (X := r3412.toInt) (tgt := 10) hx hb dX11_dark_5 (by decide) rfl (fun c3414 => ?_) (fun c3414 => ?_)
  · replace hq3413 := Or.resolve_right hq3413 (fun h => absurd h.2 (by omega))
    refine lv_aload_n hx hb dX11_dark_10 rfl (lv_at hl 0 rfl) ?_
    refine th_get C hS.1 hp0 fl_RX11_12 hp1 dX11_dark_11 ?_
    refine lv_iload_n hx hb dX11_dark_14 rfl (lv_at hl 1 rfl) ?_
    refine th_put C hS hp2 fp_RX11_139 rfl rfl dX11_dark_15 (fun V3415 H locs1 hV3416 hS => ?_)
    refine lv_aload_n hx hb dX11_dark_18 rfl (lv_at hl 0 rfl) ?_
    have hv3417 : V3415 x 0 = .ref la := Eq.trans (uq_ne hV3416 (Or.inl (K_ne hp0 hp2 (by decide)))) hp1
    refine th_get C hS.1 hp0 fl_RX11_12 hv3417 dX11_dark_19 ?_
    refine lv_iload_n hx hb dX11_dark_22 rfl (lv_at hl 2 rfl) ?_
    refine th_put C hS hp2 fp_RX11_142 rfl rfl dX11_dark_23 (fun V3418 H locs1 hV3419 hS => ?_)
    refine lv_iconst (v := 1) hx hb dX11_dark_26 (by decide) ?_
    exact th_retzH (post := fun r K1 V1 => (∀ b, K b = some (0, 11) → V1 b = V b) ∧ (((0 ≤ a_i ∧ a_i ≤ b_i ∧ b_i < 360) ∧ r.toInt = 1) ∨ ((0 > a_i ∨ a_i > b_i ∨ b_i ≥ 360) ∧ r.toInt = 0))) (cells := 0) (slots := 0) (mc := 0) (ms := 0) C hS (by have hfin := li_1; omega) ⟨(fun b hb  => Eq.trans (uq_other hV3419 (K_ne hb hp2 (by decide))) ((uq_other hV3416 (K_ne hb hp2 (by decide))))), (Or.inl ⟨by omega, li_1⟩)⟩ (Nat.le_of_ble_eq_true rfl) (Nat.le_of_ble_eq_true rfl) dX11_dark_27
  · replace hq3413 := Or.resolve_left hq3413 (fun h => absurd h.2 (by omega))
    refine lv_iconst (v := 0) hx hb dX11_dark_8 (by decide) ?_
    exact th_retzH (post := fun r K1 V1 => (∀ b, K b = some (0, 11) → V1 b = V b) ∧ (((0 ≤ a_i ∧ a_i ≤ b_i ∧ b_i < 360) ∧ r.toInt = 1) ∨ ((0 > a_i ∨ a_i > b_i ∨ b_i ≥ 360) ∧ r.toInt = 0))) (cells := 0) (slots := 0) (mc := 0) (ms := 0) C hS (by have hfin := li_0; omega) ⟨(fun b hb => rfl), (Or.inr (⟨by omega, li_0⟩))⟩ (Nat.le_of_ble_eq_true rfl) (Nat.le_of_ble_eq_true rfl) dX11_dark_9
