set_option maxHeartbeats 400000 in
set_option maxRecDepth 100000 in
theorem t_X11_about {l : Launch} {D : va_G} {dA : Nat → ClassId} {K : Kmap} {V : Vmap} {sz : Nat} {x : Nat} {w wh : Int32} {w_i wh_i : Int} (iz_w : w.toInt = w_i) (iz_wh : wh.toInt = wh_i) (F : FX K V x) : Met l yX11_about (wsOf yX11_about cX11_about 4 (some .int)) { frames := 1, cells := 0, slots := 0, locals := 21 } (PC D dA K V sz [.ref x, .int w, .int wh]) (PQi (fun r => (r.toInt = (-1)))) 0 0 noFree := by
  refine th_body (by decide +kernel) (Nat.le_of_ble_eq_true rfl) (fun pZ eZ sZ mZ belowZ methZ cZ C hR hsz hnm ls hl => ?_)
  have C : CX pZ sZ mZ [.ref x, .int w, .int wh].toArray methZ cZ cX11_about 4 (some .int) RX11 D dA := C
  have hx := C.1; have hb := C.2.1
  have hl : lv_has ls 4 [(0, .ref x), (1, .int w), (2, .int wh)] := hl
  subst hsz
  have hS : ST D dA K sZ.heap K V sZ.heap [] := ST.rf hR
  have r_w := th_rng w; rw [iz_w] at r_w
  have r_wh := th_rng wh; rw [iz_wh] at r_wh
  have F0 := F
  obtain ⟨la, he, gr, wa, fd, co, sd, lw, rd, se, st, pa, pl, t1, t2, t3, t4, t5, t6, c6, t7, c7, sp, su, hp0, hp1, hp2, hp3, hp4, hp5, hp6, hp7, hp8, hp9, hp10, hp11, hp12, hp13, hp14, hp15, hp16, hp17, hp18, hp19, hp20, hp21, hp22, hp23, hp24, hp25, hp26, hp27, hp28, hp29, hp30, hp31, hp32, hp33, hp34, hp35, hp36, hp37, hp38, hp39, hp40, hp41, hp42, hp43, hp44, hp45, hp46, hp47, hp48, hp49, hp50, hp51, hp52, hp53, hp54, hp55, hp56, hp57, hp58, hp59, hp60, hp61, hp62, hp63, hp64, hp65, hp66, hp67, hp68, hp69, hp70⟩ := F
  refine lv_aload_n hx hb dX11_about_0 rfl (lv_at hl 0 rfl) ?_
  refine lv_iload_n hx hb dX11_about_1 rfl (lv_at hl 1 rfl) ?_
  refine th_gor (th_runV (As := [.int w]) (rest := []) C hS.1 (RX11, TX11, 20) rfl gV_RX11_309 hp0 (t_X11_workOf iz_w hp0 hp35) hl rfl rfl rfl rfl ⟨Nat.le_of_ble_eq_true rfl, Nat.le_of_ble_eq_true rfl⟩ (Nat.le_of_ble_eq_true rfl) ⟨Nat.le_of_ble_eq_true rfl, Nat.le_of_ble_eq_true rfl⟩ dX11_about_2) ?_
  refine lv_astore_nN (lv' := [(3, .null), (0, .ref x), (1, .int w), (2, .int wh)]) hx hb dX11_about_5 rfl hl (by decide) rfl (fun ls hl => ?_)
  refine lv_aload_nN hx hb dX11_about_6 rfl (lv_at hl 0 rfl) ?_
  refine lv_ifnonnullN hx hb dX11_about_7 ?_
  refine lv_iconst (v := (-1)) hx hb dX11_about_10 (by decide) ?_
  exact th_reti C (by have hfin := li_n1; omega) dX11_about_11

set_option maxHeartbeats 400000 in
set_option maxRecDepth 100000 in
theorem t_X11_sum {l : Launch} {D : va_G} {dA : Nat → ClassId} {K : Kmap} {V : Vmap} {sz : Nat} {x : Nat} {wh : Int32} {wh_i : Int} (iz_wh : wh.toInt = wh_i) (F : FX K V x) : Met l yX11_sum (wsOf yX11_sum cX11_sum 3 (some .long)) { frames := 1, cells := 0, slots := 0, locals := 22 } (PC D dA K V sz [.ref x, .int wh]) (HQl D dA K (fun r K1 V1 => (∀ b, K b = some (0, 11) → V1 b = V b) ∧ (((0 ≤ wh_i ∧ wh_i ≤ 7) ∧ r = 0) ∨ ((0 > wh_i ∨ wh_i > 7) ∧ r = (-1))))) 0 0 (AK K sz) := by
  refine th_body (by decide +kernel) (Nat.le_of_ble_eq_true rfl) (fun pZ eZ sZ mZ belowZ methZ cZ C hR hsz hnm ls hl => ?_)
  have C : CX pZ sZ mZ [.ref x, .int wh].toArray methZ cZ cX11_sum 3 (some .long) RX11 D dA := C
  have hx := C.1; have hb := C.2.1
  have hl : lv_has ls 3 [(0, .ref x), (1, .int wh)] := hl
  subst hsz
  have hS : ST D dA K sZ.heap K V sZ.heap [] := ST.rf hR
  have r_wh := th_rng wh; rw [iz_wh] at r_wh
  have F0 := F
  obtain ⟨la, he, gr, wa, fd, co, sd, lw, rd, se, st, pa, pl, t1, t2, t3, t4, t5, t6, c6, t7, c7, sp, su, hp0, hp1, hp2, hp3, hp4, hp5, hp6, hp7, hp8, hp9, hp10, hp11, hp12, hp13, hp14, hp15, hp16, hp17, hp18, hp19, hp20, hp21, hp22, hp23, hp24, hp25, hp26, hp27, hp28, hp29, hp30, hp31, hp32, hp33, hp34, hp35, hp36, hp37, hp38, hp39, hp40, hp41, hp42, hp43, hp44, hp45, hp46, hp47, hp48, hp49, hp50, hp51, hp52, hp53, hp54, hp55, hp56, hp57, hp58, hp59, hp60, hp61, hp62, hp63, hp64, hp65, hp66, hp67, hp68, hp69, hp70⟩ := F
  refine lv_iload_n hx hb dX11_sum_0 rfl (lv_at hl 1 rfl) ?_
  refine th_if_lt (X := wh_i) (tgt := 20) hx hb dX11_sum_1 (by decide) iz_wh (fun c3847 => ?_) (fun c3847 => ?_)
  · refine lv_iload_n hx hb dX11_sum_20 rfl (lv_at hl 1 rfl) ?_
    refine lv_bipush (v := 10) hx hb dX11_sum_21 (by decide) ?_
    refine lv_bipush (v := 18) hx hb dX11_sum_23 (by decide) ?_
    refine th_goi (th_runS (As := [.int wh, .int 10, .int 18]) (rest := []) C hS.1 gS_RX11_112 (t_X11_between iz_wh li_10 li_18) hl rfl rfl rfl rfl ⟨Nat.le_of_ble_eq_true rfl, Nat.le_of_ble_eq_true rfl⟩ (Nat.le_of_ble_eq_true rfl) ⟨Nat.le_of_ble_eq_true rfl, Nat.le_of_ble_eq_true rfl⟩ dX11_sum_25) (fun r3848 hq3849 => ?_)
    refine th_if_eq (X := r3848.toInt) (tgt := 56) hx hb dX11_sum_28 (by decide) rfl (fun c3850 => ?_) (fun c3850 => absurd c3850 (by omega))
    refine lv_iload_n hx hb dX11_sum_56 rfl (lv_at hl 1 rfl) ?_
    refine lv_bipush (v := 20) hx hb dX11_sum_57 (by decide) ?_
    refine th_icmp_lt (X := wh_i) (Y := 20) (tgt := 92) hx hb dX11_sum_59 (by decide) iz_wh li_20 (fun c3851 => ?_) (fun c3851 => absurd c3851 (by omega))
    refine lv_ldc2 (v := (-1)) hx hb C.2.2.2.2.2.1 (C.2.2.2.2.2.2.1 _ gw_1459) dX11_sum_92 ?_
    exact th_retlH (post := fun r K1 V1 => (∀ b, K b = some (0, 11) → V1 b = V b) ∧ (((0 ≤ wh_i ∧ wh_i ≤ 7) ∧ r = 0) ∨ ((0 > wh_i ∨ wh_i > 7) ∧ r = (-1)))) (cells := 0) (slots := 0) (mc := 0) (ms := 0) C hS ⟨(fun b hb => rfl), (by first | exact Or.inr (⟨by omega, rfl⟩))⟩ (Nat.le_of_ble_eq_true rfl) (Nat.le_of_ble_eq_true rfl) dX11_sum_95
  · refine lv_iload_n hx hb dX11_sum_4 rfl (lv_at hl 1 rfl) ?_
    refine lv_aload_n hx hb dX11_sum_5 rfl (lv_at hl 0 rfl) ?_
    refine th_get C hS.1 hp0 fl_RX11_98 hp68 dX11_sum_6 ?_
    refine th_alen C hS.1 (t := 1) (by decide) hp69 dX11_sum_9 ?_
    refine th_is (w := .int 8) (by decide) ?_
    refine th_icmp_ge (X := wh_i) (Y := 8) (tgt := 20) hx hb dX11_sum_10 (by decide) iz_wh li_8 (fun c3852 => ?_) (fun c3852 => ?_)
    · refine lv_iload_n hx hb dX11_sum_20 rfl (lv_at hl 1 rfl) ?_
      refine lv_bipush (v := 10) hx hb dX11_sum_21 (by decide) ?_
      refine lv_bipush (v := 18) hx hb dX11_sum_23 (by decide) ?_
      refine th_goi (th_runS (As := [.int wh, .int 10, .int 18]) (rest := []) C hS.1 gS_RX11_112 (t_X11_between iz_wh li_10 li_18) hl rfl rfl rfl rfl ⟨Nat.le_of_ble_eq_true rfl, Nat.le_of_ble_eq_true rfl⟩ (Nat.le_of_ble_eq_true rfl) ⟨Nat.le_of_ble_eq_true rfl, Nat.le_of_ble_eq_true rfl⟩ dX11_sum_25) (fun r3853 hq3854 => ?_)
      refine th_if_eq (X := r3853.toInt) (tgt := 56) hx hb dX11_sum_28 (by decide) rfl (fun c3855 => ?_) (fun c3855 => ?_)
      · replace hq3854 := Or.resolve_left hq3854 (fun h => absurd h.2 (by omega))
        refine lv_iload_n hx hb dX11_sum_56 rfl (lv_at hl 1 rfl) ?_
        refine lv_bipush (v := 20) hx hb dX11_sum_57 (by decide) ?_
        refine th_icmp_lt (X := wh_i) (Y := 20) (tgt := 92) hx hb dX11_sum_59 (by decide) iz_wh li_20 (fun c3856 => ?_) (fun c3856 => ?_)
        · refine lv_ldc2 (v := (-1)) hx hb C.2.2.2.2.2.1 (C.2.2.2.2.2.2.1 _ gw_1459) dX11_sum_92 ?_
          exact th_retlH (post := fun r K1 V1 => (∀ b, K b = some (0, 11) → V1 b = V b) ∧ (((0 ≤ wh_i ∧ wh_i ≤ 7) ∧ r = 0) ∨ ((0 > wh_i ∨ wh_i > 7) ∧ r = (-1)))) (cells := 0) (slots := 0) (mc := 0) (ms := 0) C hS ⟨(fun b hb => rfl), (by first | exact Or.inr (⟨by omega, rfl⟩))⟩ (Nat.le_of_ble_eq_true rfl) (Nat.le_of_ble_eq_true rfl) dX11_sum_95
        · refine lv_aload_n hx hb dX11_sum_62 rfl (lv_at hl 0 rfl) ?_
          refine th_get C hS.1 hp0 fl_RX11_79 hp43 dX11_sum_63 ?_
          refine lv_iload_n hx hb dX11_sum_66 rfl (lv_at hl 1 rfl) ?_
          refine lv_bipush (v := 20) hx hb dX11_sum_67 (by decide) ?_
          refine lv_isub hx hb dX11_sum_69 ?_
          refine th_top (X := (wh_i - 20)) (th_sub iz_wh li_20 (by omega) (by omega)) (fun z3857 hz3857 => ?_)
          refine th_goi (th_runV (As := [.int z3857]) (rest := []) C hS.1 (RX8, TX8, 4) rfl gV_RX11_431 hp44 (t_X8_has hz3857 hp44 hp45) hl rfl rfl rfl rfl ⟨Nat.le_of_ble_eq_true rfl, Nat.le_of_ble_eq_true rfl⟩ (Nat.le_of_ble_eq_true rfl) ⟨Nat.le_of_ble_eq_true rfl, Nat.le_of_ble_eq_true rfl⟩ dX11_sum_70) (fun r3858 hq3859 => ?_)
          refine th_if_eq (X := r3858.toInt) (tgt := 92) hx hb dX11_sum_73 (by decide) rfl (fun c3860 => ?_) (fun c3860 => absurd c3860 (by omega))
          refine lv_ldc2 (v := (-1)) hx hb C.2.2.2.2.2.1 (C.2.2.2.2.2.2.1 _ gw_1459) dX11_sum_92 ?_
          exact th_retlH (post := fun r K1 V1 => (∀ b, K b = some (0, 11) → V1 b = V b) ∧ (((0 ≤ wh_i ∧ wh_i ≤ 7) ∧ r = 0) ∨ ((0 > wh_i ∨ wh_i > 7) ∧ r = (-1)))) (cells := 0) (slots := 0) (mc := 0) (ms := 0) C hS ⟨(fun b hb => rfl), (by first | exact Or.inr (⟨by omega, rfl⟩))⟩ (Nat.le_of_ble_eq_true rfl) (Nat.le_of_ble_eq_true rfl) dX11_sum_95
      · replace hq3854 := Or.resolve_right hq3854 (fun h => absurd h.2 (by omega))
        refine lv_aload_n hx hb dX11_sum_31 rfl (lv_at hl 0 rfl) ?_
        refine lv_iload_n hx hb dX11_sum_32 rfl (lv_at hl 1 rfl) ?_
        refine lv_bipush (v := 10) hx hb dX11_sum_33 (by decide) ?_
        refine lv_isub hx hb dX11_sum_35 ?_
        refine th_top (X := (wh_i - 10)) (th_sub iz_wh li_10 (by omega) (by omega)) (fun z3861 hz3861 => ?_)
        refine th_gor (th_runV (As := [.int z3861]) (rest := []) C hS.1 (RX11, TX11, 20) rfl gV_RX11_151 hp0 (t_X11_partyOf hz3861 hp0 hp31) hl rfl rfl rfl rfl ⟨Nat.le_of_ble_eq_true rfl, Nat.le_of_ble_eq_true rfl⟩ (Nat.le_of_ble_eq_true rfl) ⟨Nat.le_of_ble_eq_true rfl, Nat.le_of_ble_eq_true rfl⟩ dX11_sum_36) ?_
        refine lv_astore_nN (lv' := [(2, .null), (0, .ref x), (1, .int wh)]) hx hb dX11_sum_39 rfl hl (by decide) rfl (fun ls hl => ?_)
        refine lv_aload_nN hx hb dX11_sum_40 rfl (lv_at hl 0 rfl) ?_
        refine lv_ifnonnullN hx hb dX11_sum_41 ?_
        refine lv_ldc2 (v := (-1)) hx hb C.2.2.2.2.2.1 (C.2.2.2.2.2.2.1 _ gw_1459) dX11_sum_44 ?_
        refine lv_goto (tgt := 55) hx hb dX11_sum_47 (by decide) ?_
        exact th_retlH (post := fun r K1 V1 => (∀ b, K b = some (0, 11) → V1 b = V b) ∧ (((0 ≤ wh_i ∧ wh_i ≤ 7) ∧ r = 0) ∨ ((0 > wh_i ∨ wh_i > 7) ∧ r = (-1)))) (cells := 0) (slots := 0) (mc := 0) (ms := 0) C hS ⟨(fun b hb => rfl), (by first | exact Or.inr (⟨by omega, rfl⟩))⟩ (Nat.le_of_ble_eq_true rfl) (Nat.le_of_ble_eq_true rfl) dX11_sum_55
    · refine lv_aload_n hx hb dX11_sum_13 rfl (lv_at hl 0 rfl) ?_
      refine th_get C hS.1 hp0 fl_RX11_98 hp68 dX11_sum_14 ?_
      refine lv_iload_n hx hb dX11_sum_17 rfl (lv_at hl 1 rfl) ?_
      refine th_lald C hS.1 hp69 (by rw [iz_wh]; omega) (by rw [iz_wh]; omega) (hp70 _) dX11_sum_18 ?_
      exact th_retlH (post := fun r K1 V1 => (∀ b, K b = some (0, 11) → V1 b = V b) ∧ (((0 ≤ wh_i ∧ wh_i ≤ 7) ∧ r = 0) ∨ ((0 > wh_i ∨ wh_i > 7) ∧ r = (-1)))) (cells := 0) (slots := 0) (mc := 0) (ms := 0) C hS ⟨(fun b hb => rfl), (by first | exact Or.inl ⟨by omega, rfl⟩)⟩ (Nat.le_of_ble_eq_true rfl) (Nat.le_of_ble_eq_true rfl) dX11_sum_19

set_option maxHeartbeats 400000 in
set_option maxRecDepth 100000 in
theorem t_X11_count {l : Launch} {D : va_G} {dA : Nat → ClassId} {K : Kmap} {V : Vmap} {sz : Nat} {x : Nat} {wh : Int32} {wh_i : Int} (iz_wh : wh.toInt = wh_i) (F : FX K V x) : Met l yX11_count (wsOf yX11_count cX11_count 2 (some .int)) { frames := 2, cells := 0, slots := 0, locals := 44 } (PC D dA K V sz [.ref x, .int wh]) (PQi (fun r => ((1 ≤ wh_i ∧ wh_i ≤ 2) ∧ r.toInt = 8) ∨ ((wh_i = 0 ∨ (3 ≤ wh_i ∧ wh_i ≤ 16)) ∧ r.toInt = 0) ∨ ((wh_i ≠ 0 ∧ (wh_i < 1 ∨ wh_i > 16)) ∧ r.toInt = (-1)))) 0 0 noFree := by
  refine th_body (by decide +kernel) (Nat.le_of_ble_eq_true rfl) (fun pZ eZ sZ mZ belowZ methZ cZ C hR hsz hnm ls hl => ?_)
  have C : CX pZ sZ mZ [.ref x, .int wh].toArray methZ cZ cX11_count 2 (some .int) RX11 D dA := C
  have hx := C.1; have hb := C.2.1
  have hl : lv_has ls 2 [(0, .ref x), (1, .int wh)] := hl
  subst hsz
  have hS : ST D dA K sZ.heap K V sZ.heap [] := ST.rf hR
  have r_wh := th_rng wh; rw [iz_wh] at r_wh
  have F0 := F
  obtain ⟨la, he, gr, wa, fd, co, sd, lw, rd, se, st, pa, pl, t1, t2, t3, t4, t5, t6, c6, t7, c7, sp, su, hp0, hp1, hp2, hp3, hp4, hp5, hp6, hp7, hp8, hp9, hp10, hp11, hp12, hp13, hp14, hp15, hp16, hp17, hp18, hp19, hp20, hp21, hp22, hp23, hp24, hp25, hp26, hp27, hp28, hp29, hp30, hp31, hp32, hp33, hp34, hp35, hp36, hp37, hp38, hp39, hp40, hp41, hp42, hp43, hp44, hp45, hp46, hp47, hp48, hp49, hp50, hp51, hp52, hp53, hp54, hp55, hp56, hp57, hp58, hp59, hp60, hp61, hp62, hp63, hp64, hp65, hp66, hp67, hp68, hp69, hp70⟩ := F
  refine lv_iload_n hx hb dX11_count_0 rfl (lv_at hl 1 rfl) ?_
  by_cases c3864 : wh_i = 0
  · have hc3864 : wh.toInt = 0 := by rw [iz_wh]; exact c3864
    refine lv_tableIn (off := 83) (tgt := 84) hx hb dX11_count_1 (by rw [hc3864]; decide) (by rw [hc3864]; decide) (by rw [hc3864]; rfl) (by decide) ?_
    refine lv_aload_n hx hb dX11_count_84 rfl (lv_at hl 0 rfl) ?_
    refine th_get C hS.1 hp0 fl_RX11_12 hp1 dX11_count_85 ?_
    refine th_get C hS.1 hp2 fl_RX11_145 hp3 dX11_count_88 ?_
    exact th_reti C (Or.inr (Or.inl ⟨by omega, li_0⟩)) dX11_count_91
  by_cases c3865 : wh_i = 1
  · have hc3865 : wh.toInt = 1 := by rw [iz_wh]; exact c3865
    refine lv_tableIn (off := 91) (tgt := 92) hx hb dX11_count_1 (by rw [hc3865]; decide) (by rw [hc3865]; decide) (by rw [hc3865]; rfl) (by decide) ?_
    refine lv_aload_n hx hb dX11_count_92 rfl (lv_at hl 0 rfl) ?_
    refine th_get C hS.1 hp0 fl_RX11_12 hp1 dX11_count_93 ?_
    refine th_get C hS.1 hp2 fl_RX11_639 hp4 dX11_count_96 ?_
    exact th_reti C (Or.inl ⟨by omega, li_8⟩) dX11_count_99
  by_cases c3866 : wh_i = 2
  · have hc3866 : wh.toInt = 2 := by rw [iz_wh]; exact c3866
    refine lv_tableIn (off := 99) (tgt := 100) hx hb dX11_count_1 (by rw [hc3866]; decide) (by rw [hc3866]; decide) (by rw [hc3866]; rfl) (by decide) ?_
    refine lv_aload_n hx hb dX11_count_100 rfl (lv_at hl 0 rfl) ?_
    refine th_get C hS.1 hp0 fl_RX11_12 hp1 dX11_count_101 ?_
    refine th_get C hS.1 hp2 fl_RX11_642 hp5 dX11_count_104 ?_
    exact th_reti C (Or.inl ⟨by omega, li_8⟩) dX11_count_107
  by_cases c3867 : wh_i = 3
  · have hc3867 : wh.toInt = 3 := by rw [iz_wh]; exact c3867
    refine lv_tableIn (off := 107) (tgt := 108) hx hb dX11_count_1 (by rw [hc3867]; decide) (by rw [hc3867]; decide) (by rw [hc3867]; rfl) (by decide) ?_
    refine lv_aload_n hx hb dX11_count_108 rfl (lv_at hl 0 rfl) ?_
    refine th_get C hS.1 hp0 fl_RX11_36 hp31 dX11_count_109 ?_
    exact th_reti C (Or.inr (Or.inl ⟨by omega, li_0⟩)) dX11_count_112
  by_cases c3868 : wh_i = 4
  · have hc3868 : wh.toInt = 4 := by rw [iz_wh]; exact c3868
    refine lv_tableIn (off := 112) (tgt := 113) hx hb dX11_count_1 (by rw [hc3868]; decide) (by rw [hc3868]; decide) (by rw [hc3868]; rfl) (by decide) ?_
    refine lv_aload_n hx hb dX11_count_113 rfl (lv_at hl 0 rfl) ?_
    refine th_get C hS.1 hp0 fl_RX11_46 hp34 dX11_count_114 ?_
    exact th_reti C (Or.inr (Or.inl ⟨by omega, li_0⟩)) dX11_count_117
  by_cases c3869 : wh_i = 5
  · have hc3869 : wh.toInt = 5 := by rw [iz_wh]; exact c3869
    refine lv_tableIn (off := 117) (tgt := 118) hx hb dX11_count_1 (by rw [hc3869]; decide) (by rw [hc3869]; decide) (by rw [hc3869]; rfl) (by decide) ?_
    refine lv_aload_n hx hb dX11_count_118 rfl (lv_at hl 0 rfl) ?_
    refine th_get C hS.1 hp0 fl_RX11_19 hp18 dX11_count_119 ?_
    refine th_get C hS.1 hp19 fl_RX11_216 hp20 dX11_count_122 ?_
    exact th_reti C (Or.inr (Or.inl ⟨by omega, li_0⟩)) dX11_count_125
  by_cases c3870 : wh_i = 6
  · have hc3870 : wh.toInt = 6 := by rw [iz_wh]; exact c3870
    refine lv_tableIn (off := 125) (tgt := 126) hx hb dX11_count_1 (by rw [hc3870]; decide) (by rw [hc3870]; decide) (by rw [hc3870]; rfl) (by decide) ?_
    refine lv_aload_n hx hb dX11_count_126 rfl (lv_at hl 0 rfl) ?_
    refine th_get C hS.1 hp0 fl_RX11_19 hp18 dX11_count_127 ?_
    refine th_get C hS.1 hp19 fl_RX11_262 hp21 dX11_count_130 ?_
    refine th_get C hS.1 hp22 fl_RX11_199 hp23 dX11_count_133 ?_
    exact th_reti C (Or.inr (Or.inl ⟨by omega, li_0⟩)) dX11_count_136
  by_cases c3871 : wh_i = 7
  · have hc3871 : wh.toInt = 7 := by rw [iz_wh]; exact c3871
    refine lv_tableIn (off := 136) (tgt := 137) hx hb dX11_count_1 (by rw [hc3871]; decide) (by rw [hc3871]; decide) (by rw [hc3871]; rfl) (by decide) ?_
    refine lv_aload_n hx hb dX11_count_137 rfl (lv_at hl 0 rfl) ?_
    refine th_get C hS.1 hp0 fl_RX11_55 hp35 dX11_count_138 ?_
    exact th_reti C (Or.inr (Or.inl ⟨by omega, li_0⟩)) dX11_count_141
  by_cases c3872 : wh_i = 8
  · have hc3872 : wh.toInt = 8 := by rw [iz_wh]; exact c3872
    refine lv_tableIn (off := 141) (tgt := 142) hx hb dX11_count_1 (by rw [hc3872]; decide) (by rw [hc3872]; decide) (by rw [hc3872]; rfl) (by decide) ?_
    refine lv_aload_n hx hb dX11_count_142 rfl (lv_at hl 0 rfl) ?_
    refine th_get C hS.1 hp0 fl_RX11_64 hp36 dX11_count_143 ?_
    exact th_reti C (Or.inr (Or.inl ⟨by omega, li_0⟩)) dX11_count_146
  by_cases c3873 : wh_i = 9
  · have hc3873 : wh.toInt = 9 := by rw [iz_wh]; exact c3873
    refine lv_tableIn (off := 146) (tgt := 147) hx hb dX11_count_1 (by rw [hc3873]; decide) (by rw [hc3873]; decide) (by rw [hc3873]; rfl) (by decide) ?_
    refine lv_aload_n hx hb dX11_count_147 rfl (lv_at hl 0 rfl) ?_
    refine th_goi (th_runV (As := []) (rest := []) C hS.1 (RX11, TX11, 20) rfl gV_RX11_644 hp0 (t_X11_sledgesOnWay hp0 hp37 hp38 hp39) hl rfl rfl rfl rfl ⟨Nat.le_of_ble_eq_true rfl, Nat.le_of_ble_eq_true rfl⟩ (Nat.le_of_ble_eq_true rfl) ⟨Nat.le_of_ble_eq_true rfl, Nat.le_of_ble_eq_true rfl⟩ dX11_count_148) (fun r3874 hq3875 => ?_)
    exact th_reti C (Or.inr (Or.inl ⟨by omega, by omega⟩)) dX11_count_151
  by_cases c3876 : wh_i = 10
  · have hc3876 : wh.toInt = 10 := by rw [iz_wh]; exact c3876
    refine lv_tableIn (off := 151) (tgt := 152) hx hb dX11_count_1 (by rw [hc3876]; decide) (by rw [hc3876]; decide) (by rw [hc3876]; rfl) (by decide) ?_
    refine lv_aload_n hx hb dX11_count_152 rfl (lv_at hl 0 rfl) ?_
    refine th_get C hS.1 hp0 fl_RX11_76 hp40 dX11_count_153 ?_
    refine th_get C hS.1 hp41 fl_RX11_199 hp42 dX11_count_156 ?_
    exact th_reti C (Or.inr (Or.inl ⟨by omega, li_0⟩)) dX11_count_159
  by_cases c3877 : wh_i = 11
  · have hc3877 : wh.toInt = 11 := by rw [iz_wh]; exact c3877
    refine lv_tableIn (off := 159) (tgt := 160) hx hb dX11_count_1 (by rw [hc3877]; decide) (by rw [hc3877]; decide) (by rw [hc3877]; rfl) (by decide) ?_
    refine lv_aload_n hx hb dX11_count_160 rfl (lv_at hl 0 rfl) ?_
    refine th_get C hS.1 hp0 fl_RX11_79 hp43 dX11_count_161 ?_
    refine th_get C hS.1 hp44 fl_RX11_199 hp45 dX11_count_164 ?_
    exact th_reti C (Or.inr (Or.inl ⟨by omega, li_0⟩)) dX11_count_167
  by_cases c3878 : wh_i = 12
  · have hc3878 : wh.toInt = 12 := by rw [iz_wh]; exact c3878
    refine lv_tableIn (off := 167) (tgt := 168) hx hb dX11_count_1 (by rw [hc3878]; decide) (by rw [hc3878]; decide) (by rw [hc3878]; rfl) (by decide) ?_
    refine lv_aload_n hx hb dX11_count_168 rfl (lv_at hl 0 rfl) ?_
    refine th_get C hS.1 hp0 fl_RX11_82 hp46 dX11_count_169 ?_
    refine th_get C hS.1 hp47 fl_RX11_199 hp48 dX11_count_172 ?_
    exact th_reti C (Or.inr (Or.inl ⟨by omega, li_0⟩)) dX11_count_175
  by_cases c3879 : wh_i = 13
  · have hc3879 : wh.toInt = 13 := by rw [iz_wh]; exact c3879
    refine lv_tableIn (off := 175) (tgt := 176) hx hb dX11_count_1 (by rw [hc3879]; decide) (by rw [hc3879]; decide) (by rw [hc3879]; rfl) (by decide) ?_
    refine lv_aload_n hx hb dX11_count_176 rfl (lv_at hl 0 rfl) ?_
    refine th_get C hS.1 hp0 fl_RX11_88 hp52 dX11_count_177 ?_
    refine th_get C hS.1 hp53 fl_RX11_199 hp58 dX11_count_180 ?_
    exact th_reti C (Or.inr (Or.inl ⟨by omega, li_0⟩)) dX11_count_183
  by_cases c3880 : wh_i = 14
  · have hc3880 : wh.toInt = 14 := by rw [iz_wh]; exact c3880
    refine lv_tableIn (off := 183) (tgt := 184) hx hb dX11_count_1 (by rw [hc3880]; decide) (by rw [hc3880]; decide) (by rw [hc3880]; rfl) (by decide) ?_
    refine lv_aload_n hx hb dX11_count_184 rfl (lv_at hl 0 rfl) ?_
    refine th_get C hS.1 hp0 fl_RX11_26 hp24 dX11_count_185 ?_
    refine th_get C hS.1 hp25 fl_RX11_593 hp26 dX11_count_188 ?_
    refine th_get C hS.1 hp27 fl_RX11_199 hp28 dX11_count_191 ?_
    exact th_reti C (Or.inr (Or.inl ⟨by omega, li_0⟩)) dX11_count_194
  by_cases c3881 : wh_i = 15
  · have hc3881 : wh.toInt = 15 := by rw [iz_wh]; exact c3881
    refine lv_tableIn (off := 194) (tgt := 195) hx hb dX11_count_1 (by rw [hc3881]; decide) (by rw [hc3881]; decide) (by rw [hc3881]; rfl) (by decide) ?_
    refine lv_aload_n hx hb dX11_count_195 rfl (lv_at hl 0 rfl) ?_
    refine th_get C hS.1 hp0 fl_RX11_85 hp49 dX11_count_196 ?_
    refine th_get C hS.1 hp50 fl_RX11_199 hp51 dX11_count_199 ?_
    exact th_reti C (Or.inr (Or.inl ⟨by omega, li_0⟩)) dX11_count_202
  by_cases c3882 : wh_i = 16
  · have hc3882 : wh.toInt = 16 := by rw [iz_wh]; exact c3882
    refine lv_tableIn (off := 202) (tgt := 203) hx hb dX11_count_1 (by rw [hc3882]; decide) (by rw [hc3882]; decide) (by rw [hc3882]; rfl) (by decide) ?_
    refine lv_aload_n hx hb dX11_count_203 rfl (lv_at hl 0 rfl) ?_
    refine th_get C hS.1 hp0 fl_RX11_91 hp59 dX11_count_204 ?_
    refine th_get C hS.1 hp60 fl_RX11_199 hp65 dX11_count_207 ?_
    exact th_reti C (Or.inr (Or.inl ⟨by omega, li_0⟩)) dX11_count_210
  have c3883 : wh_i < 0 ∨ 16 < wh_i := by omega
  refine lv_tableOut (tgt := 211) hx hb dX11_count_1 (by rw [iz_wh]; exact c3883) (by decide) ?_
  refine lv_aload_n hx hb dX11_count_211 rfl (lv_at hl 0 rfl) ?_
  refine lv_iload_n hx hb dX11_count_212 rfl (lv_at hl 1 rfl) ?_
  refine th_goi (th_runV (As := [.int wh]) (rest := []) C hS.1 (RX11, TX11, 20) rfl gV_RX11_647 hp0 (t_X11_decidesFrom iz_wh hp0 hp31) hl rfl rfl rfl rfl ⟨Nat.le_of_ble_eq_true rfl, Nat.le_of_ble_eq_true rfl⟩ (Nat.le_of_ble_eq_true rfl) ⟨Nat.le_of_ble_eq_true rfl, Nat.le_of_ble_eq_true rfl⟩ dX11_count_213) (fun r3884 hq3885 => ?_)
  exact th_reti C (Or.inr (Or.inr (⟨by omega, by omega⟩))) dX11_count_216

set_option maxHeartbeats 4000000 in
set_option maxRecDepth 100000 in
theorem t_X12_in {l : Launch} {D : va_G} {dA : Nat → ClassId} {K : Kmap} {V : Vmap} {sz : Nat} {v lo hi : Int32} {v_i lo_i hi_i : Int} (iz_v : v.toInt = v_i) (iz_lo : lo.toInt = lo_i) (iz_hi : hi.toInt = hi_i) : Met l yX12_in (wsOf yX12_in cX12_in 3 (some .boolean)) { frames := 0, cells := 0, slots := 0, locals := 0 } (PC D dA K V sz [.int v, .int lo, .int hi]) (PQi (fun r => ((lo_i ≤ v_i ∧ v_i ≤ hi_i) ∧ r.toInt = 1) ∨ ((lo_i > v_i ∨ v_i > hi_i) ∧ r.toInt = 0))) 0 0 noFree := by
  refine th_body (by decide +kernel) (Nat.le_of_ble_eq_true rfl) (fun pZ eZ sZ mZ belowZ methZ cZ C hR hsz hnm ls hl => ?_)
  have C : CX pZ sZ mZ [.int v, .int lo, .int hi].toArray methZ cZ cX12_in 3 (some .boolean) RX12 D dA := C
  have hx := C.1; have hb := C.2.1
  have hl : lv_has ls 3 [(0, .int v), (1, .int lo), (2, .int hi)] := hl
  subst hsz
  have hS : ST D dA K sZ.heap K V sZ.heap [] := ST.rf hR
  have r_v := th_rng v; rw [iz_v] at r_v
  have r_lo := th_rng lo; rw [iz_lo] at r_lo
  have r_hi := th_rng hi; rw [iz_hi] at r_hi
  refine lv_iload_n hx hb dX12_in_0 rfl (lv_at hl 0 rfl) ?_
  refine lv_iload_n hx hb dX12_in_1 rfl (lv_at hl 1 rfl) ?_
  refine th_icmp_lt (X := v_i) (Y := lo_i) (tgt := 14) hx hb dX12_in_2 (by decide) iz_v iz_lo (fun c3886 => ?_) (fun c3886 => ?_)
  · refine lv_iconst (v := 0) hx hb dX12_in_14 (by decide) ?_
    exact th_retz C (by have hfin := li_0; omega) (Or.inr (⟨by omega, li_0⟩)) dX12_in_15
  · refine lv_iload_n hx hb dX12_in_5 rfl (lv_at hl 0 rfl) ?_
    refine lv_iload_n hx hb dX12_in_6 rfl (lv_at hl 2 rfl) ?_
    refine th_icmp_gt (X := v_i) (Y := hi_i) (tgt := 14) hx hb dX12_in_7 (by decide) iz_v iz_hi (fun c3887 => ?_) (fun c3887 => ?_)
    · refine lv_iconst (v := 0) hx hb dX12_in_14 (by decide) ?_
      exact th_retz C (by have hfin := li_0; omega) (Or.inr (⟨by omega, li_0⟩)) dX12_in_15
    · refine lv_iconst (v := 1) hx hb dX12_in_10 (by decide) ?_
      refine lv_goto (tgt := 15) hx hb dX12_in_11 (by decide) ?_
      exact th_retz C (by have hfin := li_1; omega) (Or.inl ⟨by omega, li_1⟩) dX12_in_15

set_option maxHeartbeats 4000000 in
set_option maxRecDepth 100000 in
theorem t_X12_isDay {l : Launch} {D : va_G} {dA : Nat → ClassId} {K : Kmap} {V : Vmap} {sz : Nat} {d : Int32} {d_i : Int} (iz_d : d.toInt = d_i) : Met l yX12_isDay (wsOf yX12_isDay cX12_isDay 1 (some .boolean)) { frames := 0, cells := 0, slots := 0, locals := 0 } (PC D dA K V sz [.int d]) (PQi (fun r => ((0 ≤ d_i ∧ d_i ≤ 3599) ∧ r.toInt = 1) ∨ ((0 > d_i ∨ d_i > 3599) ∧ r.toInt = 0))) 0 0 noFree := by
  refine th_body (by decide +kernel) (Nat.le_of_ble_eq_true rfl) (fun pZ eZ sZ mZ belowZ methZ cZ C hR hsz hnm ls hl => ?_)
  have C : CX pZ sZ mZ [.int d].toArray methZ cZ cX12_isDay 1 (some .boolean) RX12 D dA := C
  have hx := C.1; have hb := C.2.1
  have hl : lv_has ls 1 [(0, .int d)] := hl
  subst hsz
  have hS : ST D dA K sZ.heap K V sZ.heap [] := ST.rf hR
  have r_d := th_rng d; rw [iz_d] at r_d
  refine lv_iload_n hx hb dX12_isDay_0 rfl (lv_at hl 0 rfl) ?_
  refine th_if_lt (X := d_i) (tgt := 15) hx hb dX12_isDay_1 (by decide) iz_d (fun c3888 => ?_) (fun c3888 => ?_)
  · refine lv_iconst (v := 0) hx hb dX12_isDay_15 (by decide) ?_
    exact th_retz C (by have hfin := li_0; omega) (Or.inr (⟨by omega, li_0⟩)) dX12_isDay_16
  · refine lv_iload_n hx hb dX12_isDay_4 rfl (lv_at hl 0 rfl) ?_
    refine lv_sipush (v := 3599) hx hb dX12_isDay_5 (by decide) ?_
    refine th_icmp_gt (X := d_i) (Y := 3599) (tgt := 15) hx hb dX12_isDay_8 (by decide) iz_d li_3599 (fun c3889 => ?_) (fun c3889 => ?_)
    · refine lv_iconst (v := 0) hx hb dX12_isDay_15 (by decide) ?_
      exact th_retz C (by have hfin := li_0; omega) (Or.inr (⟨by omega, li_0⟩)) dX12_isDay_16
    · refine lv_iconst (v := 1) hx hb dX12_isDay_11 (by decide) ?_
      refine lv_goto (tgt := 16) hx hb dX12_isDay_12 (by decide) ?_
      exact th_retz C (by have hfin := li_1; omega) (Or.inl ⟨by omega, li_1⟩) dX12_isDay_16

set_option maxHeartbeats 4000000 in
set_option maxRecDepth 100000 in
theorem t_X12_isSea {l : Launch} {D : va_G} {dA : Nat → ClassId} {K : Kmap} {V : Vmap} {sz : Nat} {d : Int32} {d_i : Int} (iz_d : d.toInt = d_i) : Met l yX12_isSea (wsOf yX12_isSea cX12_isSea 1 (some .boolean)) { frames := 0, cells := 0, slots := 0, locals := 0 } (PC D dA K V sz [.int d]) (PQi (fun r => ((0 ≤ d_i ∧ d_i ≤ 3) ∧ r.toInt = 1) ∨ ((0 > d_i ∨ d_i > 3) ∧ r.toInt = 0))) 0 0 noFree := by
  refine th_body (by decide +kernel) (Nat.le_of_ble_eq_true rfl) (fun pZ eZ sZ mZ belowZ methZ cZ C hR hsz hnm ls hl => ?_)
  have C : CX pZ sZ mZ [.int d].toArray methZ cZ cX12_isSea 1 (some .boolean) RX12 D dA := C
  have hx := C.1; have hb := C.2.1
  have hl : lv_has ls 1 [(0, .int d)] := hl
  subst hsz
  have hS : ST D dA K sZ.heap K V sZ.heap [] := ST.rf hR
  have r_d := th_rng d; rw [iz_d] at r_d
  refine lv_iload_n hx hb dX12_isSea_0 rfl (lv_at hl 0 rfl) ?_
  refine th_if_lt (X := d_i) (tgt := 13) hx hb dX12_isSea_1 (by decide) iz_d (fun c3890 => ?_) (fun c3890 => ?_)
  · refine lv_iconst (v := 0) hx hb dX12_isSea_13 (by decide) ?_
    exact th_retz C (by have hfin := li_0; omega) (Or.inr (⟨by omega, li_0⟩)) dX12_isSea_14
  · refine lv_iload_n hx hb dX12_isSea_4 rfl (lv_at hl 0 rfl) ?_
    refine lv_iconst (v := 4) hx hb dX12_isSea_5 (by decide) ?_
    refine th_icmp_ge (X := d_i) (Y := 4) (tgt := 13) hx hb dX12_isSea_6 (by decide) iz_d li_4 (fun c3891 => ?_) (fun c3891 => ?_)
    · refine lv_iconst (v := 0) hx hb dX12_isSea_13 (by decide) ?_
      exact th_retz C (by have hfin := li_0; omega) (Or.inr (⟨by omega, li_0⟩)) dX12_isSea_14
    · refine lv_iconst (v := 1) hx hb dX12_isSea_9 (by decide) ?_
      refine lv_goto (tgt := 14) hx hb dX12_isSea_10 (by decide) ?_
      exact th_retz C (by have hfin := li_1; omega) (Or.inl ⟨by omega, li_1⟩) dX12_isSea_14

set_option maxHeartbeats 4000000 in
set_option maxRecDepth 100000 in
theorem t_X12_isCell {l : Launch} {D : va_G} {dA : Nat → ClassId} {K : Kmap} {V : Vmap} {sz : Nat} {x : Nat} {c : Int32} {c_i : Int} (iz_c : c.toInt = c_i) (hp0 : K x = some (0, 11)) (hp1 : V x 0 = .int 8) (hp2 : V x 1 = .int 8) : Met l yX12_isCell (wsOf yX12_isCell cX12_isCell 2 (some .boolean)) { frames := 0, cells := 0, slots := 0, locals := 0 } (PC D dA K V sz [.ref x, .int c]) (PQi (fun r => ((0 ≤ c_i ∧ c_i ≤ 63) ∧ r.toInt = 1) ∨ ((0 > c_i ∨ c_i > 63) ∧ r.toInt = 0))) 0 0 noFree := by
  refine th_body (by decide +kernel) (Nat.le_of_ble_eq_true rfl) (fun pZ eZ sZ mZ belowZ methZ cZ C hR hsz hnm ls hl => ?_)
  have C : CX pZ sZ mZ [.ref x, .int c].toArray methZ cZ cX12_isCell 2 (some .boolean) RX12 D dA := C
  have hx := C.1; have hb := C.2.1
  have hl : lv_has ls 2 [(0, .ref x), (1, .int c)] := hl
  subst hsz
  have hS : ST D dA K sZ.heap K V sZ.heap [] := ST.rf hR
  have r_c := th_rng c; rw [iz_c] at r_c
  refine lv_iload_n hx hb dX12_isCell_0 rfl (lv_at hl 1 rfl) ?_
  refine th_if_lt (X := c_i) (tgt := 21) hx hb dX12_isCell_1 (by decide) iz_c (fun c3892 => ?_) (fun c3892 => ?_)
  · refine lv_iconst (v := 0) hx hb dX12_isCell_21 (by decide) ?_
    exact th_retz C (by have hfin := li_0; omega) (Or.inr (⟨by omega, li_0⟩)) dX12_isCell_22
  · refine lv_iload_n hx hb dX12_isCell_4 rfl (lv_at hl 1 rfl) ?_
    refine lv_aload_n hx hb dX12_isCell_5 rfl (lv_at hl 0 rfl) ?_
    refine th_get C hS.1 hp0 fl_RX12_365 hp1 dX12_isCell_6 ?_
    refine lv_aload_n hx hb dX12_isCell_9 rfl (lv_at hl 0 rfl) ?_
    refine th_get C hS.1 hp0 fl_RX12_368 hp2 dX12_isCell_10 ?_
    refine lv_imul hx hb dX12_isCell_13 ?_
    refine th_is (w := .int 64) (by decide) ?_
    refine th_icmp_ge (X := c_i) (Y := 64) (tgt := 21) hx hb dX12_isCell_14 (by decide) iz_c li_64 (fun c3893 => ?_) (fun c3893 => ?_)
    · refine lv_iconst (v := 0) hx hb dX12_isCell_21 (by decide) ?_
      exact th_retz C (by have hfin := li_0; omega) (Or.inr (⟨by omega, li_0⟩)) dX12_isCell_22
    · refine lv_iconst (v := 1) hx hb dX12_isCell_17 (by decide) ?_
      refine lv_goto (tgt := 22) hx hb dX12_isCell_18 (by decide) ?_
      exact th_retz C (by have hfin := li_1; omega) (Or.inl ⟨by omega, li_1⟩) dX12_isCell_22
