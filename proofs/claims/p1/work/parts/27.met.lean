set_option maxHeartbeats 400000 in
set_option maxRecDepth 100000 in
theorem t_X11_feed {l : Launch} {D : va_G} {dA : Nat → ClassId} {K : Kmap} {V : Vmap} {sz : Nat} {x : Nat} {a b c d e1 : Int32} {a_i b_i c_i d_i e1_i : Int} (iz_a : a.toInt = a_i) (iz_b : b.toInt = b_i) (iz_c : c.toInt = c_i) (iz_d : d.toInt = d_i) (iz_e1 : e1.toInt = e1_i) (F : FX K V x) : Met l yX11_feed (wsOf yX11_feed cX11_feed 6 (some .int)) { frames := 3, cells := 0, slots := 0, locals := 73 } (PC D dA K V sz [.ref x, .int a, .int b, .int c, .int d, .int e1]) (HQi D dA K (fun r K1 V1 => (∀ b, K b = some (0, 11) → V1 b = V b) ∧ ((r.toInt = 20)))) 0 0 (AK K sz) := by
  refine th_body (by decide +kernel) (Nat.le_of_ble_eq_true rfl) (fun pZ eZ sZ mZ belowZ methZ cZ C hR hsz hnm ls hl => ?_)
  have C : CX pZ sZ mZ [.ref x, .int a, .int b, .int c, .int d, .int e1].toArray methZ cZ cX11_feed 6 (some .int) RX11 D dA := C
  have hx := C.1; have hb := C.2.1
  have hl : lv_has ls 6 [(0, .ref x), (1, .int a), (2, .int b), (3, .int c), (4, .int d), (5, .int e1)] := hl
  subst hsz
  have hS : ST D dA K sZ.heap K V sZ.heap [] := ST.rf hR
  have r_a := th_rng a; rw [iz_a] at r_a
  have r_b := th_rng b; rw [iz_b] at r_b
  have r_c := th_rng c; rw [iz_c] at r_c
  have r_d := th_rng d; rw [iz_d] at r_d
  have r_e1 := th_rng e1; rw [iz_e1] at r_e1
  have F0 := F
  obtain ⟨la, he, gr, wa, fd, co, sd, lw, rd, se, st, pa, pl, t1, t2, t3, t4, t5, t6, c6, t7, c7, sp, su, hp0, hp1, hp2, hp3, hp4, hp5, hp6, hp7, hp8, hp9, hp10, hp11, hp12, hp13, hp14, hp15, hp16, hp17, hp18, hp19, hp20, hp21, hp22, hp23, hp24, hp25, hp26, hp27, hp28, hp29, hp30, hp31, hp32, hp33, hp34, hp35, hp36, hp37, hp38, hp39, hp40, hp41, hp42, hp43, hp44, hp45, hp46, hp47, hp48, hp49, hp50, hp51, hp52, hp53, hp54, hp55, hp56, hp57, hp58, hp59, hp60, hp61, hp62, hp63, hp64, hp65, hp66, hp67, hp68, hp69, hp70⟩ := F
  refine lv_aload_n hx hb dX11_feed_0 rfl (lv_at hl 0 rfl) ?_
  refine th_get C hS.1 hp0 fl_RX11_91 hp59 dX11_feed_1 ?_
  refine th_get C hS.1 hp60 fl_RX11_199 hp65 dX11_feed_4 ?_
  refine lv_bipush (v := 20) hx hb dX11_feed_7 (by decide) ?_
  refine lv_iadd hx hb dX11_feed_9 ?_
  refine th_is (w := .int 20) (by decide) ?_
  refine lv_sipush (v := 400) hx hb dX11_feed_10 (by decide) ?_
  refine th_icmp_le (X := 20) (Y := 400) (tgt := 18) hx hb dX11_feed_13 (by decide) li_20 li_400 (fun c3551 => ?_) (fun c3551 => absurd c3551 (by omega))
  refine lv_aload_n hx hb dX11_feed_18 rfl (lv_at hl 0 rfl) ?_
  refine lv_iload_n hx hb dX11_feed_19 rfl (lv_at hl 1 rfl) ?_
  refine th_govH hS rfl (th_runV (As := [.int a]) (rest := []) C hS.1 (RX11, TX11, 20) rfl gV_RX11_202 hp0 (t_X11_feedNumber iz_a li_0 hp0 hp59 hp60 hp61 hp62 hp63 hp64 hp65 (by omega) (by omega)) hl rfl rfl rfl rfl ⟨Nat.le_of_ble_eq_true rfl, Nat.le_of_ble_eq_true rfl⟩ (Nat.le_of_ble_eq_true rfl) ⟨Nat.le_of_ble_eq_true rfl, Nat.le_of_ble_eq_true rfl⟩ dX11_feed_20) (fun K3554 V3555 H locs1 hq3553 hE3556 hS => ?_)
  obtain ⟨rfl, hF3557, hA3558, hA3559, hA3560, ⟨z3562, hA3561, hz3562⟩⟩ := hq3553
  refine lv_aload_n hx hb dX11_feed_23 rfl (lv_at hl 0 rfl) ?_
  refine lv_iload_n hx hb dX11_feed_24 rfl (lv_at hl 2 rfl) ?_
  have hv3564 : V3555 x 17 = .ref t7 := Eq.trans (congrFun (hF3557 _ (by rw [hp0]; exact fun h => by cases h) (K_ne hp0 hp60 (by decide)) (K_ne hp0 hp64 (by decide))) 17) hp59
  refine th_govH hS rfl (th_runV (As := [.int b]) (rest := []) C hS.1 (RX11, TX11, 20) rfl gV_RX11_202 hp0 (t_X11_feedNumber iz_b hz3562 hp0 hv3564 hp60 hA3558 hA3559 hA3560 hp64 hA3561 (by omega) (by omega)) hl rfl rfl rfl rfl ⟨Nat.le_of_ble_eq_true rfl, Nat.le_of_ble_eq_true rfl⟩ (Nat.le_of_ble_eq_true rfl) ⟨Nat.le_of_ble_eq_true rfl, Nat.le_of_ble_eq_true rfl⟩ dX11_feed_25) (fun K3567 V3568 H locs1 hq3566 hE3569 hS => ?_)
  obtain ⟨rfl, hF3570, hA3571, hA3572, hA3573, ⟨z3575, hA3574, hz3575⟩⟩ := hq3566
  refine lv_aload_n hx hb dX11_feed_28 rfl (lv_at hl 0 rfl) ?_
  refine lv_iload_n hx hb dX11_feed_29 rfl (lv_at hl 3 rfl) ?_
  have hv3577 : V3568 x 17 = .ref t7 := Eq.trans (congrFun (hF3570 _ (by rw [hp0]; exact fun h => by cases h) (K_ne hp0 hp60 (by decide)) (K_ne hp0 hp64 (by decide))) 17) hv3564
  refine th_govH hS rfl (th_runV (As := [.int c]) (rest := []) C hS.1 (RX11, TX11, 20) rfl gV_RX11_202 hp0 (t_X11_feedNumber iz_c hz3575 hp0 hv3577 hp60 hA3571 hA3572 hA3573 hp64 hA3574 (by omega) (by omega)) hl rfl rfl rfl rfl ⟨Nat.le_of_ble_eq_true rfl, Nat.le_of_ble_eq_true rfl⟩ (Nat.le_of_ble_eq_true rfl) ⟨Nat.le_of_ble_eq_true rfl, Nat.le_of_ble_eq_true rfl⟩ dX11_feed_30) (fun K3580 V3581 H locs1 hq3579 hE3582 hS => ?_)
  obtain ⟨rfl, hF3583, hA3584, hA3585, hA3586, ⟨z3588, hA3587, hz3588⟩⟩ := hq3579
  refine lv_aload_n hx hb dX11_feed_33 rfl (lv_at hl 0 rfl) ?_
  refine lv_iload hx hb dX11_feed_34 (lv_at hl 4 rfl) ?_
  have hv3590 : V3581 x 17 = .ref t7 := Eq.trans (congrFun (hF3583 _ (by rw [hp0]; exact fun h => by cases h) (K_ne hp0 hp60 (by decide)) (K_ne hp0 hp64 (by decide))) 17) hv3577
  refine th_govH hS rfl (th_runV (As := [.int d]) (rest := []) C hS.1 (RX11, TX11, 20) rfl gV_RX11_202 hp0 (t_X11_feedNumber iz_d hz3588 hp0 hv3590 hp60 hA3584 hA3585 hA3586 hp64 hA3587 (by omega) (by omega)) hl rfl rfl rfl rfl ⟨Nat.le_of_ble_eq_true rfl, Nat.le_of_ble_eq_true rfl⟩ (Nat.le_of_ble_eq_true rfl) ⟨Nat.le_of_ble_eq_true rfl, Nat.le_of_ble_eq_true rfl⟩ dX11_feed_36) (fun K3593 V3594 H locs1 hq3592 hE3595 hS => ?_)
  obtain ⟨rfl, hF3596, hA3597, hA3598, hA3599, ⟨z3601, hA3600, hz3601⟩⟩ := hq3592
  refine lv_aload_n hx hb dX11_feed_39 rfl (lv_at hl 0 rfl) ?_
  refine lv_iload hx hb dX11_feed_40 (lv_at hl 5 rfl) ?_
  have hv3603 : V3594 x 17 = .ref t7 := Eq.trans (congrFun (hF3596 _ (by rw [hp0]; exact fun h => by cases h) (K_ne hp0 hp60 (by decide)) (K_ne hp0 hp64 (by decide))) 17) hv3590
  refine th_govH hS rfl (th_runV (As := [.int e1]) (rest := []) C hS.1 (RX11, TX11, 20) rfl gV_RX11_202 hp0 (t_X11_feedNumber iz_e1 hz3601 hp0 hv3603 hp60 hA3597 hA3598 hA3599 hp64 hA3600 (by omega) (by omega)) hl rfl rfl rfl rfl ⟨Nat.le_of_ble_eq_true rfl, Nat.le_of_ble_eq_true rfl⟩ (Nat.le_of_ble_eq_true rfl) ⟨Nat.le_of_ble_eq_true rfl, Nat.le_of_ble_eq_true rfl⟩ dX11_feed_42) (fun K3606 V3607 H locs1 hq3605 hE3608 hS => ?_)
  obtain ⟨rfl, hF3609, hA3610, hA3611, hA3612, ⟨z3614, hA3613, hz3614⟩⟩ := hq3605
  refine lv_aload_n hx hb dX11_feed_45 rfl (lv_at hl 0 rfl) ?_
  have hv3616 : V3607 x 17 = .ref t7 := Eq.trans (congrFun (hF3609 _ (by rw [hp0]; exact fun h => by cases h) (K_ne hp0 hp60 (by decide)) (K_ne hp0 hp64 (by decide))) 17) hv3603
  refine th_get C hS.1 hp0 fl_RX11_91 hv3616 dX11_feed_46 ?_
  refine th_get C hS.1 hp60 fl_RX11_199 hA3613 dX11_feed_49 ?_
  exact th_retiH (post := fun r K1 V1 => (∀ b, K b = some (0, 11) → V1 b = V b) ∧ ((r.toInt = 20))) (cells := 0) (slots := 0) (mc := 0) (ms := 0) C hS ⟨(fun b hb  => Eq.trans (hF3609 _ (by rw [hb]; exact fun h => by cases h) (K_ne hb hp60 (by decide)) (K_ne hb hp64 (by decide))) (Eq.trans (hF3596 _ (by rw [hb]; exact fun h => by cases h) (K_ne hb hp60 (by decide)) (K_ne hb hp64 (by decide))) (Eq.trans (hF3583 _ (by rw [hb]; exact fun h => by cases h) (K_ne hb hp60 (by decide)) (K_ne hb hp64 (by decide))) (Eq.trans (hF3570 _ (by rw [hb]; exact fun h => by cases h) (K_ne hb hp60 (by decide)) (K_ne hb hp64 (by decide))) ((hF3557 _ (by rw [hb]; exact fun h => by cases h) (K_ne hb hp60 (by decide)) (K_ne hb hp64 (by decide)))))))), (by have hfin := hz3614; omega)⟩ (Nat.le_of_ble_eq_true rfl) (Nat.le_of_ble_eq_true rfl) dX11_feed_52
