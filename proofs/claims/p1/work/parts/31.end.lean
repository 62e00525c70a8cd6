set_option maxHeartbeats 4000000 in
set_option maxRecDepth 100000 in
theorem whole_start {p : Program} {e : Env} {s : State} {m : MethodId} {below : List Frame} {meth : Method} {c : Code} (l : Launch) (hflags : l.flags = flags0) {b L : Nat} {xs : Nat → Int32} (hL : L ≤ 8) (hat : lw_At p s m meth c b L xs) : W p l e room_1 s m #[Value.ref b] below meth c s.heap [] 0 0 (lw_Z below #[Value.ref b] s) (entryFrame m ([Value.ref b] : List Value).toArray 4) := by
  obtain ⟨D, dA, hKN⟩ := th_known hat.2.2.2.2.2.1
  have hx := hat.1; have hb := hat.2.1
  have C := law_cx hat hKN
  have hS : ST D dA kNone s.heap kNone vNull s.heap [] := ST.rf (fun a k h => by cases h)
  have hl := lv_entry ([.ref b]) (n := 4) (Nat.le_of_ble_eq_true rfl)
  rw [lg_entry_eq]
  generalize (lg_sl ([.ref b]) ++ List.replicate (4 - (lg_sl ([.ref b])).length) Slot.unset).toArray = ls at hl ⊢
  have hl : lv_has ls 4 [(0, .ref b)] := hl
  refine th_new (ci := 10) C hS (RX11, TX11, 20) tyX11 rfl lays_10 tyX11_ok gw_21 gw_22 gw_1 (Nat.le_of_ble_eq_true rfl) (Nat.le_of_ble_eq_true rfl) dL_law_0 (fun q5610 K5611 V5612 H hq5613 hK5614 hVn5615 hVo5616 hS => ?_)
  have hE5617 : ∀ a k, kNone a = some k → K5611 a = some k := fun a k h => by rw [hK5614, updK_ne (K_old h hq5613)]; exact h
  have hK5618 : K5611 q5610 = some (0, 10) := by rw [hK5614]; exact updK_same
  refine W.widen (k := 1) (n := 20) (Nat.le_of_ble_eq_true rfl) (Nat.le_of_ble_eq_true rfl) ?_
  refine lv_dup hx hb dL_law_3 rfl ?_
  refine th_govH hS rfl (th_runI (As := []) (rest := [.ref q5610]) C hS.1 gI_RL_9 (t_X11_init hK5618) hl rfl rfl rfl rfl ⟨Nat.le_of_ble_eq_true rfl, Nat.le_of_ble_eq_true rfl⟩ (Nat.le_of_ble_eq_true rfl) ⟨Nat.le_of_ble_eq_true rfl, Nat.le_of_ble_eq_true rfl⟩ dL_law_4) (fun K5619 V5620 H locs1 hq5621 hE5622 hS => ?_)
  obtain ⟨hF5623, hX5624⟩ := hq5621
  refine W.widen (k := 49) (n := 6545) (Nat.le_of_ble_eq_true rfl) (Nat.le_of_ble_eq_true rfl) ?_
  refine lv_astore_n (lv' := [(1, .ref q5610), (0, .ref b)]) hx hb dL_law_7 rfl hl (by decide) rfl (fun ls hl => ?_)
  refine th_new (ci := 11) C hS (RX12, TX12, 151) tyX12 rfl lays_11 tyX12_ok gw_1472 gw_1473 gw_8 (Nat.le_of_ble_eq_true rfl) (Nat.le_of_ble_eq_true rfl) dL_law_8 (fun q5625 K5626 V5627 H hq5628 hK5629 hVn5630 hVo5631 hS => ?_)
  have hE5632 : ∀ a k, K5619 a = some k → K5626 a = some k := fun a k h => by rw [hK5629, updK_ne (K_old h hq5628)]; exact h
  have hK5633 : K5626 q5625 = some (0, 11) := by rw [hK5629]; exact updK_same
  refine W.widen (k := 50) (n := 6696) (Nat.le_of_ble_eq_true rfl) (Nat.le_of_ble_eq_true rfl) ?_
  have FX1 := FX.moved hX5624 hE5632 (fun b k hk _ => hVo5631 b (K_old hk hq5628))
  refine lv_dup hx hb dL_law_11 rfl ?_
  refine th_govH hS rfl (th_runI (As := []) (rest := [.ref q5625]) C hS.1 gI_RL_12 (t_X12_init hK5633 hVn5630) hl rfl rfl rfl rfl ⟨Nat.le_of_ble_eq_true rfl, Nat.le_of_ble_eq_true rfl⟩ (Nat.le_of_ble_eq_true rfl) ⟨Nat.le_of_ble_eq_true rfl, Nat.le_of_ble_eq_true rfl⟩ dL_law_12) (fun K5634 V5635 H locs1 hq5636 hE5637 hS => ?_)
  obtain ⟨hF5638, hX5639⟩ := hq5636
  refine W.widen (k := 163) (n := 25899) (Nat.le_of_ble_eq_true rfl) (Nat.le_of_ble_eq_true rfl) ?_
  have FX2 := FX.moved FX1 hE5637 (fun b k hk hne => hF5638 b (by rw [hk]; exact fun h => by cases h) (fun e => hne (by rw [e] at hk; exact Option.some.inj (hk.symm.trans hK5633))))
  refine lv_astore_n (lv' := [(2, .ref q5625), (1, .ref q5610), (0, .ref b)]) hx hb dL_law_15 rfl hl (by decide) rfl (fun ls hl => ?_)
  refine lv_iconst (v := 0) hx hb dL_law_16 (by decide) ?_
  refine lv_istore_n (lv' := [(3, .int 0), (2, .ref q5625), (1, .ref q5610), (0, .ref b)]) hx hb dL_law_17 rfl hl (by decide) rfl (fun ls hl => ?_)
  by_cases hL8 : L = 8
  · subst hL8
    have hl : lv_has ls 4 [(3, .int 0), (2, .ref q5625), (1, .ref q5610), (0, .ref b)] := lv_sub hl [0, 1, 2, 3] rfl
    refine lv_iload_n hx hb dL_law_18 rfl (lv_at hl 0 rfl) ?_
    refine lv_aload_n hx hb dL_law_19 rfl (lv_at hl 3 rfl) ?_
    refine va_slen hx hb hat.2.2.2.2.2.2.1 hat.2.2.2.2.2.2.2.1 (law_nb hat) hS.2.1 dL_law_20 ?_
    refine th_is (w := .int 8) (by decide) ?_
    refine lv_bipush (v := 8) hx hb dL_law_21 (by decide) ?_
    refine lv_isub hx hb dL_law_23 ?_
    refine th_is (w := .int 0) (by decide) ?_
    refine th_icmp_gt (X := 0) (Y := 0) (tgt := 2752) hx hb dL_law_24 (by decide) li_0 li_0 (fun c5640 => absurd c5640 (by omega)) (fun c5640 => ?_)
    refine lv_aload_n hx hb dL_law_27 rfl (lv_at hl 3 rfl) ?_
    refine lv_iload_n hx hb dL_law_28 rfl (lv_at hl 0 rfl) ?_
    refine va_sld hx hb hat.2.2.2.2.2.2.1 hat.2.2.2.2.2.2.2.1 (law_nb hat) hS.2.1 (i := 0) (vp_in_iff.mpr (by decide +kernel)) dL_law_29 ?_
    refine lv_topi (fun v0 _ => ?_)
    refine lv_bipush (v := 63) hx hb dL_law_30 (by decide) ?_
    refine lv_iand hx hb dL_law_32 ?_
    refine lv_topi (fun v _ => ?_)
    by_cases c0 : v.toInt = 0
    · refine lv_tableIn (off := 259) (tgt := 292) hx hb dL_law_33 (by rw [c0]; decide) (by rw [c0]; decide) (by rw [c0]; rfl) (by decide) ?_
      exact law_case_0 hat hKN rfl hS FX2 hX5639 hl
    by_cases c1 : v.toInt = 1
    · refine lv_tableIn (off := 292) (tgt := 325) hx hb dL_law_33 (by rw [c1]; decide) (by rw [c1]; decide) (by rw [c1]; rfl) (by decide) ?_
      exact law_case_1 hat hKN rfl hS FX2 hX5639 hl
    by_cases c2 : v.toInt = 2
    · refine lv_tableIn (off := 355) (tgt := 388) hx hb dL_law_33 (by rw [c2]; decide) (by rw [c2]; decide) (by rw [c2]; rfl) (by decide) ?_
      exact law_case_2 hat hKN rfl hS FX2 hX5639 hl
    by_cases c3 : v.toInt = 3
    · refine lv_tableIn (off := 388) (tgt := 421) hx hb dL_law_33 (by rw [c3]; decide) (by rw [c3]; decide) (by rw [c3]; rfl) (by decide) ?_
      exact law_case_3 hat hKN rfl hS FX2 hX5639 hl
    by_cases c4 : v.toInt = 4
    · refine lv_tableIn (off := 427) (tgt := 460) hx hb dL_law_33 (by rw [c4]; decide) (by rw [c4]; decide) (by rw [c4]; rfl) (by decide) ?_
      exact law_case_4 hat hKN rfl hS FX2 hX5639 hl
    by_cases c5 : v.toInt = 5
    · refine lv_tableIn (off := 480) (tgt := 513) hx hb dL_law_33 (by rw [c5]; decide) (by rw [c5]; decide) (by rw [c5]; rfl) (by decide) ?_
      exact law_case_5 hat hKN rfl hS FX2 hX5639 hl
    by_cases c6 : v.toInt = 6
    · refine lv_tableIn (off := 513) (tgt := 546) hx hb dL_law_33 (by rw [c6]; decide) (by rw [c6]; decide) (by rw [c6]; rfl) (by decide) ?_
      exact law_case_6 hat hKN rfl hS FX2 hX5639 hl
    by_cases c7 : v.toInt = 7
    · refine lv_tableIn (off := 566) (tgt := 599) hx hb dL_law_33 (by rw [c7]; decide) (by rw [c7]; decide) (by rw [c7]; rfl) (by decide) ?_
      exact law_case_7 hat hKN rfl hS FX2 hX5639 hl
    by_cases c8 : v.toInt = 8
    · refine lv_tableIn (off := 599) (tgt := 632) hx hb dL_law_33 (by rw [c8]; decide) (by rw [c8]; decide) (by rw [c8]; rfl) (by decide) ?_
      exact law_case_8 hat hKN rfl hS FX2 hX5639 hl
    by_cases c9 : v.toInt = 9
    · refine lv_tableIn (off := 642) (tgt := 675) hx hb dL_law_33 (by rw [c9]; decide) (by rw [c9]; decide) (by rw [c9]; rfl) (by decide) ?_
      exact law_case_9 hat hKN rfl hS FX2 hX5639 hl
    by_cases c10 : v.toInt = 10
    · refine lv_tableIn (off := 691) (tgt := 724) hx hb dL_law_33 (by rw [c10]; decide) (by rw [c10]; decide) (by rw [c10]; rfl) (by decide) ?_
      exact law_case_10 hat hKN rfl hS FX2 hX5639 hl
    by_cases c11 : v.toInt = 11
    · refine lv_tableIn (off := 754) (tgt := 787) hx hb dL_law_33 (by rw [c11]; decide) (by rw [c11]; decide) (by rw [c11]; rfl) (by decide) ?_
      exact law_case_11 hat hKN rfl hS FX2 hX5639 hl
    by_cases c12 : v.toInt = 12
    · refine lv_tableIn (off := 797) (tgt := 830) hx hb dL_law_33 (by rw [c12]; decide) (by rw [c12]; decide) (by rw [c12]; rfl) (by decide) ?_
      exact law_case_12 hat hKN rfl hS FX2 hX5639 hl
    by_cases c13 : v.toInt = 13
    · refine lv_tableIn (off := 830) (tgt := 863) hx hb dL_law_33 (by rw [c13]; decide) (by rw [c13]; decide) (by rw [c13]; rfl) (by decide) ?_
      exact law_case_13 hat hKN rfl hS FX2 hX5639 hl
    by_cases c14 : v.toInt = 14
    · refine lv_tableIn (off := 883) (tgt := 916) hx hb dL_law_33 (by rw [c14]; decide) (by rw [c14]; decide) (by rw [c14]; rfl) (by decide) ?_
      exact law_case_14 hat hKN rfl hS FX2 hX5639 hl
    by_cases c15 : v.toInt = 15
    · refine lv_tableIn (off := 926) (tgt := 959) hx hb dL_law_33 (by rw [c15]; decide) (by rw [c15]; decide) (by rw [c15]; rfl) (by decide) ?_
      exact law_case_15 hat hKN rfl hS FX2 hX5639 hl
    by_cases c16 : v.toInt = 16
    · refine lv_tableIn (off := 969) (tgt := 1002) hx hb dL_law_33 (by rw [c16]; decide) (by rw [c16]; decide) (by rw [c16]; rfl) (by decide) ?_
      exact law_case_16 hat hKN rfl hS FX2 hX5639 hl
    by_cases c17 : v.toInt = 17
    · refine lv_tableIn (off := 1002) (tgt := 1035) hx hb dL_law_33 (by rw [c17]; decide) (by rw [c17]; decide) (by rw [c17]; rfl) (by decide) ?_
      exact law_case_17 hat hKN rfl hS FX2 hX5639 hl
    by_cases c18 : v.toInt = 18
    · refine lv_tableIn (off := 1089) (tgt := 1122) hx hb dL_law_33 (by rw [c18]; decide) (by rw [c18]; decide) (by rw [c18]; rfl) (by decide) ?_
      exact law_case_18 hat hKN rfl hS FX2 hX5639 hl
    by_cases c19 : v.toInt = 19
    · refine lv_tableIn (off := 1122) (tgt := 1155) hx hb dL_law_33 (by rw [c19]; decide) (by rw [c19]; decide) (by rw [c19]; rfl) (by decide) ?_
      exact law_case_19 hat hKN rfl hS FX2 hX5639 hl
    by_cases c20 : v.toInt = 20
    · refine lv_tableIn (off := 1155) (tgt := 1188) hx hb dL_law_33 (by rw [c20]; decide) (by rw [c20]; decide) (by rw [c20]; rfl) (by decide) ?_
      exact law_case_20 hat hKN rfl hS FX2 hX5639 hl
    by_cases c21 : v.toInt = 21
    · refine lv_tableIn (off := 1214) (tgt := 1247) hx hb dL_law_33 (by rw [c21]; decide) (by rw [c21]; decide) (by rw [c21]; rfl) (by decide) ?_
      exact law_case_21 hat hKN rfl hS FX2 hX5639 hl
    by_cases c22 : v.toInt = 22
    · refine lv_tableIn (off := 1273) (tgt := 1306) hx hb dL_law_33 (by rw [c22]; decide) (by rw [c22]; decide) (by rw [c22]; rfl) (by decide) ?_
      exact law_case_22 hat hKN rfl hS FX2 hX5639 hl
    by_cases c23 : v.toInt = 23
    · refine lv_tableIn (off := 1342) (tgt := 1375) hx hb dL_law_33 (by rw [c23]; decide) (by rw [c23]; decide) (by rw [c23]; rfl) (by decide) ?_
      exact law_case_23 hat hKN rfl hS FX2 hX5639 hl
    by_cases c24 : v.toInt = 24
    · refine lv_tableIn (off := 1375) (tgt := 1408) hx hb dL_law_33 (by rw [c24]; decide) (by rw [c24]; decide) (by rw [c24]; rfl) (by decide) ?_
      exact law_case_24 hat hKN rfl hS FX2 hX5639 hl
    by_cases c25 : v.toInt = 25
    · refine lv_tableIn (off := 1418) (tgt := 1451) hx hb dL_law_33 (by rw [c25]; decide) (by rw [c25]; decide) (by rw [c25]; rfl) (by decide) ?_
      exact law_case_25 hat hKN rfl hS FX2 hX5639 hl
    by_cases c26 : v.toInt = 26
    · refine lv_tableIn (off := 1461) (tgt := 1494) hx hb dL_law_33 (by rw [c26]; decide) (by rw [c26]; decide) (by rw [c26]; rfl) (by decide) ?_
      exact law_case_26 hat hKN rfl hS FX2 hX5639 hl
    by_cases c27 : v.toInt = 27
    · refine lv_tableIn (off := 1494) (tgt := 1527) hx hb dL_law_33 (by rw [c27]; decide) (by rw [c27]; decide) (by rw [c27]; rfl) (by decide) ?_
      exact law_case_27 hat hKN rfl hS FX2 hX5639 hl
    by_cases c28 : v.toInt = 28
    · refine lv_tableIn (off := 1547) (tgt := 1580) hx hb dL_law_33 (by rw [c28]; decide) (by rw [c28]; decide) (by rw [c28]; rfl) (by decide) ?_
      exact law_case_28 hat hKN rfl hS FX2 hX5639 hl
    by_cases c29 : v.toInt = 29
    · refine lv_tableIn (off := 1590) (tgt := 1623) hx hb dL_law_33 (by rw [c29]; decide) (by rw [c29]; decide) (by rw [c29]; rfl) (by decide) ?_
      exact law_case_29 hat hKN rfl hS FX2 hX5639 hl
    by_cases c30 : v.toInt = 30
    · refine lv_tableIn (off := 1623) (tgt := 1656) hx hb dL_law_33 (by rw [c30]; decide) (by rw [c30]; decide) (by rw [c30]; rfl) (by decide) ?_
      exact law_case_30 hat hKN rfl hS FX2 hX5639 hl
    by_cases c31 : v.toInt = 31
    · refine lv_tableIn (off := 1656) (tgt := 1689) hx hb dL_law_33 (by rw [c31]; decide) (by rw [c31]; decide) (by rw [c31]; rfl) (by decide) ?_
      exact law_case_31 hat hKN rfl hS FX2 hX5639 hl
    by_cases c32 : v.toInt = 32
    · refine lv_tableIn (off := 1699) (tgt := 1732) hx hb dL_law_33 (by rw [c32]; decide) (by rw [c32]; decide) (by rw [c32]; rfl) (by decide) ?_
      exact law_case_32 hat hKN rfl hS FX2 hX5639 hl
    by_cases c33 : v.toInt = 33
    · refine lv_tableIn (off := 1732) (tgt := 1765) hx hb dL_law_33 (by rw [c33]; decide) (by rw [c33]; decide) (by rw [c33]; rfl) (by decide) ?_
      exact law_case_33 hat hKN rfl hS FX2 hX5639 hl
    by_cases c34 : v.toInt = 34
    · refine lv_tableIn (off := 1765) (tgt := 1798) hx hb dL_law_33 (by rw [c34]; decide) (by rw [c34]; decide) (by rw [c34]; rfl) (by decide) ?_
      exact law_case_34 hat hKN rfl hS FX2 hX5639 hl
    by_cases c35 : v.toInt = 35
    · refine lv_tableIn (off := 1778) (tgt := 1811) hx hb dL_law_33 (by rw [c35]; decide) (by rw [c35]; decide) (by rw [c35]; rfl) (by decide) ?_
      exact law_case_35 hat hKN rfl hS FX2 hX5639 hl
    by_cases c36 : v.toInt = 36
    · refine lv_tableIn (off := 1821) (tgt := 1854) hx hb dL_law_33 (by rw [c36]; decide) (by rw [c36]; decide) (by rw [c36]; rfl) (by decide) ?_
      exact law_case_36 hat hKN rfl hS FX2 hX5639 hl
    by_cases c37 : v.toInt = 37
    · refine lv_tableIn (off := 1844) (tgt := 1877) hx hb dL_law_33 (by rw [c37]; decide) (by rw [c37]; decide) (by rw [c37]; rfl) (by decide) ?_
      exact law_case_37 hat hKN rfl hS FX2 hX5639 hl
    by_cases c38 : v.toInt = 38
    · refine lv_tableIn (off := 1877) (tgt := 1910) hx hb dL_law_33 (by rw [c38]; decide) (by rw [c38]; decide) (by rw [c38]; rfl) (by decide) ?_
      exact law_case_38 hat hKN rfl hS FX2 hX5639 hl
    by_cases c39 : v.toInt = 39
    · refine lv_tableIn (off := 1910) (tgt := 1943) hx hb dL_law_33 (by rw [c39]; decide) (by rw [c39]; decide) (by rw [c39]; rfl) (by decide) ?_
      exact law_case_39 hat hKN rfl hS FX2 hX5639 hl
    by_cases c40 : v.toInt = 40
    · refine lv_tableIn (off := 1953) (tgt := 1986) hx hb dL_law_33 (by rw [c40]; decide) (by rw [c40]; decide) (by rw [c40]; rfl) (by decide) ?_
      exact law_case_40 hat hKN rfl hS FX2 hX5639 hl
    by_cases c41 : v.toInt = 41
    · refine lv_tableIn (off := 2016) (tgt := 2049) hx hb dL_law_33 (by rw [c41]; decide) (by rw [c41]; decide) (by rw [c41]; rfl) (by decide) ?_
      exact law_case_41 hat hKN rfl hS FX2 hX5639 hl
    by_cases c42 : v.toInt = 42
    · refine lv_tableIn (off := 2049) (tgt := 2082) hx hb dL_law_33 (by rw [c42]; decide) (by rw [c42]; decide) (by rw [c42]; rfl) (by decide) ?_
      exact law_case_42 hat hKN rfl hS FX2 hX5639 hl
    by_cases c43 : v.toInt = 43
    · refine lv_tableIn (off := 2112) (tgt := 2145) hx hb dL_law_33 (by rw [c43]; decide) (by rw [c43]; decide) (by rw [c43]; rfl) (by decide) ?_
      exact law_case_43 hat hKN rfl hS FX2 hX5639 hl
    by_cases c44 : v.toInt = 44
    · refine lv_tableIn (off := 2125) (tgt := 2158) hx hb dL_law_33 (by rw [c44]; decide) (by rw [c44]; decide) (by rw [c44]; rfl) (by decide) ?_
      exact law_case_44 hat hKN rfl hS FX2 hX5639 hl
    by_cases c45 : v.toInt = 45
    · refine lv_tableIn (off := 2148) (tgt := 2181) hx hb dL_law_33 (by rw [c45]; decide) (by rw [c45]; decide) (by rw [c45]; rfl) (by decide) ?_
      exact law_case_45 hat hKN rfl hS FX2 hX5639 hl
    by_cases c46 : v.toInt = 46
    · refine lv_tableIn (off := 2171) (tgt := 2204) hx hb dL_law_33 (by rw [c46]; decide) (by rw [c46]; decide) (by rw [c46]; rfl) (by decide) ?_
      exact law_case_46 hat hKN rfl hS FX2 hX5639 hl
    by_cases c47 : v.toInt = 47
    · refine lv_tableIn (off := 2214) (tgt := 2247) hx hb dL_law_33 (by rw [c47]; decide) (by rw [c47]; decide) (by rw [c47]; rfl) (by decide) ?_
      exact law_case_47 hat hKN rfl hS FX2 hX5639 hl
    by_cases c48 : v.toInt = 48
    · refine lv_tableIn (off := 2237) (tgt := 2270) hx hb dL_law_33 (by rw [c48]; decide) (by rw [c48]; decide) (by rw [c48]; rfl) (by decide) ?_
      exact law_case_48 hat hKN rfl hS FX2 hX5639 hl
    by_cases c49 : v.toInt = 49
    · refine lv_tableIn (off := 2250) (tgt := 2283) hx hb dL_law_33 (by rw [c49]; decide) (by rw [c49]; decide) (by rw [c49]; rfl) (by decide) ?_
      exact law_case_49 hat hKN rfl hS FX2 hX5639 hl
    by_cases c50 : v.toInt = 50
    · refine lv_tableIn (off := 2283) (tgt := 2316) hx hb dL_law_33 (by rw [c50]; decide) (by rw [c50]; decide) (by rw [c50]; rfl) (by decide) ?_
      exact law_case_50 hat hKN rfl hS FX2 hX5639 hl
    by_cases c51 : v.toInt = 51
    · refine lv_tableIn (off := 2336) (tgt := 2369) hx hb dL_law_33 (by rw [c51]; decide) (by rw [c51]; decide) (by rw [c51]; rfl) (by decide) ?_
      exact law_case_51 hat hKN rfl hS FX2 hX5639 hl
    by_cases c52 : v.toInt = 52
    · refine lv_tableIn (off := 2379) (tgt := 2412) hx hb dL_law_33 (by rw [c52]; decide) (by rw [c52]; decide) (by rw [c52]; rfl) (by decide) ?_
      exact law_case_52 hat hKN rfl hS FX2 hX5639 hl
    by_cases c53 : v.toInt = 53
    · refine lv_tableIn (off := 2432) (tgt := 2465) hx hb dL_law_33 (by rw [c53]; decide) (by rw [c53]; decide) (by rw [c53]; rfl) (by decide) ?_
      exact law_case_53 hat hKN rfl hS FX2 hX5639 hl
    by_cases c54 : v.toInt = 54
    · refine lv_tableIn (off := 2501) (tgt := 2534) hx hb dL_law_33 (by rw [c54]; decide) (by rw [c54]; decide) (by rw [c54]; rfl) (by decide) ?_
      exact law_case_54 hat hKN rfl hS FX2 hX5639 hl
    by_cases c55 : v.toInt = 55
    · refine lv_tableIn (off := 2544) (tgt := 2577) hx hb dL_law_33 (by rw [c55]; decide) (by rw [c55]; decide) (by rw [c55]; rfl) (by decide) ?_
      exact law_case_55 hat hKN rfl hS FX2 hX5639 hl
    by_cases c56 : v.toInt = 56
    · refine lv_tableIn (off := 2567) (tgt := 2600) hx hb dL_law_33 (by rw [c56]; decide) (by rw [c56]; decide) (by rw [c56]; rfl) (by decide) ?_
      exact law_case_56 hat hKN rfl hS FX2 hX5639 hl
    by_cases c57 : v.toInt = 57
    · refine lv_tableIn (off := 2600) (tgt := 2633) hx hb dL_law_33 (by rw [c57]; decide) (by rw [c57]; decide) (by rw [c57]; rfl) (by decide) ?_
      exact law_case_57 hat hKN rfl hS FX2 hX5639 hl
    by_cases c58 : v.toInt = 58
    · refine lv_tableIn (off := 2633) (tgt := 2666) hx hb dL_law_33 (by rw [c58]; decide) (by rw [c58]; decide) (by rw [c58]; rfl) (by decide) ?_
      exact law_case_58 hat hKN rfl hS FX2 hX5639 hl
    by_cases c59 : v.toInt = 59
    · refine lv_tableIn (off := 2666) (tgt := 2699) hx hb dL_law_33 (by rw [c59]; decide) (by rw [c59]; decide) (by rw [c59]; rfl) (by decide) ?_
      exact law_case_59 hat hKN rfl hS FX2 hX5639 hl
    by_cases c60 : v.toInt = 60
    · refine lv_tableIn (off := 2690) (tgt := 2723) hx hb dL_law_33 (by rw [c60]; decide) (by rw [c60]; decide) (by rw [c60]; rfl) (by decide) ?_
      exact law_case_60 hat hKN rfl hS FX2 hX5639 hl
    refine lv_tableOut (tgt := 2746) hx hb dL_law_33 (by omega) (by decide) ?_
    exact law_next hat hKN (Nat.le_refl 8) hS (lv_sub hl [0, 3] rfl) (Nat.le_of_ble_eq_true rfl) (Nat.le_of_ble_eq_true rfl)
  · exact law_out hat hKN hL hS li_0 (by omega) (lv_sub hl [0, 3] rfl) (Nat.le_of_ble_eq_true rfl) (Nat.le_of_ble_eq_true rfl)
-- ===== YOUR PART ENDS =====
set_option maxHeartbeats 4000000 in
theorem lw_walk (l : Launch) (hflags : l.flags = flags0) (b : Addr) (xs : List Int32) : MetFree l x (headSpec (Jvm.Cond.code x code maxLocals ret :: tables_1) room_1) (lw_P b xs) (fun _ _ _ _ _ => True) lw_Q := by
  refine MetFree.of_bodyS (code := code) (maxLocals := maxLocals) (ret := ret) (by decide) ?_ ?_
  · intro args s m h hn
    obtain ⟨meth, c, h1, h2, h3, h4, h5, h6, -, -⟩ := Cond.code_spec hn (atoms_spec (ws := Jvm.Cond.code x code maxLocals ret :: tables_1) h _ List.mem_cons_self)
    exact ⟨meth, c, h1, h2, h3, h4, h5, h6⟩
  · intro p e s m args below meth c s₁ B hml0 hP _
    obtain ⟨rfl, hx, hbd, hgv⟩ := hP
    obtain ⟨scr, harrAt, hlist, hof, hsmall⟩ := hx
    obtain ⟨hcb, hkn, -, -⟩ := State.arrayAt?_spec harrAt
    have hown : s.vm.findClass R_law = some m.cls := findClass_of_methodNamed B.named
    have hts0 : ∀ c ∈ (Jvm.Cond.code x code maxLocals ret :: tables_1), c.before #[Value.ref b] s = true := atoms_spec (ws := Jvm.Cond.code x code maxLocals ret :: tables_1) B.pre
    have hts : ∀ w ∈ lw_tbl, w.before #[Value.ref b] s = true := k2_hts_sels lw_privs (fun w hw => hts0 w (List.mem_cons_of_mem _ hw)) lw_privs_ok
    have hml : c.maxLocals = 4 := B.maxLocals_eq (hts0 _ List.mem_cons_self)
    have X₀ : Stand p l e room_1 s m #[Value.ref b] below meth c s₁ [] 0 0 := Stand.of_body B
    have hh0 : s₁.heap = s.heap := by rw [B.state]; rfl
    have hsz : scr.slots.size = xs.length := by rw [← Array.length_toList, hlist, List.length_map]
    have hval : ∀ j : Nat, j < xs.length → scr.slots[j]? = some (.int (xs.getD j 0)) := fun j hj => by
      rw [← Array.getElem?_toList, hlist]
      simp [hj]
    have hbl : b < s.heap.size := (Array.getElem?_eq_some_iff.mp hcb).1
    have hX : va_X b xs.length (fun j => xs.getD j 0) s s.heap := ⟨scr, hcb, hof, hkn, hsz, hval⟩
    have K : W p l e room_1 s m #[Value.ref b] below meth c s₁.heap [] 0 0 (lw_Z below #[Value.ref b] s) (entryFrame m ([Value.ref b] : List Value).toArray 4) := by
      rw [hh0]
      exact whole_start l hflags hbd ⟨B.exec, B.bytes, B.returns, hml, hown, hts, hX, hbl, B.notSynchronized, hgv⟩
    obtain ⟨t, a1, o, b1, b2, b3⟩ := K s₁ rfl X₀
    exact ⟨t, o, a1, b1, b2, b3⟩
theorem lw_pre_spec {args : Array Value} {s : State} (h : (Jvm.Cond.and given_1 narrow_1).before args s = true) (hr : rest_1_c.before args s = true) : ∃ (b : Addr) (xs : List Int32), lw_P b xs args s := by
  have hs := flat_of_before _ h
  have hq := flat_of_before _ hr
  have hc : (Cond.count 1).before args s = true := hs _ (by decide +kernel)
  have harr : (Cond.arrayOf (.arg 0) .int).before args s = true := hs _ (by decide +kernel)
  have hle : (Cond.le (.length (.arg 0)) (.int 8)).before args s = true := hs _ (by decide +kernel)
  have hlen : (Cond.isInt (.length (.arg 0))).before args s = true := hq _ (by decide +kernel)
  have hall : (Cond.all (.arg 0) (.isInt (.elem (.arg 0) (.index 0)))).before args s = true := hq _ (by decide +kernel)
  obtain ⟨b, xs, hb, hx⟩ := State.ints_of_pre rfl harr hlen hall
  have hsm : xs.length < 2 ^ 31 := hx.choose_spec.2.2.2
  have hev : (Term.length (.arg 0)).eval args s none [] s = some (.int xs.length.toInt32) := hx.length_eval hb
  have hv := Cond.le_ints hev (show (Term.int 8).eval args s none [] s = some (.int 8) from rfl)
  have hd : xs.length.toInt32 ≤ 8 := by
    simpa [Cond.before, Cond.holds, hv] using hle
  have hN : xs.length ≤ 8 := (Int32.ofNat_le_ofNat hsm (by decide)).mp (show Int32.ofNat xs.length ≤ Int32.ofNat 8 from hd)
  exact ⟨b, xs, Cond.one_arg hc (show args[0]? = some (.ref b) from hb), hx, hN, h⟩
theorem lw_comes (l : Launch) (hflags : l.flags = flags0) : Comes l x (Jvm.Cond.code x code maxLocals ret :: tables_1) room_1 (fun tb e args s => Calls_1 tb e args s ∧ rest_1 tb e args s ∧ Pre_1 tb e args s)
    (fun _ _ args s o t => lw_Q args s o t) := by
  intro p e ha hc hk s m args below hf hfit hheap happ hpre
  obtain ⟨b, xs, hP⟩ := lw_pre_spec hpre.2.2 hpre.2.1
  obtain ⟨k, o, h1, h2, h3, hQ⟩ := lw_walk l hflags b xs p e ha hc hk s m args below hf ((Spec.applies_iff_loose hf).mp happ).1 hP trivial
  exact ⟨k, o, h1, h2, h3, hQ⟩
theorem lw_frame {s t : State} {o : Outcome} {args : Array Value} (h : Framed s o t [] 600000 7302250) :
    Framed s o t (fieldLocs frame_1_writes args s ++ arrayLocs frame_1_arrays args s ++ staticLocs frame_1_statics s) 600000 7302250 := h
theorem lw_limb (L : Cond) (hL : ∀ (args : Array Value) (s t : State), L.after args s (.returned (some (.int 1))) t = true) :
    ArmFor flags0 classFile x code maxLocals ret World_1 tables_1 room_1 Calls_1 rest_1 Pre_1
      (fun tb e a s o t => postC L tb e a s o t ∧ Framed s o t (fieldLocs frame_1_writes a s ++ arrayLocs frame_1_arrays a s ++ staticLocs frame_1_statics s) 600000 7302250) := by
  intro l hflags _ _ p e ha hc hk s m args below hf hfit hheap happ hpre
  obtain ⟨k, o, h1, h2, h3, rfl, hF⟩ := lw_comes l hflags p e ha hc hk s m args below hf hfit hheap happ hpre
  exact ⟨k, _, h1, h2, h3, hL args s _, lw_frame hF⟩
theorem i_vc : Claimed_1_1 ∧ Claimed_1_2 := ⟨lw_limb limb_1_1 (fun args s t => by simp [limb_1_1, Cond.after, Cond.holds, Cond.value]), lw_limb limb_1_2 (fun args s t => Cond.after_iff.mpr (by
  first | (rw [show limb_1_2 = Cond.eq .result (.int 1) from rfl, Cond.eq_ints (x := 1) (y := 1) rfl rfl]; simp; done) | (simp [limb_1_2, Cond.value, Term.eval]; done)))⟩
