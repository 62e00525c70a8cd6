set_option maxHeartbeats 4000000 in
set_option maxRecDepth 100000 in
theorem law_loop {p : Program} {l : Launch} {e : Env} {s : State} {m : MethodId} {below : List Frame} {meth : Method} {c : Code} {b L : Nat} {xs : Nat → Int32} {D : va_G} {dA : Nat → ClassId} {x m0 : Nat} (hL : L ≤ 4096) : ∀ (n : Nat) (i : Int) (K : Kmap) (V : Vmap), ((L : Int) - i).toNat ≤ n → 0 ≤ i → i ≤ L + 8 → i % 8 = 0 → LI K V x m0 → REL K V x m0 → LG p l e s m below meth c b L xs D dA K V (163 + i.toNat) (25899 + 338 * i.toNat) 18 [some (.ref b), some (.ref x), some (.ref m0), some (ti i)] [] := by
  intro n
  induction n with
  | zero =>
    intro i K V hn h0 h8 hm hI hR
    exact law_out hL (by omega) (by omega) (by omega) (by omega) (by omega)
  | succ n ih =>
    intro i K V hn h0 h8 hm hI hR
    by_cases hg : (L : Int) - 8 < i
    · exact law_out hL (by omega) (by omega) hg (by omega) (by omega)
    have ri : ir i := ⟨by omega, by omega⟩
    have kk : ∀ (K1 : Kmap) (V1 : Vmap), LI K1 V1 x m0 → REL K1 V1 x m0 → LG p l e s m below meth c b L xs D dA K1 V1 (163 + i.toNat + 8) (25899 + 338 * i.toNat + 2704) 2745 [some (.ref b), some (.ref x), some (.ref m0), some (ti i)] [] := fun K1 V1 hI1 hR1 => by
      refine LG.iinc (X := i) (n := 8) (Y := i + 8) (ls1 := [some (.ref b), some (.ref x), some (.ref m0), some (ti (i + 8))]) dL_law_2745 rfl rfl rfl rfl ?_
      refine LG.goto (tgt := 18) dL_law_2748 (by decide) ?_
      have h := ih (i + 8) K1 V1 (by omega) (by omega) (by omega) (by omega) hI1 hR1
      rw [show 163 + (i + 8).toNat = 163 + i.toNat + 8 by omega, show 25899 + 338 * (i + 8).toNat = 25899 + 338 * i.toNat + 2704 by omega] at h
      exact h
    have hcs : 163 + i.toNat + 8 ≤ 600000 ∧ 25899 + 338 * i.toNat + 2704 ≤ 7302250 := ⟨by omega, by omega⟩
    refine LG.iload_n dL_law_18 rfl rfl ?_
    refine LG.aload_n dL_law_19 rfl rfl ?_
    refine LG.slen dL_law_20 ?_
    refine LG.bipush dL_law_21 rfl ?_
    refine LG.isub dL_law_23 ?_
    refine LG.icmp_gt (tgt := 2751) dL_law_24 (by decide) ri ⟨by omega, by omega⟩ (fun hc => absurd hc (by omega)) (fun _ => ?_)
    refine LG.aload_n dL_law_27 rfl rfl ?_
    refine LG.iload_n dL_law_28 rfl rfl ?_
    refine LG.sld (Y := i) dL_law_29 h0 (by omega) hL ?_
    refine LG.bipush dL_law_30 rfl ?_
    refine LG.iand dL_law_32 ?_
    generalize hv : wand (xv xs i) 63 = v
    have rv : ir v := hv ▸ wand_ir
    clear hv
    by_cases c0 : v = 0
    · refine LG.tableAt (n := 0) (tgt := 292) dL_law_33 (ir_c rfl) c0 (by decide) (by decide) rfl (by decide) ?_
      exact law_case_0 hI hR hL h0 (by omega) hcs kk
    by_cases c1 : v = 1
    · refine LG.tableAt (n := 1) (tgt := 325) dL_law_33 (ir_c rfl) c1 (by decide) (by decide) rfl (by decide) ?_
      exact law_case_1 hI hR hL h0 (by omega) hcs kk
    by_cases c2 : v = 2
    · refine LG.tableAt (n := 2) (tgt := 388) dL_law_33 (ir_c rfl) c2 (by decide) (by decide) rfl (by decide) ?_
      exact law_case_2 hI hR hL h0 (by omega) hcs kk
    by_cases c3 : v = 3
    · refine LG.tableAt (n := 3) (tgt := 421) dL_law_33 (ir_c rfl) c3 (by decide) (by decide) rfl (by decide) ?_
      exact law_case_3 hI hR hL h0 (by omega) hcs kk
    by_cases c4 : v = 4
    · refine LG.tableAt (n := 4) (tgt := 460) dL_law_33 (ir_c rfl) c4 (by decide) (by decide) rfl (by decide) ?_
      exact law_case_4 hI hR hL h0 (by omega) hcs kk
    by_cases c5 : v = 5
    · refine LG.tableAt (n := 5) (tgt := 513) dL_law_33 (ir_c rfl) c5 (by decide) (by decide) rfl (by decide) ?_
      exact law_case_5 hI hR hL h0 (by omega) hcs kk
    by_cases c6 : v = 6
    · refine LG.tableAt (n := 6) (tgt := 546) dL_law_33 (ir_c rfl) c6 (by decide) (by decide) rfl (by decide) ?_
      exact law_case_6 hI hR hL h0 (by omega) hcs kk
    by_cases c7 : v = 7
    · refine LG.tableAt (n := 7) (tgt := 599) dL_law_33 (ir_c rfl) c7 (by decide) (by decide) rfl (by decide) ?_
      exact law_case_7 hI hR hL h0 (by omega) hcs kk
    by_cases c8 : v = 8
    · refine LG.tableAt (n := 8) (tgt := 632) dL_law_33 (ir_c rfl) c8 (by decide) (by decide) rfl (by decide) ?_
      exact law_case_8 hI hR hL h0 (by omega) hcs kk
    by_cases c9 : v = 9
    · refine LG.tableAt (n := 9) (tgt := 675) dL_law_33 (ir_c rfl) c9 (by decide) (by decide) rfl (by decide) ?_
      exact law_case_9 hI hR hL h0 (by omega) hcs kk
    by_cases c10 : v = 10
    · refine LG.tableAt (n := 10) (tgt := 724) dL_law_33 (ir_c rfl) c10 (by decide) (by decide) rfl (by decide) ?_
      exact law_case_10 hI hR hL h0 (by omega) hcs kk
    by_cases c11 : v = 11
    · refine LG.tableAt (n := 11) (tgt := 787) dL_law_33 (ir_c rfl) c11 (by decide) (by decide) rfl (by decide) ?_
      exact law_case_11 hI hR hL h0 (by omega) hcs kk
    by_cases c12 : v = 12
    · refine LG.tableAt (n := 12) (tgt := 830) dL_law_33 (ir_c rfl) c12 (by decide) (by decide) rfl (by decide) ?_
      exact law_case_12 hI hR hL h0 (by omega) hcs kk
    by_cases c13 : v = 13
    · refine LG.tableAt (n := 13) (tgt := 863) dL_law_33 (ir_c rfl) c13 (by decide) (by decide) rfl (by decide) ?_
      exact law_case_13 hI hR hL h0 (by omega) hcs kk
    by_cases c14 : v = 14
    · refine LG.tableAt (n := 14) (tgt := 916) dL_law_33 (ir_c rfl) c14 (by decide) (by decide) rfl (by decide) ?_
      exact law_case_14 hI hR hL h0 (by omega) hcs kk
    by_cases c15 : v = 15
    · refine LG.tableAt (n := 15) (tgt := 959) dL_law_33 (ir_c rfl) c15 (by decide) (by decide) rfl (by decide) ?_
      exact law_case_15 hI hR hL h0 (by omega) hcs kk
    by_cases c16 : v = 16
    · refine LG.tableAt (n := 16) (tgt := 1002) dL_law_33 (ir_c rfl) c16 (by decide) (by decide) rfl (by decide) ?_
      exact law_case_16 hI hR hL h0 (by omega) hcs kk
    by_cases c17 : v = 17
    · refine LG.tableAt (n := 17) (tgt := 1035) dL_law_33 (ir_c rfl) c17 (by decide) (by decide) rfl (by decide) ?_
      exact law_case_17 hI hR hL h0 (by omega) hcs kk
    by_cases c18 : v = 18
    · refine LG.tableAt (n := 18) (tgt := 1122) dL_law_33 (ir_c rfl) c18 (by decide) (by decide) rfl (by decide) ?_
      exact law_case_18 hI hR hL h0 (by omega) hcs kk
    by_cases c19 : v = 19
    · refine LG.tableAt (n := 19) (tgt := 1155) dL_law_33 (ir_c rfl) c19 (by decide) (by decide) rfl (by decide) ?_
      exact law_case_19 hI hR hL h0 (by omega) hcs kk
    by_cases c20 : v = 20
    · refine LG.tableAt (n := 20) (tgt := 1188) dL_law_33 (ir_c rfl) c20 (by decide) (by decide) rfl (by decide) ?_
      exact law_case_20 hI hR hL h0 (by omega) hcs kk
    by_cases c21 : v = 21
    · refine LG.tableAt (n := 21) (tgt := 1247) dL_law_33 (ir_c rfl) c21 (by decide) (by decide) rfl (by decide) ?_
      exact law_case_21 hI hR hL h0 (by omega) hcs kk
    by_cases c22 : v = 22
    · refine LG.tableAt (n := 22) (tgt := 1306) dL_law_33 (ir_c rfl) c22 (by decide) (by decide) rfl (by decide) ?_
      exact law_case_22 hI hR hL h0 (by omega) hcs kk
    by_cases c23 : v = 23
    · refine LG.tableAt (n := 23) (tgt := 1375) dL_law_33 (ir_c rfl) c23 (by decide) (by decide) rfl (by decide) ?_
      exact law_case_23 hI hR hL h0 (by omega) hcs kk
    by_cases c24 : v = 24
    · refine LG.tableAt (n := 24) (tgt := 1408) dL_law_33 (ir_c rfl) c24 (by decide) (by decide) rfl (by decide) ?_
      exact law_case_24 hI hR hL h0 (by omega) hcs kk
    by_cases c25 : v = 25
    · refine LG.tableAt (n := 25) (tgt := 1451) dL_law_33 (ir_c rfl) c25 (by decide) (by decide) rfl (by decide) ?_
      exact law_case_25 hI hR hL h0 (by omega) hcs kk
    by_cases c26 : v = 26
    · refine LG.tableAt (n := 26) (tgt := 1494) dL_law_33 (ir_c rfl) c26 (by decide) (by decide) rfl (by decide) ?_
      exact law_case_26 hI hR hL h0 (by omega) hcs kk
    by_cases c27 : v = 27
    · refine LG.tableAt (n := 27) (tgt := 1527) dL_law_33 (ir_c rfl) c27 (by decide) (by decide) rfl (by decide) ?_
      exact law_case_27 hI hR hL h0 (by omega) hcs kk
    by_cases c28 : v = 28
    · refine LG.tableAt (n := 28) (tgt := 1580) dL_law_33 (ir_c rfl) c28 (by decide) (by decide) rfl (by decide) ?_
      exact law_case_28 hI hR hL h0 (by omega) hcs kk
    by_cases c29 : v = 29
    · refine LG.tableAt (n := 29) (tgt := 1623) dL_law_33 (ir_c rfl) c29 (by decide) (by decide) rfl (by decide) ?_
      exact law_case_29 hI hR hL h0 (by omega) hcs kk
    by_cases c30 : v = 30
    · refine LG.tableAt (n := 30) (tgt := 1656) dL_law_33 (ir_c rfl) c30 (by decide) (by decide) rfl (by decide) ?_
      exact law_case_30 hI hR hL h0 (by omega) hcs kk
    by_cases c31 : v = 31
    · refine LG.tableAt (n := 31) (tgt := 1689) dL_law_33 (ir_c rfl) c31 (by decide) (by decide) rfl (by decide) ?_
      exact law_case_31 hI hR hL h0 (by omega) hcs kk
    by_cases c32 : v = 32
    · refine LG.tableAt (n := 32) (tgt := 1732) dL_law_33 (ir_c rfl) c32 (by decide) (by decide) rfl (by decide) ?_
      exact law_case_32 hI hR hL h0 (by omega) hcs kk
    by_cases c33 : v = 33
    · refine LG.tableAt (n := 33) (tgt := 1765) dL_law_33 (ir_c rfl) c33 (by decide) (by decide) rfl (by decide) ?_
      exact law_case_33 hI hR hL h0 (by omega) hcs kk
    by_cases c34 : v = 34
    · refine LG.tableAt (n := 34) (tgt := 1798) dL_law_33 (ir_c rfl) c34 (by decide) (by decide) rfl (by decide) ?_
      exact law_case_34 hI hR hL h0 (by omega) hcs kk
    by_cases c35 : v = 35
    · refine LG.tableAt (n := 35) (tgt := 1811) dL_law_33 (ir_c rfl) c35 (by decide) (by decide) rfl (by decide) ?_
      exact law_case_35 hI hR hL h0 (by omega) hcs kk
    by_cases c36 : v = 36
    · refine LG.tableAt (n := 36) (tgt := 1854) dL_law_33 (ir_c rfl) c36 (by decide) (by decide) rfl (by decide) ?_
      exact law_case_36 hI hR hL h0 (by omega) hcs kk
    by_cases c37 : v = 37
    · refine LG.tableAt (n := 37) (tgt := 1877) dL_law_33 (ir_c rfl) c37 (by decide) (by decide) rfl (by decide) ?_
      exact law_case_37 hI hR hL h0 (by omega) hcs kk
    by_cases c38 : v = 38
    · refine LG.tableAt (n := 38) (tgt := 1910) dL_law_33 (ir_c rfl) c38 (by decide) (by decide) rfl (by decide) ?_
      exact law_case_38 hI hR hL h0 (by omega) hcs kk
    by_cases c39 : v = 39
    · refine LG.tableAt (n := 39) (tgt := 1943) dL_law_33 (ir_c rfl) c39 (by decide) (by decide) rfl (by decide) ?_
      exact law_case_39 hI hR hL h0 (by omega) hcs kk
    by_cases c40 : v = 40
    · refine LG.tableAt (n := 40) (tgt := 1986) dL_law_33 (ir_c rfl) c40 (by decide) (by decide) rfl (by decide) ?_
      exact law_case_40 hI hR hL h0 (by omega) hcs kk
    by_cases c41 : v = 41
    · refine LG.tableAt (n := 41) (tgt := 2049) dL_law_33 (ir_c rfl) c41 (by decide) (by decide) rfl (by decide) ?_
      exact law_case_41 hI hR hL h0 (by omega) hcs kk
    by_cases c42 : v = 42
    · refine LG.tableAt (n := 42) (tgt := 2082) dL_law_33 (ir_c rfl) c42 (by decide) (by decide) rfl (by decide) ?_
      exact law_case_42 hI hR hL h0 (by omega) hcs kk
    by_cases c43 : v = 43
    · refine LG.tableAt (n := 43) (tgt := 2145) dL_law_33 (ir_c rfl) c43 (by decide) (by decide) rfl (by decide) ?_
      exact law_case_43 hI hR hL h0 (by omega) hcs kk
    by_cases c44 : v = 44
    · refine LG.tableAt (n := 44) (tgt := 2158) dL_law_33 (ir_c rfl) c44 (by decide) (by decide) rfl (by decide) ?_
      exact law_case_44 hI hR hL h0 (by omega) hcs kk
    by_cases c45 : v = 45
    · refine LG.tableAt (n := 45) (tgt := 2181) dL_law_33 (ir_c rfl) c45 (by decide) (by decide) rfl (by decide) ?_
      exact law_case_45 hI hR hL h0 (by omega) hcs kk
    by_cases c46 : v = 46
    · refine LG.tableAt (n := 46) (tgt := 2204) dL_law_33 (ir_c rfl) c46 (by decide) (by decide) rfl (by decide) ?_
      exact law_case_46 hI hR hL h0 (by omega) hcs kk
    by_cases c47 : v = 47
    · refine LG.tableAt (n := 47) (tgt := 2247) dL_law_33 (ir_c rfl) c47 (by decide) (by decide) rfl (by decide) ?_
      exact law_case_47 hI hR hL h0 (by omega) hcs kk
    by_cases c48 : v = 48
    · refine LG.tableAt (n := 48) (tgt := 2270) dL_law_33 (ir_c rfl) c48 (by decide) (by decide) rfl (by decide) ?_
      exact law_case_48 hI hR hL h0 (by omega) hcs kk
    by_cases c49 : v = 49
    · refine LG.tableAt (n := 49) (tgt := 2283) dL_law_33 (ir_c rfl) c49 (by decide) (by decide) rfl (by decide) ?_
      exact law_case_49 hI hR hL h0 (by omega) hcs kk
    by_cases c50 : v = 50
    · refine LG.tableAt (n := 50) (tgt := 2316) dL_law_33 (ir_c rfl) c50 (by decide) (by decide) rfl (by decide) ?_
      exact law_case_50 hI hR hL h0 (by omega) hcs kk
    by_cases c51 : v = 51
    · refine LG.tableAt (n := 51) (tgt := 2369) dL_law_33 (ir_c rfl) c51 (by decide) (by decide) rfl (by decide) ?_
      exact law_case_51 hI hR hL h0 (by omega) hcs kk
    by_cases c52 : v = 52
    · refine LG.tableAt (n := 52) (tgt := 2412) dL_law_33 (ir_c rfl) c52 (by decide) (by decide) rfl (by decide) ?_
      exact law_case_52 hI hR hL h0 (by omega) hcs kk
    by_cases c53 : v = 53
    · refine LG.tableAt (n := 53) (tgt := 2465) dL_law_33 (ir_c rfl) c53 (by decide) (by decide) rfl (by decide) ?_
      exact law_case_53 hI hR hL h0 (by omega) hcs kk
    by_cases c54 : v = 54
    · refine LG.tableAt (n := 54) (tgt := 2534) dL_law_33 (ir_c rfl) c54 (by decide) (by decide) rfl (by decide) ?_
      exact law_case_54 hI hR hL h0 (by omega) hcs kk
    by_cases c55 : v = 55
    · refine LG.tableAt (n := 55) (tgt := 2577) dL_law_33 (ir_c rfl) c55 (by decide) (by decide) rfl (by decide) ?_
      exact law_case_55 hI hR hL h0 (by omega) hcs kk
    by_cases c56 : v = 56
    · refine LG.tableAt (n := 56) (tgt := 2600) dL_law_33 (ir_c rfl) c56 (by decide) (by decide) rfl (by decide) ?_
      exact law_case_56 hI hR hL h0 (by omega) hcs kk
    by_cases c57 : v = 57
    · refine LG.tableAt (n := 57) (tgt := 2633) dL_law_33 (ir_c rfl) c57 (by decide) (by decide) rfl (by decide) ?_
      exact law_case_57 hI hR hL h0 (by omega) hcs kk
    by_cases c58 : v = 58
    · refine LG.tableAt (n := 58) (tgt := 2666) dL_law_33 (ir_c rfl) c58 (by decide) (by decide) rfl (by decide) ?_
      exact law_case_58 hI hR hL h0 (by omega) hcs kk
    by_cases c59 : v = 59
    · refine LG.tableAt (n := 59) (tgt := 2699) dL_law_33 (ir_c rfl) c59 (by decide) (by decide) rfl (by decide) ?_
      exact law_case_59 hI hR hL h0 (by omega) hcs kk
    by_cases c60 : v = 60
    · refine LG.tableAt (n := 60) (tgt := 2722) dL_law_33 (ir_c rfl) c60 (by decide) (by decide) rfl (by decide) ?_
      exact law_case_60 hI hR hL h0 (by omega) hcs kk
    refine LG.tableOut (tgt := 2745) dL_law_33 rv (by omega) (by decide) ?_
    exact LG.widen le_cs0 (kk K V hI hR)
set_option maxHeartbeats 4000000 in
set_option maxRecDepth 100000 in
theorem whole_start {p : Program} {e : Env} {s : State} {m : MethodId} {below : List Frame} {meth : Method} {c : Code} (l : Launch) (hflags : l.flags = flags0) {b L : Nat} {xs : Nat → Int32} (hL : L ≤ 4096) (C0 : lw_At p s m meth c b L xs) : W p l e room_1 s m #[Value.ref b] below meth c s.heap [] 0 0 (lw_Z below #[Value.ref b] s) (entryFrame m ([Value.ref b] : List Value).toArray 4) := by
  obtain ⟨D, dA, hKN⟩ := th_known C0.2.2.2.2.2.1
  have hSF := law_sf C0
  rw [lg_entry_eq]
  have hg : LG p l e s m below meth c b L xs D dA kNone vNull 0 0 0 [some (.ref b), none, none, none] [] := by
    refine LG.new (ci := 22) (RX11, TX11, 20) tyX11 rfl rfl lays_10 tyX11_ok gw_21 gw_22 gw_1 rfl dL_law_0 (fun x K1 V1 hq hK hE hk hV hVo => ?_)
    refine LG.widen (k := 1) (n := 20) rfl ?_
    refine LG.dup dL_law_3 rfl ?_
    refine LG.callI (N := mX11_init) dL_law_4 gI_RL_9 rfl (t_X11_init hk) rfl [.ref x] rfl rfl rfl (Nat.le_of_ble_eq_true rfl) (g_vx fun K2 V2 h2 hE2 hF2 => ?_)
    refine LG.widen (k := 49) (n := 6545) rfl ?_
    refine LG.astore_n (ls1 := [some (.ref b), some (.ref x), none, none]) dL_law_7 rfl rfl rfl ?_
    refine LG.useWT (fun hW2 => ?_)
    refine LG.new (ci := 23) (RX12, TX12, 151) tyX12 rfl rfl lays_11 tyX12_ok gw_1472 gw_1473 gw_8 rfl dL_law_8 (fun m0 K3 V3 hq3 hK3 hE3 hk3 hV3 hVo3 => ?_)
    refine LG.widen (k := 50) (n := 6696) rfl ?_
    refine LG.useWT (fun hW3 => ?_)
    have t3_tdy : tdy V3 x = 0 := (tdy_nw hW2 h2.1.1 hq3 hVo3).trans h2.1.2.2.2.2.2.1
    have t3_wsz : wsz V3 x = 0 := (wsz_nw hW2 h2.1.1 hq3 hVo3).trans h2.1.2.2.2.2.2.2.1
    have t3_csz : csz V3 x = 0 := (csz_nw hW2 h2.1.1 hq3 hVo3).trans h2.1.2.2.2.2.2.2.2.1
    have t3_tpN : tpN V3 x = 0 := (tpN_nw hW2 h2.1.1 hq3 hVo3).trans h2.1.2.2.2.2.2.2.2.2.1
    have t3_txN : txN V3 x = 0 := (txN_nw hW2 h2.1.1 hq3 hVo3).trans h2.1.2.2.2.2.2.2.2.2.2.1
    have t3_wdN : wdN V3 x = 0 := (wdN_nw hW2 h2.1.1 hq3 hVo3).trans h2.1.2.2.2.2.2.2.2.2.2.2.1
    have t3_dsz : dsz V3 x = 0 := (dsz_nw hW2 h2.1.1 hq3 hVo3).trans h2.1.2.2.2.2.2.2.2.2.2.2.2.1
    refine LG.dup dL_law_11 rfl ?_
    refine LG.callI (N := mX12_init) dL_law_12 gI_RL_12 rfl (t_X12_init hk3 hV3) rfl [.ref m0] rfl rfl rfl (Nat.le_of_ble_eq_true rfl) (g_vx fun K4 V4 h4 hE4 hF4 => ?_)
    refine LG.widen (k := 163) (n := 25899) rfl ?_
    refine LG.astore_n (ls1 := [some (.ref b), some (.ref x), some (.ref m0), none]) dL_law_15 rfl rfl rfl ?_
    refine LG.iconst dL_law_16 ?_
    refine LG.istore_n (ls1 := [some (.ref b), some (.ref x), some (.ref m0), some (ti 0)]) dL_law_17 rfl rfl rfl ?_
    have hx3 := hE3.obj (Or.inl (by decide)) h2.1.1
    have hx := hE4.obj (Or.inl (by decide)) hx3
    have x_tdy : tdy V4 x = 0 := (tdy_fr hF4 hE4 hW3 hx3 (by decide +kernel) (by decide +kernel)).trans t3_tdy
    have x_wsz : wsz V4 x = 0 := (wsz_fr hF4 hE4 hW3 hx3 (by decide +kernel) (by decide +kernel)).trans t3_wsz
    have x_csz : csz V4 x = 0 := (csz_fr hF4 hE4 hW3 hx3 (by decide +kernel) (by decide +kernel)).trans t3_csz
    have x_tpN : tpN V4 x = 0 := (tpN_fr hF4 hE4 hW3 hx3 (by decide +kernel) (by decide +kernel)).trans t3_tpN
    have x_txN : txN V4 x = 0 := (txN_fr hF4 hE4 hW3 hx3 (by decide +kernel) (by decide +kernel)).trans t3_txN
    have x_wdN : wdN V4 x = 0 := (wdN_fr hF4 hE4 hW3 hx3 (by decide +kernel) (by decide +kernel)).trans t3_wdN
    have x_dsz : dsz V4 x = 0 := (dsz_fr hF4 hE4 hW3 hx3 (by decide +kernel) (by decide +kernel)).trans t3_dsz
    have x_4 : vi V4 x 4 = 0 := (vi_fr hF4 hx3 hx (by decide +kernel)).trans ((vi_nw hVo3 (K_old h2.1.1 hq3)).trans h2.1.2.1)
    have x_10 : vi V4 x 10 = 0 := (vi_fr hF4 hx3 hx (by decide +kernel)).trans ((vi_nw hVo3 (K_old h2.1.1 hq3)).trans h2.1.2.2.1)
    have x_8 : vi V4 x 8 = 0 := (vi_fr hF4 hx3 hx (by decide +kernel)).trans ((vi_nw hVo3 (K_old h2.1.1 hq3)).trans h2.1.2.2.2.1)
    have x_6 : vi V4 x 6 = 0 := (vi_fr hF4 hx3 hx (by decide +kernel)).trans ((vi_nw hVo3 (K_old h2.1.1 hq3)).trans h2.1.2.2.2.2.1)
    have hldi : LDI V4 x := (LDI.same (h2.1.2.2.2.2.2.2.2.2.2.2.2.2.2.1) (LDS.fr (ws := 0) (FR.rf.new ext.rf hq3 hK3 hVo3) hE3 hW2 h2.1.1 rfl)).same (LDS.fr hF4 hE4 hW3 hx3 (by decide +kernel))
    have x_ssz : ssz V4 x = 0 := ((SSM.fr hF4 hE4 hW3 hx3 (by decide +kernel)).1.trans (SSM.fr (ws := 0) (FR.rf.new ext.rf hq3 hK3 hVo3) hE3 hW2 h2.1.1 rfl).1).trans (h2.1.2.2.2.2.2.2.2.2.2.2.2.2.2.2)
    have h4_z := h4.1.2.2.2.2.2.2.2.2.2.2.2.2.2.2.2.1
    have h4_b := h4.1.2.2.2.2.2.2.2.2.2.2.2.2.2.2.2.2
    have x_rdN : rdN V4 x = 0 := ((SAM.frr ext.rf hF4 hE4 (by decide +kernel)).rdn hx3 hW3).2.2.trans ((rdN_nw hW2 h2.1.1 hq3 hVo3).trans h2.1.2.2.2.2.2.2.2.2.2.2.2.2.1)
    have m_9 : vi V4 m0 9 = 0 := h4.1.2.2.2.2.2.1
    have m_2 : vi V4 m0 2 = 0 := h4.1.2.2.2.2.2.2.1
    have m_91 : vi V4 m0 91 = 0 := h4.1.2.2.2.2.2.2.2.1
    have m_133 : vi V4 m0 133 = 0 := h4.1.2.2.2.2.2.2.2.2.1
    have m_120 : vi V4 m0 120 = 0 := h4.1.2.2.2.2.2.2.2.2.2.1
    have m_66 : vi V4 m0 66 = 0 := h4.1.2.2.2.2.2.2.2.2.2.2.1
    have m_118 : vi V4 m0 118 = 0 := h4.1.2.2.2.2.2.2.2.2.2.2.2.1
    have m_137 : vi V4 m0 137 = 0 := h4.1.2.2.2.2.2.2.2.2.2.2.2.2.1
    have m_30 : vi V4 m0 30 = 0 := h4.1.2.2.2.2.1
    have m_47 : vi V4 m0 47 = 0 := h4.1.2.2.1
    have m_48 : vi V4 m0 48 = 0 := h4.1.2.2.2.1
    have m_10 : vi V4 m0 10 = 0 := h4.1.2.1
    exact law_loop hL L 0 K4 V4 (by omega) (by omega) (by omega) (by omega) ⟨hx, h4.1.1, GX.nil h4.1.2.2.1 h4.1.2.2.2.1, PX0.nil h4.1.2.1, NN.nil x_4, NN.nil x_10, PI.nil x_4, CWI.start (NN.nil x_4) x_txN x_wdN⟩ ⟨by unfold RLI; omega, (AB.nil x_4 h4.1.2.2.2.2.2.2.2.2.2.2.2.2.2.1 h4.1.2.2.2.2.2.2.2.2.2.2.2.2.2.2.1), (TXE.nil x_tpN m_30 x_rdN m_48 x_txN m_47), (YRL.nil x_4 m_47), (PLE.start x_6 m_10 h4_z hldi h4_b), (WKE.nil x_8 m_66), (STE.nil x_ssz m_137)⟩
  exact hg ⟨law_cx C0 hKN, C0, hSF⟩ s.heap [] _ (SG.rf (fun a k h => by cases h)) (fun a k h => by cases h) (lvH.to (lv_entry ([.ref b]) (Nat.le_of_ble_eq_true rfl)) (fun j w h => by have := ls_args [.ref b] 3 0 rfl j w h; simpa using this))
-- ===== YOUR PART ENDS =====
set_option maxHeartbeats 4000000 in
theorem lw_walk (l : Launch) (hflags : l.flags = flags0) (b : Addr) (xs : List Int32) : MetFree l x (headSpec (Jvm.Cond.code x code maxLocals ret :: tables_1) room_1) (lw_P b xs) (fun _ _ _ _ _ => True) lw_Q := by
  refine MetFree.of_bodyS (code := code) (maxLocals := maxLocals) (ret := ret) (by decide) ?_ ?_
  · intro args s m h hn
    obtain ⟨meth, c, h1, h2, h3, h4, h5, h6, -, -⟩ := Cond.code_spec hn (atoms_spec (ws := Jvm.Cond.code x code maxLocals ret :: tables_1) h _ List.mem_cons_self)
    exact ⟨meth, c, h1, h2, h3, h4, h5, h6⟩
  · intro p e s m args below meth c s₁ B hml0 hP _
    obtain ⟨rfl, hx, hbd, hgv⟩ := hP
    obtain ⟨scr, harrAt, hlist, hof, hsmall⟩ := hx
    obtain ⟨hcb, hkn, -, -⟩ := State.arrayAt?_spec harrAt
    have hown : s.vm.findClass R_law = some m.cls := findClass_of_methodNamed B.named
    have hts0 : ∀ c ∈ (Jvm.Cond.code x code maxLocals ret :: tables_1), c.before #[Value.ref b] s = true := atoms_spec (ws := Jvm.Cond.code x code maxLocals ret :: tables_1) B.pre
    have hts : ∀ w ∈ lw_tbl, w.before #[Value.ref b] s = true := k2_hts_sels lw_privs (fun w hw => hts0 w (List.mem_cons_of_mem _ hw)) lw_privs_ok
    have hml : c.maxLocals = 4 := B.maxLocals_eq (hts0 _ List.mem_cons_self)
    have X₀ : Stand p l e room_1 s m #[Value.ref b] below meth c s₁ [] 0 0 := Stand.of_body B
    have hh0 : s₁.heap = s.heap := by rw [B.state]; rfl
    have hsz : scr.slots.size = xs.length := by rw [← Array.length_toList, hlist, List.length_map]
    have hval : ∀ j : Nat, j < xs.length → scr.slots[j]? = some (.int (xs.getD j 0)) := fun j hj => by
      rw [← Array.getElem?_toList, hlist]
      simp [hj]
    have hbl : b < s.heap.size := (Array.getElem?_eq_some_iff.mp hcb).1
    have hX : va_X b xs.length (fun j => xs.getD j 0) s s.heap := ⟨scr, hcb, hof, hkn, hsz, hval⟩
    have K : W p l e room_1 s m #[Value.ref b] below meth c s₁.heap [] 0 0 (lw_Z below #[Value.ref b] s) (entryFrame m ([Value.ref b] : List Value).toArray 4) := by
      rw [hh0]
      exact whole_start l hflags hbd ⟨B.exec, B.bytes, B.returns, hml, hown, hts, hX, hbl, B.notSynchronized, hgv⟩
    obtain ⟨t, a1, o, b1, b2, b3⟩ := K s₁ rfl X₀
    exact ⟨t, o, a1, b1, b2, b3⟩
theorem lw_pre_spec {args : Array Value} {s : State} (h : (Jvm.Cond.and given_1 narrow_1).before args s = true) (hr : rest_1_c.before args s = true) : ∃ (b : Addr) (xs : List Int32), lw_P b xs args s := by
  have hs := flat_of_before _ h
  have hq := flat_of_before _ hr
  have hc : (Cond.count 1).before args s = true := hs _ (by decide +kernel)
  have harr : (Cond.arrayOf (.arg 0) .int).before args s = true := hs _ (by decide +kernel)
  have hle : (Cond.le (.length (.arg 0)) (.int 4096)).before args s = true := hs _ (by decide +kernel)
  have hlen : (Cond.isInt (.length (.arg 0))).before args s = true := hq _ (by decide +kernel)
  have hall : (Cond.all (.arg 0) (.isInt (.elem (.arg 0) (.index 0)))).before args s = true := hq _ (by decide +kernel)
  obtain ⟨b, xs, hb, hx⟩ := State.ints_of_pre rfl harr hlen hall
  have hsm : xs.length < 2 ^ 31 := hx.choose_spec.2.2.2
  have hev : (Term.length (.arg 0)).eval args s none [] s = some (.int xs.length.toInt32) := hx.length_eval hb
  have hv := Cond.le_ints hev (show (Term.int 4096).eval args s none [] s = some (.int 4096) from rfl)
  have hd : xs.length.toInt32 ≤ 4096 := by
    simpa [Cond.before, Cond.holds, hv] using hle
  have hN : xs.length ≤ 4096 := (Int32.ofNat_le_ofNat hsm (by decide)).mp (show Int32.ofNat xs.length ≤ Int32.ofNat 4096 from hd)
  exact ⟨b, xs, Cond.one_arg hc (show args[0]? = some (.ref b) from hb), hx, hN, h⟩
theorem lw_comes (l : Launch) (hflags : l.flags = flags0) : Comes l x (Jvm.Cond.code x code maxLocals ret :: tables_1) room_1 (fun tb e args s => Calls_1 tb e args s ∧ rest_1 tb e args s ∧ Pre_1 tb e args s)
    (fun _ _ args s o t => lw_Q args s o t) := by
  intro p e ha hc hk s m args below hf hfit hheap happ hpre
  obtain ⟨b, xs, hP⟩ := lw_pre_spec hpre.2.2 hpre.2.1
  obtain ⟨k, o, h1, h2, h3, hQ⟩ := lw_walk l hflags b xs p e ha hc hk s m args below hf ((Spec.applies_iff_loose hf).mp happ).1 hP trivial
  exact ⟨k, o, h1, h2, h3, hQ⟩
theorem lw_frame {s t : State} {o : Outcome} {args : Array Value} (h : Framed s o t [] 600000 7302250) :
    Framed s o t (fieldLocs frame_1_writes args s ++ arrayLocs frame_1_arrays args s ++ staticLocs frame_1_statics s) 600000 7302250 := h
theorem lw_limb (L : Cond) (hL : ∀ (args : Array Value) (s t : State), L.after args s (.returned (some (.int 1))) t = true) :
    ArmFor flags0 classFile x code maxLocals ret World_1 tables_1 room_1 Calls_1 rest_1 Pre_1
      (fun tb e a s o t => postC L tb e a s o t ∧ Framed s o t (fieldLocs frame_1_writes a s ++ arrayLocs frame_1_arrays a s ++ staticLocs frame_1_statics s) 600000 7302250) := by
  intro l hflags _ _ p e ha hc hk s m args below hf hfit hheap happ hpre
  obtain ⟨k, o, h1, h2, h3, rfl, hF⟩ := lw_comes l hflags p e ha hc hk s m args below hf hfit hheap happ hpre
  exact ⟨k, _, h1, h2, h3, hL args s _, lw_frame hF⟩
theorem i_vc : Claimed_1_1 ∧ Claimed_1_2 := ⟨lw_limb limb_1_1 (fun args s t => by simp [limb_1_1, Cond.after, Cond.holds, Cond.value]), lw_limb limb_1_2 (fun args s t => Cond.after_iff.mpr (by
  first | (rw [show limb_1_2 = Cond.eq .result (.int 1) from rfl, Cond.eq_ints (x := 1) (y := 1) rfl rfl]; simp; done) | (simp [limb_1_2, Cond.value, Term.eval]; done)))⟩
