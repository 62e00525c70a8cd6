set_option maxHeartbeats 4000000 in
set_option maxRecDepth 100000 in
theorem t_X11_settle {l : Launch} {D : va_G} {dA : Nat → ClassId} {K : Kmap} {V : Vmap} {sz : Nat} {x pp pl : Nat} (hp0 : K x = some (0, 10)) (hp1 : V x 6 = .int 0) (hp2 : V x 5 = .ref pl) (hp3 : K pl = some (6, 60)) (hp4 : K pp = some (0, 3)) : Met l yX11_settle (wsOf yX11_settle cX11_settle 2 (some .int)) { frames := 0, cells := 0, slots := 0, locals := 0 } (PC D dA K V sz [.ref x, .ref pp]) (HQi D dA K (fun r K1 V1 => K = K1 ∧ (∀ b, K b ≠ none → b ≠ x → b ≠ pl → V1 b = V b) ∧ ((r.toInt = 0)))) 0 0 (AK K sz) := by
  refine th_body (by decide +kernel) (Nat.le_of_ble_eq_true rfl) (fun pZ eZ sZ mZ belowZ methZ cZ C hR hsz hnm ls hl => ?_)
  have C : CX pZ sZ mZ [.ref x, .ref pp].toArray methZ cZ cX11_settle 2 (some .int) RX11 D dA := C
  have hx := C.1; have hb := C.2.1
  have hl : lv_has ls 2 [(0, .ref x), (1, .ref pp)] := hl
  subst hsz
  have hS : ST D dA K sZ.heap K V sZ.heap [] := ST.rf hR
  refine lv_aload_n hx hb dX11_settle_0 rfl (lv_at hl 0 rfl) ?_
  refine th_get C hS.1 hp0 fl_RX11_46 hp1 dX11_settle_1 ?_
  refine lv_aload_n hx hb dX11_settle_4 rfl (lv_at hl 0 rfl) ?_
  refine th_get C hS.1 hp0 fl_RX11_42 hp2 dX11_settle_5 ?_
  refine th_alen C hS.1 (t := 5) (by decide) hp3 dX11_settle_8 ?_
  refine th_is (w := .int 60) (by decide) ?_
  refine th_icmp_lt (X := 0) (Y := 60) (tgt := 14) hx hb dX11_settle_9 (by decide) li_0 li_60 (fun c2868 => ?_) (fun c2868 => absurd c2868 (by omega))
  refine lv_aload_n hx hb dX11_settle_14 rfl (lv_at hl 0 rfl) ?_
  refine th_get C hS.1 hp0 fl_RX11_42 hp2 dX11_settle_15 ?_
  refine lv_aload_n hx hb dX11_settle_18 rfl (lv_at hl 0 rfl) ?_
  refine th_get C hS.1 hp0 fl_RX11_46 hp1 dX11_settle_19 ?_
  refine lv_aload_n hx hb dX11_settle_22 rfl (lv_at hl 1 rfl) ?_
  refine th_aast C hS (t := 5) (by decide) (RX3, TX3, 16) rfl rfl hp3 hp4 (by rw [li_0]; omega) (by rw [li_0]; omega) dX11_settle_23 (fun V2869 H locs1 hV2870 hS => ?_)
  refine lv_aload_n hx hb dX11_settle_24 rfl (lv_at hl 0 rfl) ?_
  refine lv_dup hx hb dX11_settle_25 rfl ?_
  have hv2871 : V2869 x 6 = .int 0 := Eq.trans (uq_ne hV2870 (Or.inl (K_ne hp0 hp3 (by decide)))) hp1
  refine th_get C hS.1 hp0 fl_RX11_46 hv2871 dX11_settle_26 ?_
  refine lv_dup_x1 hx hb dX11_settle_29 rfl rfl ?_
  refine lv_iconst (v := 1) hx hb dX11_settle_30 (by decide) ?_
  refine lv_iadd hx hb dX11_settle_31 ?_
  refine th_is (w := .int 1) (by decide) ?_
  refine th_put C hS hp0 fp_RX11_46 rfl rfl dX11_settle_32 (fun V2872 H locs1 hV2873 hS => ?_)
  exact th_retiH (post := fun r K1 V1 => K = K1 ∧ (∀ b, K b ≠ none → b ≠ x → b ≠ pl → V1 b = V b) ∧ ((r.toInt = 0))) (cells := 0) (slots := 0) (mc := 0) (ms := 0) C hS ⟨rfl, (fun b hb hm0 hm1 => Eq.trans (uq_other hV2873 hm0) ((uq_other hV2870 hm1))), (by have hfin := li_0; omega)⟩ (Nat.le_of_ble_eq_true rfl) (Nat.le_of_ble_eq_true rfl) dX11_settle_35

set_option maxHeartbeats 4000000 in
set_option maxRecDepth 100000 in
theorem t_X11_decidingOn {l : Launch} {D : va_G} {dA : Nat → ClassId} {K : Kmap} {V : Vmap} {sz : Nat} {x : Nat} {d : Int32} {d_i : Int} (iz_d : d.toInt = d_i) (hp0 : K x = some (0, 10)) (hp1 : V x 4 = .int 0) : Met l yX11_decidingOn (wsOf yX11_decidingOn cX11_decidingOn 5 (some .int)) { frames := 0, cells := 0, slots := 0, locals := 0 } (PC D dA K V sz [.ref x, .int d]) (PQi (fun r => (r.toInt = 0))) 0 0 noFree := by
  refine th_body (by decide +kernel) (Nat.le_of_ble_eq_true rfl) (fun pZ eZ sZ mZ belowZ methZ cZ C hR hsz hnm ls hl => ?_)
  have C : CX pZ sZ mZ [.ref x, .int d].toArray methZ cZ cX11_decidingOn 5 (some .int) RX11 D dA := C
  have hx := C.1; have hb := C.2.1
  have hl : lv_has ls 5 [(0, .ref x), (1, .int d)] := hl
  subst hsz
  have hS : ST D dA K sZ.heap K V sZ.heap [] := ST.rf hR
  have r_d := th_rng d; rw [iz_d] at r_d
  refine lv_iconst (v := 0) hx hb dX11_decidingOn_0 (by decide) ?_
  refine lv_istore_n (lv' := [(2, .int 0), (0, .ref x), (1, .int d)]) hx hb dX11_decidingOn_1 rfl hl (by decide) rfl (fun ls hl => ?_)
  refine lv_iconst (v := 0) hx hb dX11_decidingOn_2 (by decide) ?_
  refine lv_istore_n (lv' := [(3, .int 0), (2, .int 0), (0, .ref x), (1, .int d)]) hx hb dX11_decidingOn_3 rfl hl (by decide) rfl (fun ls hl => ?_)
  refine lv_iload_n hx hb dX11_decidingOn_4 rfl (lv_at hl 0 rfl) ?_
  refine lv_aload_n hx hb dX11_decidingOn_5 rfl (lv_at hl 2 rfl) ?_
  refine th_get C hS.1 hp0 fl_RX11_36 hp1 dX11_decidingOn_6 ?_
  refine th_icmp_ge (X := 0) (Y := 0) (tgt := 45) hx hb dX11_decidingOn_9 (by decide) li_0 li_0 (fun c2874 => ?_) (fun c2874 => absurd c2874 (by omega))
  refine lv_iload_n hx hb dX11_decidingOn_45 rfl (lv_at hl 1 rfl) ?_
  exact th_reti C (by have hfin := li_0; omega) dX11_decidingOn_46

set_option maxHeartbeats 4000000 in
set_option maxRecDepth 100000 in
theorem t_X11_blockers {l : Launch} {D : va_G} {dA : Nat → ClassId} {K : Kmap} {V : Vmap} {sz : Nat} {x : Nat} {d : Int32} {d_i : Int} (iz_d : d.toInt = d_i) (hp0 : K x = some (0, 10)) (hp1 : V x 4 = .int 0) : Met l yX11_blockers (wsOf yX11_blockers cX11_blockers 5 (some .int)) { frames := 0, cells := 0, slots := 0, locals := 0 } (PC D dA K V sz [.ref x, .int d]) (PQi (fun r => (r.toInt = 0))) 0 0 noFree := by
  refine th_body (by decide +kernel) (Nat.le_of_ble_eq_true rfl) (fun pZ eZ sZ mZ belowZ methZ cZ C hR hsz hnm ls hl => ?_)
  have C : CX pZ sZ mZ [.ref x, .int d].toArray methZ cZ cX11_blockers 5 (some .int) RX11 D dA := C
  have hx := C.1; have hb := C.2.1
  have hl : lv_has ls 5 [(0, .ref x), (1, .int d)] := hl
  subst hsz
  have hS : ST D dA K sZ.heap K V sZ.heap [] := ST.rf hR
  have r_d := th_rng d; rw [iz_d] at r_d
  refine lv_iconst (v := 0) hx hb dX11_blockers_0 (by decide) ?_
  refine lv_istore_n (lv' := [(2, .int 0), (0, .ref x), (1, .int d)]) hx hb dX11_blockers_1 rfl hl (by decide) rfl (fun ls hl => ?_)
  refine lv_iconst (v := 0) hx hb dX11_blockers_2 (by decide) ?_
  refine lv_istore_n (lv' := [(3, .int 0), (2, .int 0), (0, .ref x), (1, .int d)]) hx hb dX11_blockers_3 rfl hl (by decide) rfl (fun ls hl => ?_)
  refine lv_iload_n hx hb dX11_blockers_4 rfl (lv_at hl 0 rfl) ?_
  refine lv_aload_n hx hb dX11_blockers_5 rfl (lv_at hl 2 rfl) ?_
  refine th_get C hS.1 hp0 fl_RX11_36 hp1 dX11_blockers_6 ?_
  refine th_icmp_ge (X := 0) (Y := 0) (tgt := 45) hx hb dX11_blockers_9 (by decide) li_0 li_0 (fun c2875 => ?_) (fun c2875 => absurd c2875 (by omega))
  refine lv_iload_n hx hb dX11_blockers_45 rfl (lv_at hl 1 rfl) ?_
  exact th_reti C (by have hfin := li_0; omega) dX11_blockers_46

set_option maxHeartbeats 4000000 in
set_option maxRecDepth 100000 in
theorem t_X11_firstWrong {l : Launch} {D : va_G} {dA : Nat → ClassId} {K : Kmap} {V : Vmap} {sz : Nat} {x : Nat} {n : Int32} {n_i : Int} (iz_n : n.toInt = n_i) (hp0 : K x = some (0, 10)) (hp1 : V x 6 = .int 0) : Met l yX11_firstWrong (wsOf yX11_firstWrong cX11_firstWrong 5 (some .int)) { frames := 0, cells := 0, slots := 0, locals := 0 } (PC D dA K V sz [.ref x, .int n]) (PQi (fun r => (n_i ≤ 0 ∧ r.toInt = (-1)) ∨ (n_i > 0 ∧ r.toInt = 0))) 0 0 noFree := by
  refine th_body (by decide +kernel) (Nat.le_of_ble_eq_true rfl) (fun pZ eZ sZ mZ belowZ methZ cZ C hR hsz hnm ls hl => ?_)
  have C : CX pZ sZ mZ [.ref x, .int n].toArray methZ cZ cX11_firstWrong 5 (some .int) RX11 D dA := C
  have hx := C.1; have hb := C.2.1
  have hl : lv_has ls 5 [(0, .ref x), (1, .int n)] := hl
  subst hsz
  have hS : ST D dA K sZ.heap K V sZ.heap [] := ST.rf hR
  have r_n := th_rng n; rw [iz_n] at r_n
  refine lv_iconst (v := 0) hx hb dX11_firstWrong_0 (by decide) ?_
  refine lv_istore_n (lv' := [(2, .int 0), (0, .ref x), (1, .int n)]) hx hb dX11_firstWrong_1 rfl hl (by decide) rfl (fun ls hl => ?_)
  refine lv_iconst (v := 0) hx hb dX11_firstWrong_2 (by decide) ?_
  refine lv_istore_n (lv' := [(3, .int 0), (2, .int 0), (0, .ref x), (1, .int n)]) hx hb dX11_firstWrong_3 rfl hl (by decide) rfl (fun ls hl => ?_)
  refine lv_iload_n hx hb dX11_firstWrong_4 rfl (lv_at hl 0 rfl) ?_
  refine lv_aload_n hx hb dX11_firstWrong_5 rfl (lv_at hl 2 rfl) ?_
  refine th_get C hS.1 hp0 fl_RX11_46 hp1 dX11_firstWrong_6 ?_
  refine th_icmp_ge (X := 0) (Y := 0) (tgt := 77) hx hb dX11_firstWrong_9 (by decide) li_0 li_0 (fun c2876 => ?_) (fun c2876 => absurd c2876 (by omega))
  refine lv_iload_n hx hb dX11_firstWrong_77 rfl (lv_at hl 1 rfl) ?_
  refine lv_iload_n hx hb dX11_firstWrong_78 rfl (lv_at hl 3 rfl) ?_
  refine th_icmp_ge (X := 0) (Y := n_i) (tgt := 86) hx hb dX11_firstWrong_79 (by decide) li_0 iz_n (fun c2877 => ?_) (fun c2877 => ?_)
  · refine lv_iconst (v := (-1)) hx hb dX11_firstWrong_86 (by decide) ?_
    exact th_reti C (Or.inl ⟨by omega, li_n1⟩) dX11_firstWrong_87
  · refine lv_iload_n hx hb dX11_firstWrong_82 rfl (lv_at hl 1 rfl) ?_
    refine lv_goto (tgt := 87) hx hb dX11_firstWrong_83 (by decide) ?_
    exact th_reti C (Or.inr (⟨by omega, li_0⟩)) dX11_firstWrong_87

set_option maxHeartbeats 4000000 in
set_option maxRecDepth 100000 in
theorem t_X11_decidesFrom {l : Launch} {D : va_G} {dA : Nat → ClassId} {K : Kmap} {V : Vmap} {sz : Nat} {x : Nat} {n : Int32} {n_i : Int} (iz_n : n.toInt = n_i) (hp0 : K x = some (0, 10)) (hp1 : V x 4 = .int 0) : Met l yX11_decidesFrom (wsOf yX11_decidesFrom cX11_decidesFrom 3 (some .int)) { frames := 1, cells := 0, slots := 0, locals := 22 } (PC D dA K V sz [.ref x, .int n]) (PQi (fun r => (r.toInt = (-1)))) 0 0 noFree := by
  refine th_body (by decide +kernel) (Nat.le_of_ble_eq_true rfl) (fun pZ eZ sZ mZ belowZ methZ cZ C hR hsz hnm ls hl => ?_)
  have C : CX pZ sZ mZ [.ref x, .int n].toArray methZ cZ cX11_decidesFrom 3 (some .int) RX11 D dA := C
  have hx := C.1; have hb := C.2.1
  have hl : lv_has ls 3 [(0, .ref x), (1, .int n)] := hl
  subst hsz
  have hS : ST D dA K sZ.heap K V sZ.heap [] := ST.rf hR
  have r_n := th_rng n; rw [iz_n] at r_n
  refine lv_iload_n hx hb dX11_decidesFrom_0 rfl (lv_at hl 1 rfl) ?_
  refine lv_bipush (v := 20) hx hb dX11_decidesFrom_1 (by decide) ?_
  refine lv_bipush (v := 28) hx hb dX11_decidesFrom_3 (by decide) ?_
  refine th_goi (th_runS (As := [.int n, .int 20, .int 28]) (rest := []) C hS.1 gS_RX11_112 (t_X11_between iz_n li_20 li_28) hl rfl rfl rfl rfl ⟨Nat.le_of_ble_eq_true rfl, Nat.le_of_ble_eq_true rfl⟩ (Nat.le_of_ble_eq_true rfl) ⟨Nat.le_of_ble_eq_true rfl, Nat.le_of_ble_eq_true rfl⟩ dX11_decidesFrom_5) (fun r2878 hq2879 => ?_)
  refine th_if_eq (X := r2878.toInt) (tgt := 22) hx hb dX11_decidesFrom_8 (by decide) rfl (fun c2880 => ?_) (fun c2880 => ?_)
  · replace hq2879 := Or.resolve_left hq2879 (fun h => absurd h.2 (by omega))
    refine lv_null hx hb dX11_decidesFrom_22 ?_
    refine lv_astore_nN (lv' := [(2, .null), (0, .ref x), (1, .int n)]) hx hb dX11_decidesFrom_23 rfl hl (by decide) rfl (fun ls hl => ?_)
    refine lv_aload_nN hx hb dX11_decidesFrom_24 rfl (lv_at hl 0 rfl) ?_
    refine lv_ifnonnullN hx hb dX11_decidesFrom_25 ?_
    refine lv_iconst (v := (-1)) hx hb dX11_decidesFrom_28 (by decide) ?_
    refine lv_goto (tgt := 36) hx hb dX11_decidesFrom_29 (by decide) ?_
    exact th_reti C (by have hfin := li_n1; omega) dX11_decidesFrom_36
  · replace hq2879 := Or.resolve_right hq2879 (fun h => absurd h.2 (by omega))
    refine lv_aload_n hx hb dX11_decidesFrom_11 rfl (lv_at hl 0 rfl) ?_
    refine lv_iload_n hx hb dX11_decidesFrom_12 rfl (lv_at hl 1 rfl) ?_
    refine lv_bipush (v := 20) hx hb dX11_decidesFrom_13 (by decide) ?_
    refine lv_isub hx hb dX11_decidesFrom_15 ?_
    refine th_top (X := (n_i - 20)) (th_sub iz_n li_20 (by omega) (by omega)) (fun z2881 hz2881 => ?_)
    refine th_gor (th_runV (As := [.int z2881]) (rest := []) C hS.1 (RX11, TX11, 20) rfl gV_RX11_151 hp0 (t_X11_partyOf hz2881 hp0 hp1) hl rfl rfl rfl rfl ⟨Nat.le_of_ble_eq_true rfl, Nat.le_of_ble_eq_true rfl⟩ (Nat.le_of_ble_eq_true rfl) ⟨Nat.le_of_ble_eq_true rfl, Nat.le_of_ble_eq_true rfl⟩ dX11_decidesFrom_16) ?_
    refine lv_goto (tgt := 23) hx hb dX11_decidesFrom_19 (by decide) ?_
    refine lv_astore_nN (lv' := [(2, .null), (0, .ref x), (1, .int n)]) hx hb dX11_decidesFrom_23 rfl hl (by decide) rfl (fun ls hl => ?_)
    refine lv_aload_nN hx hb dX11_decidesFrom_24 rfl (lv_at hl 0 rfl) ?_
    refine lv_ifnonnullN hx hb dX11_decidesFrom_25 ?_
    refine lv_iconst (v := (-1)) hx hb dX11_decidesFrom_28 (by decide) ?_
    refine lv_goto (tgt := 36) hx hb dX11_decidesFrom_29 (by decide) ?_
    exact th_reti C (by have hfin := li_n1; omega) dX11_decidesFrom_36

set_option maxHeartbeats 4000000 in
set_option maxRecDepth 100000 in
theorem t_X11_sledgesOnWay {l : Launch} {D : va_G} {dA : Nat → ClassId} {K : Kmap} {V : Vmap} {sz : Nat} {x t1 : Nat} (hp0 : K x = some (0, 10)) (hp1 : V x 11 = .ref t1) (hp2 : K t1 = some (0, 7)) (hp3 : V t1 3 = .int 0) : Met l yX11_sledgesOnWay (wsOf yX11_sledgesOnWay cX11_sledgesOnWay 3 (some .int)) { frames := 0, cells := 0, slots := 0, locals := 0 } (PC D dA K V sz [.ref x]) (PQi (fun r => (r.toInt = 0))) 0 0 noFree := by
  refine th_body (by decide +kernel) (Nat.le_of_ble_eq_true rfl) (fun pZ eZ sZ mZ belowZ methZ cZ C hR hsz hnm ls hl => ?_)
  have C : CX pZ sZ mZ [.ref x].toArray methZ cZ cX11_sledgesOnWay 3 (some .int) RX11 D dA := C
  have hx := C.1; have hb := C.2.1
  have hl : lv_has ls 3 [(0, .ref x)] := hl
  subst hsz
  have hS : ST D dA K sZ.heap K V sZ.heap [] := ST.rf hR
  refine lv_iconst (v := 0) hx hb dX11_sledgesOnWay_0 (by decide) ?_
  refine lv_istore_n (lv' := [(1, .int 0), (0, .ref x)]) hx hb dX11_sledgesOnWay_1 rfl hl (by decide) rfl (fun ls hl => ?_)
  refine lv_iconst (v := 0) hx hb dX11_sledgesOnWay_2 (by decide) ?_
  refine lv_istore_n (lv' := [(2, .int 0), (1, .int 0), (0, .ref x)]) hx hb dX11_sledgesOnWay_3 rfl hl (by decide) rfl (fun ls hl => ?_)
  refine lv_iload_n hx hb dX11_sledgesOnWay_4 rfl (lv_at hl 0 rfl) ?_
  refine lv_aload_n hx hb dX11_sledgesOnWay_5 rfl (lv_at hl 2 rfl) ?_
  refine th_get C hS.1 hp0 fl_RX11_72 hp1 dX11_sledgesOnWay_6 ?_
  refine th_get C hS.1 hp2 fl_RX11_199 hp3 dX11_sledgesOnWay_9 ?_
  refine th_icmp_ge (X := 0) (Y := 0) (tgt := 33) hx hb dX11_sledgesOnWay_12 (by decide) li_0 li_0 (fun c2884 => ?_) (fun c2884 => absurd c2884 (by omega))
  refine lv_iload_n hx hb dX11_sledgesOnWay_33 rfl (lv_at hl 1 rfl) ?_
  exact th_reti C (by have hfin := li_0; omega) dX11_sledgesOnWay_34

set_option maxHeartbeats 4000000 in
set_option maxRecDepth 100000 in
theorem t_X11_feedNumber {l : Launch} {D : va_G} {dA : Nat → ClassId} {K : Kmap} {V : Vmap} {sz : Nat} {x t ce : Nat} {n size : Int32} {n_i size_i : Int} (iz_n : n.toInt = n_i) (iz_size : size.toInt = size_i) (hp0 : K x = some (0, 10)) (hp1 : V x 17 = .ref t) (hp2 : K t = some (0, 7)) (hp3 : V t 0 = .int 1) (hp4 : V t 1 = .int 400) (hp5 : V t 2 = .ref ce) (hp6 : K ce = some (1, 400)) (hp7 : V t 3 = .int size) (hc0 : 0 ≤ size_i) (hc1 : size_i ≤ 396) : Met l yX11_feedNumber (wsOf yX11_feedNumber cX11_feedNumber 3 (none : Option Jvm.ClassFile.FieldType)) { frames := 2, cells := 0, slots := 0, locals := 51 } (PC D dA K V sz [.ref x, .int n]) (HQv D dA K (fun K1 V1 => K = K1 ∧ (∀ b, K b ≠ none → b ≠ t → b ≠ ce → V1 b = V b) ∧ (V1 t 0 = .int 1) ∧ (V1 t 1 = .int 400) ∧ (V1 t 2 = .ref ce) ∧ (∃ z : Int32, V1 t 3 = .int z ∧ z.toInt = (size_i + 4)))) 0 0 (AK K sz) := by
  refine th_body (by decide +kernel) (Nat.le_of_ble_eq_true rfl) (fun pZ eZ sZ mZ belowZ methZ cZ C hR hsz hnm ls hl => ?_)
  have C : CX pZ sZ mZ [.ref x, .int n].toArray methZ cZ cX11_feedNumber 3 (none : Option Jvm.ClassFile.FieldType) RX11 D dA := C
  have hx := C.1; have hb := C.2.1
  have hl : lv_has ls 3 [(0, .ref x), (1, .int n)] := hl
  subst hsz
  have hS : ST D dA K sZ.heap K V sZ.heap [] := ST.rf hR
  have r_n := th_rng n; rw [iz_n] at r_n
  refine lv_bipush (v := 24) hx hb dX11_feedNumber_0 (by decide) ?_
  refine lv_istore_n (lv' := [(2, .int 24), (0, .ref x), (1, .int n)]) hx hb dX11_feedNumber_2 rfl hl (by decide) rfl (fun ls hl => ?_)
  refine lv_iload_n hx hb dX11_feedNumber_3 rfl (lv_at hl 0 rfl) ?_
  refine th_if_lt (X := 24) (tgt := 32) hx hb dX11_feedNumber_4 (by decide) li_24 (fun c2885 => absurd c2885 (by omega)) (fun c2885 => ?_)
  refine lv_aload_n hx hb dX11_feedNumber_7 rfl (lv_at hl 1 rfl) ?_
  refine th_get C hS.1 hp0 fl_RX11_91 hp1 dX11_feedNumber_8 ?_
  refine lv_iload_n hx hb dX11_feedNumber_11 rfl (lv_at hl 2 rfl) ?_
  refine lv_iload_n hx hb dX11_feedNumber_12 rfl (lv_at hl 0 rfl) ?_
  refine lv_ishr hx hb dX11_feedNumber_13 ?_
  refine lv_topi (fun z2886 _ => ?_)
  have hrz2886 := th_rng z2886
  refine lv_sipush (v := 255) hx hb dX11_feedNumber_14 (by decide) ?_
  refine lv_iand hx hb dX11_feedNumber_17 ?_
  refine lv_topi (fun z2887 _ => ?_)
  have hrz2887 := th_rng z2887
  refine lv_iconst (v := 0) hx hb dX11_feedNumber_18 (by decide) ?_
  refine lv_iconst (v := 0) hx hb dX11_feedNumber_19 (by decide) ?_
  refine lv_iconst (v := 0) hx hb dX11_feedNumber_20 (by decide) ?_
  refine lv_iconst (v := 0) hx hb dX11_feedNumber_21 (by decide) ?_
  refine th_goiH hS rfl (th_runV (As := [.int z2887, .int 0, .int 0, .int 0, .int 0]) (rest := []) C hS.1 (RX8, TX8, 4) rfl gV_RX11_205 hp2 (t_X8_append_400 rfl li_0 li_0 li_0 li_0 iz_size hp2 hp3 hp4 hp5 hp6 hp7 (by omega) (by omega)) hl rfl rfl rfl rfl ⟨Nat.le_of_ble_eq_true rfl, Nat.le_of_ble_eq_true rfl⟩ (Nat.le_of_ble_eq_true rfl) ⟨Nat.le_of_ble_eq_true rfl, Nat.le_of_ble_eq_true rfl⟩ dX11_feedNumber_22) (fun r2888 K2890 V2891 H locs1 hq2889 hE2892 hS => ?_)
  obtain ⟨rfl, hF2893, hA2894, hA2895, hA2896, ⟨z2898, hA2897, hz2898⟩, hr2899⟩ := hq2889
  refine lv_pop hx hb dX11_feedNumber_25 rfl ?_
  refine lv_iinc (v := 16) (lv' := [(2, .int 16), (0, .ref x), (1, .int n)]) hx hb dX11_feedNumber_26 hl (k := 0) rfl (by decide) (by decide) rfl (fun ls hl => ?_)
  refine lv_goto (tgt := 3) hx hb dX11_feedNumber_29 (by decide) ?_
  refine lv_iload_n hx hb dX11_feedNumber_3 rfl (lv_at hl 0 rfl) ?_
  refine th_if_lt (X := 16) (tgt := 32) hx hb dX11_feedNumber_4 (by decide) li_16 (fun c2900 => absurd c2900 (by omega)) (fun c2900 => ?_)
  refine lv_aload_n hx hb dX11_feedNumber_7 rfl (lv_at hl 1 rfl) ?_
  have hv2901 : V2891 x 17 = .ref t := Eq.trans (congrFun (hF2893 _ (by rw [hp0]; exact fun h => by cases h) (K_ne hp0 hp6 (by decide)) (K_ne hp0 hp2 (by decide))) 17) hp1
  refine th_get C hS.1 hp0 fl_RX11_91 hv2901 dX11_feedNumber_8 ?_
  refine lv_iload_n hx hb dX11_feedNumber_11 rfl (lv_at hl 2 rfl) ?_
  refine lv_iload_n hx hb dX11_feedNumber_12 rfl (lv_at hl 0 rfl) ?_
  refine lv_ishr hx hb dX11_feedNumber_13 ?_
  refine lv_topi (fun z2902 _ => ?_)
  have hrz2902 := th_rng z2902
  refine lv_sipush (v := 255) hx hb dX11_feedNumber_14 (by decide) ?_
  refine lv_iand hx hb dX11_feedNumber_17 ?_
  refine lv_topi (fun z2903 _ => ?_)
  have hrz2903 := th_rng z2903
  refine lv_iconst (v := 0) hx hb dX11_feedNumber_18 (by decide) ?_
  refine lv_iconst (v := 0) hx hb dX11_feedNumber_19 (by decide) ?_
  refine lv_iconst (v := 0) hx hb dX11_feedNumber_20 (by decide) ?_
  refine lv_iconst (v := 0) hx hb dX11_feedNumber_21 (by decide) ?_
  refine th_goiH hS rfl (th_runV (As := [.int z2903, .int 0, .int 0, .int 0, .int 0]) (rest := []) C hS.1 (RX8, TX8, 4) rfl gV_RX11_205 hp2 (t_X8_append_400 rfl li_0 li_0 li_0 li_0 hz2898 hp2 hA2894 hA2895 hA2896 hp6 hA2897 (by omega) (by omega)) hl rfl rfl rfl rfl ⟨Nat.le_of_ble_eq_true rfl, Nat.le_of_ble_eq_true rfl⟩ (Nat.le_of_ble_eq_true rfl) ⟨Nat.le_of_ble_eq_true rfl, Nat.le_of_ble_eq_true rfl⟩ dX11_feedNumber_22) (fun r2904 K2906 V2907 H locs1 hq2905 hE2908 hS => ?_)
  obtain ⟨rfl, hF2909, hA2910, hA2911, hA2912, ⟨z2914, hA2913, hz2914⟩, hr2915⟩ := hq2905
  refine lv_pop hx hb dX11_feedNumber_25 rfl ?_
  refine lv_iinc (v := 8) (lv' := [(2, .int 8), (0, .ref x), (1, .int n)]) hx hb dX11_feedNumber_26 hl (k := 0) rfl (by decide) (by decide) rfl (fun ls hl => ?_)
  refine lv_goto (tgt := 3) hx hb dX11_feedNumber_29 (by decide) ?_
  refine lv_iload_n hx hb dX11_feedNumber_3 rfl (lv_at hl 0 rfl) ?_
  refine th_if_lt (X := 8) (tgt := 32) hx hb dX11_feedNumber_4 (by decide) li_8 (fun c2916 => absurd c2916 (by omega)) (fun c2916 => ?_)
  refine lv_aload_n hx hb dX11_feedNumber_7 rfl (lv_at hl 1 rfl) ?_
  have hv2917 : V2907 x 17 = .ref t := Eq.trans (congrFun (hF2909 _ (by rw [hp0]; exact fun h => by cases h) (K_ne hp0 hp6 (by decide)) (K_ne hp0 hp2 (by decide))) 17) hv2901
  refine th_get C hS.1 hp0 fl_RX11_91 hv2917 dX11_feedNumber_8 ?_
  refine lv_iload_n hx hb dX11_feedNumber_11 rfl (lv_at hl 2 rfl) ?_
  refine lv_iload_n hx hb dX11_feedNumber_12 rfl (lv_at hl 0 rfl) ?_
  refine lv_ishr hx hb dX11_feedNumber_13 ?_
  refine lv_topi (fun z2918 _ => ?_)
  have hrz2918 := th_rng z2918
  refine lv_sipush (v := 255) hx hb dX11_feedNumber_14 (by decide) ?_
  refine lv_iand hx hb dX11_feedNumber_17 ?_
  refine lv_topi (fun z2919 _ => ?_)
  have hrz2919 := th_rng z2919
  refine lv_iconst (v := 0) hx hb dX11_feedNumber_18 (by decide) ?_
  refine lv_iconst (v := 0) hx hb dX11_feedNumber_19 (by decide) ?_
  refine lv_iconst (v := 0) hx hb dX11_feedNumber_20 (by decide) ?_
  refine lv_iconst (v := 0) hx hb dX11_feedNumber_21 (by decide) ?_
  refine th_goiH hS rfl (th_runV (As := [.int z2919, .int 0, .int 0, .int 0, .int 0]) (rest := []) C hS.1 (RX8, TX8, 4) rfl gV_RX11_205 hp2 (t_X8_append_400 rfl li_0 li_0 li_0 li_0 hz2914 hp2 hA2910 hA2911 hA2912 hp6 hA2913 (by omega) (by omega)) hl rfl rfl rfl rfl ⟨Nat.le_of_ble_eq_true rfl, Nat.le_of_ble_eq_true rfl⟩ (Nat.le_of_ble_eq_true rfl) ⟨Nat.le_of_ble_eq_true rfl, Nat.le_of_ble_eq_true rfl⟩ dX11_feedNumber_22) (fun r2920 K2922 V2923 H locs1 hq2921 hE2924 hS => ?_)
  obtain ⟨rfl, hF2925, hA2926, hA2927, hA2928, ⟨z2930, hA2929, hz2930⟩, hr2931⟩ := hq2921
  refine lv_pop hx hb dX11_feedNumber_25 rfl ?_
  refine lv_iinc (v := 0) (lv' := [(2, .int 0), (0, .ref x), (1, .int n)]) hx hb dX11_feedNumber_26 hl (k := 0) rfl (by decide) (by decide) rfl (fun ls hl => ?_)
  refine lv_goto (tgt := 3) hx hb dX11_feedNumber_29 (by decide) ?_
  refine lv_iload_n hx hb dX11_feedNumber_3 rfl (lv_at hl 0 rfl) ?_
  refine th_if_lt (X := 0) (tgt := 32) hx hb dX11_feedNumber_4 (by decide) li_0 (fun c2932 => absurd c2932 (by omega)) (fun c2932 => ?_)
  refine lv_aload_n hx hb dX11_feedNumber_7 rfl (lv_at hl 1 rfl) ?_
  have hv2933 : V2923 x 17 = .ref t := Eq.trans (congrFun (hF2925 _ (by rw [hp0]; exact fun h => by cases h) (K_ne hp0 hp6 (by decide)) (K_ne hp0 hp2 (by decide))) 17) hv2917
  refine th_get C hS.1 hp0 fl_RX11_91 hv2933 dX11_feedNumber_8 ?_
  refine lv_iload_n hx hb dX11_feedNumber_11 rfl (lv_at hl 2 rfl) ?_
  refine lv_iload_n hx hb dX11_feedNumber_12 rfl (lv_at hl 0 rfl) ?_
  refine lv_ishr hx hb dX11_feedNumber_13 ?_
  refine lv_topi (fun z2934 _ => ?_)
  have hrz2934 := th_rng z2934
  refine lv_sipush (v := 255) hx hb dX11_feedNumber_14 (by decide) ?_
  refine lv_iand hx hb dX11_feedNumber_17 ?_
  refine lv_topi (fun z2935 _ => ?_)
  have hrz2935 := th_rng z2935
  refine lv_iconst (v := 0) hx hb dX11_feedNumber_18 (by decide) ?_
  refine lv_iconst (v := 0) hx hb dX11_feedNumber_19 (by decide) ?_
  refine lv_iconst (v := 0) hx hb dX11_feedNumber_20 (by decide) ?_
  refine lv_iconst (v := 0) hx hb dX11_feedNumber_21 (by decide) ?_
  refine th_goiH hS rfl (th_runV (As := [.int z2935, .int 0, .int 0, .int 0, .int 0]) (rest := []) C hS.1 (RX8, TX8, 4) rfl gV_RX11_205 hp2 (t_X8_append_400 rfl li_0 li_0 li_0 li_0 hz2930 hp2 hA2926 hA2927 hA2928 hp6 hA2929 (by omega) (by omega)) hl rfl rfl rfl rfl ⟨Nat.le_of_ble_eq_true rfl, Nat.le_of_ble_eq_true rfl⟩ (Nat.le_of_ble_eq_true rfl) ⟨Nat.le_of_ble_eq_true rfl, Nat.le_of_ble_eq_true rfl⟩ dX11_feedNumber_22) (fun r2936 K2938 V2939 H locs1 hq2937 hE2940 hS => ?_)
  obtain ⟨rfl, hF2941, hA2942, hA2943, hA2944, ⟨z2946, hA2945, hz2946⟩, hr2947⟩ := hq2937
  refine lv_pop hx hb dX11_feedNumber_25 rfl ?_
  refine lv_iinc (v := (-8)) (lv' := [(2, .int (-8)), (0, .ref x), (1, .int n)]) hx hb dX11_feedNumber_26 hl (k := 0) rfl (by decide) (by decide) rfl (fun ls hl => ?_)
  refine lv_goto (tgt := 3) hx hb dX11_feedNumber_29 (by decide) ?_
  refine lv_iload_n hx hb dX11_feedNumber_3 rfl (lv_at hl 0 rfl) ?_
  refine th_if_lt (X := (-8)) (tgt := 32) hx hb dX11_feedNumber_4 (by decide) li_n8 (fun c2948 => ?_) (fun c2948 => absurd c2948 (by omega))
  exact th_retvH (post := fun K1 V1 => K = K1 ∧ (∀ b, K b ≠ none → b ≠ t → b ≠ ce → V1 b = V b) ∧ (V1 t 0 = .int 1) ∧ (V1 t 1 = .int 400) ∧ (V1 t 2 = .ref ce) ∧ (∃ z : Int32, V1 t 3 = .int z ∧ z.toInt = (size_i + 4))) (cells := 0) (slots := 0) (mc := 0) (ms := 0) C hS ⟨rfl, (fun b hb hm0 hm1 => Eq.trans (hF2941 _ hb hm1 hm0) (Eq.trans (hF2925 _ hb hm1 hm0) (Eq.trans (hF2909 _ hb hm1 hm0) ((hF2893 _ hb hm1 hm0))))), hA2942, hA2943, hA2944, ⟨_, hA2945, (by have hfin := hz2946; omega)⟩⟩ (Nat.le_of_ble_eq_true rfl) (Nat.le_of_ble_eq_true rfl) dX11_feedNumber_32

set_option maxHeartbeats 4000000 in
set_option maxRecDepth 100000 in
theorem t_X11_admitParties {l : Launch} {D : va_G} {dA : Nat → ClassId} {K : Kmap} {V : Vmap} {sz : Nat} {x : Nat} (hp0 : K x = some (0, 10)) (hp1 : V x 4 = .int 0) : Met l yX11_admitParties (wsOf yX11_admitParties cX11_admitParties 4 (none : Option Jvm.ClassFile.FieldType)) { frames := 0, cells := 0, slots := 0, locals := 0 } (PC D dA K V sz [.ref x]) PQv 0 0 noFree := by
  refine th_body (by decide +kernel) (Nat.le_of_ble_eq_true rfl) (fun pZ eZ sZ mZ belowZ methZ cZ C hR hsz hnm ls hl => ?_)
  have C : CX pZ sZ mZ [.ref x].toArray methZ cZ cX11_admitParties 4 (none : Option Jvm.ClassFile.FieldType) RX11 D dA := C
  have hx := C.1; have hb := C.2.1
  have hl : lv_has ls 4 [(0, .ref x)] := hl
  subst hsz
  have hS : ST D dA K sZ.heap K V sZ.heap [] := ST.rf hR
  refine lv_iconst (v := 0) hx hb dX11_admitParties_0 (by decide) ?_
  refine lv_istore_n (lv' := [(1, .int 0), (0, .ref x)]) hx hb dX11_admitParties_1 rfl hl (by decide) rfl (fun ls hl => ?_)
  refine lv_iload_n hx hb dX11_admitParties_2 rfl (lv_at hl 0 rfl) ?_
  refine lv_aload_n hx hb dX11_admitParties_3 rfl (lv_at hl 1 rfl) ?_
  refine th_get C hS.1 hp0 fl_RX11_36 hp1 dX11_admitParties_4 ?_
  refine th_icmp_ge (X := 0) (Y := 0) (tgt := 89) hx hb dX11_admitParties_7 (by decide) li_0 li_0 (fun c2949 => ?_) (fun c2949 => absurd c2949 (by omega))
  exact th_retv C dX11_admitParties_89

set_option maxHeartbeats 4000000 in
set_option maxRecDepth 100000 in
theorem t_X0_lay {l : Launch} {D : va_G} {dA : Nat → ClassId} {K : Kmap} {V : Vmap} {sz : Nat} {la he gr wa fd : Nat} {w h : Int32} {w_i h_i : Int} (iz_w : w.toInt = w_i) (iz_h : h.toInt = h_i) (hp0 : K la = some (0, 0)) (hp1 : V la 5 = .ref he) (hp2 : K he = some (1, 144)) (hp3 : V la 6 = .ref gr) (hp4 : K gr = some (1, 144)) (hp5 : V la 7 = .ref wa) (hp6 : K wa = some (1, 144)) (hp7 : V la 8 = .ref fd) (hp8 : K fd = some (1, 144)) : Met l yX0_lay (wsOf yX0_lay cX0_lay 3 (none : Option Jvm.ClassFile.FieldType)) { frames := 1, cells := 0, slots := 0, locals := 22 } (PC D dA K V sz [.ref la, .int w, .int h]) (HQv D dA K (fun K1 V1 => K = K1 ∧ (∀ b, K b ≠ none → b ≠ la → b ≠ he → b ≠ gr → b ≠ wa → b ≠ fd → V1 b = V b))) 0 0 (AK K sz) := by
  refine th_body (by decide +kernel) (Nat.le_of_ble_eq_true rfl) (fun pZ eZ sZ mZ belowZ methZ cZ C hR hsz hnm ls hl => ?_)
  have C : CX pZ sZ mZ [.ref la, .int w, .int h].toArray methZ cZ cX0_lay 3 (none : Option Jvm.ClassFile.FieldType) RX0 D dA := C
  have hx := C.1; have hb := C.2.1
  have hl : lv_has ls 3 [(0, .ref la), (1, .int w), (2, .int h)] := hl
  subst hsz
  have hS : ST D dA K sZ.heap K V sZ.heap [] := ST.rf hR
  have r_w := th_rng w; rw [iz_w] at r_w
  have r_h := th_rng h; rw [iz_h] at r_h
  refine lv_aload_n hx hb dX0_lay_0 rfl (lv_at hl 0 rfl) ?_
  refine lv_iload_n hx hb dX0_lay_1 rfl (lv_at hl 1 rfl) ?_
  refine th_put C hS hp0 fp_RX0_21 rfl rfl dX0_lay_2 (fun V2950 H locs1 hV2951 hS => ?_)
  refine lv_aload_n hx hb dX0_lay_5 rfl (lv_at hl 0 rfl) ?_
  refine lv_iload_n hx hb dX0_lay_6 rfl (lv_at hl 2 rfl) ?_
  refine th_put C hS hp0 fp_RX0_24 rfl rfl dX0_lay_7 (fun V2952 H locs1 hV2953 hS => ?_)
  refine lv_aload_n hx hb dX0_lay_10 rfl (lv_at hl 0 rfl) ?_
  have hv2954 : V2950 la 5 = .ref he := Eq.trans (uq_ne hV2951 (Or.inr (by decide))) hp1
  have hv2955 : V2952 la 5 = .ref he := Eq.trans (uq_ne hV2953 (Or.inr (by decide))) hv2954
  refine th_get C hS.1 hp0 fl_RX0_27 hv2955 dX0_lay_11 ?_
  refine lv_iconst (v := 0) hx hb dX0_lay_14 (by decide) ?_
  refine th_govH hS rfl (th_runS (As := [.ref he, .int 0]) (rest := []) C hS.1 gS_RX0_52 (t_X4_fill li_0 hp2 (by decide)) hl rfl rfl rfl rfl ⟨Nat.le_of_ble_eq_true rfl, Nat.le_of_ble_eq_true rfl⟩ (Nat.le_of_ble_eq_true rfl) ⟨Nat.le_of_ble_eq_true rfl, Nat.le_of_ble_eq_true rfl⟩ dX0_lay_15) (fun K2958 V2959 H locs1 hq2957 hE2960 hS => ?_)
  obtain ⟨rfl, hF2961⟩ := hq2957
  refine lv_aload_n hx hb dX0_lay_18 rfl (lv_at hl 0 rfl) ?_
  have hv2963 : V2950 la 6 = .ref gr := Eq.trans (uq_ne hV2951 (Or.inr (by decide))) hp3
  have hv2964 : V2952 la 6 = .ref gr := Eq.trans (uq_ne hV2953 (Or.inr (by decide))) hv2963
  have hv2965 : V2959 la 6 = .ref gr := Eq.trans (congrFun (hF2961 _ (by rw [hp0]; exact fun h => by cases h) (K_ne hp0 hp2 (by decide))) 6) hv2964
  refine th_get C hS.1 hp0 fl_RX0_31 hv2965 dX0_lay_19 ?_
  refine lv_iconst (v := 0) hx hb dX0_lay_22 (by decide) ?_
  refine th_govH hS rfl (th_runS (As := [.ref gr, .int 0]) (rest := []) C hS.1 gS_RX0_52 (t_X4_fill li_0 hp4 (by decide)) hl rfl rfl rfl rfl ⟨Nat.le_of_ble_eq_true rfl, Nat.le_of_ble_eq_true rfl⟩ (Nat.le_of_ble_eq_true rfl) ⟨Nat.le_of_ble_eq_true rfl, Nat.le_of_ble_eq_true rfl⟩ dX0_lay_23) (fun K2968 V2969 H locs1 hq2967 hE2970 hS => ?_)
  obtain ⟨rfl, hF2971⟩ := hq2967
  refine lv_aload_n hx hb dX0_lay_26 rfl (lv_at hl 0 rfl) ?_
  have hv2973 : V2950 la 7 = .ref wa := Eq.trans (uq_ne hV2951 (Or.inr (by decide))) hp5
  have hv2974 : V2952 la 7 = .ref wa := Eq.trans (uq_ne hV2953 (Or.inr (by decide))) hv2973
  have hv2975 : V2959 la 7 = .ref wa := Eq.trans (congrFun (hF2961 _ (by rw [hp0]; exact fun h => by cases h) (K_ne hp0 hp2 (by decide))) 7) hv2974
  have hv2976 : V2969 la 7 = .ref wa := Eq.trans (congrFun (hF2971 _ (by rw [hp0]; exact fun h => by cases h) (K_ne hp0 hp4 (by decide))) 7) hv2975
  refine th_get C hS.1 hp0 fl_RX0_34 hv2976 dX0_lay_27 ?_
  refine lv_iconst (v := (-1)) hx hb dX0_lay_30 (by decide) ?_
  refine th_govH hS rfl (th_runS (As := [.ref wa, .int (-1)]) (rest := []) C hS.1 gS_RX0_52 (t_X4_fill li_n1 hp6 (by decide)) hl rfl rfl rfl rfl ⟨Nat.le_of_ble_eq_true rfl, Nat.le_of_ble_eq_true rfl⟩ (Nat.le_of_ble_eq_true rfl) ⟨Nat.le_of_ble_eq_true rfl, Nat.le_of_ble_eq_true rfl⟩ dX0_lay_31) (fun K2979 V2980 H locs1 hq2978 hE2981 hS => ?_)
  obtain ⟨rfl, hF2982⟩ := hq2978
  refine lv_aload_n hx hb dX0_lay_34 rfl (lv_at hl 0 rfl) ?_
  have hv2984 : V2950 la 8 = .ref fd := Eq.trans (uq_ne hV2951 (Or.inr (by decide))) hp7
  have hv2985 : V2952 la 8 = .ref fd := Eq.trans (uq_ne hV2953 (Or.inr (by decide))) hv2984
  have hv2986 : V2959 la 8 = .ref fd := Eq.trans (congrFun (hF2961 _ (by rw [hp0]; exact fun h => by cases h) (K_ne hp0 hp2 (by decide))) 8) hv2985
  have hv2987 : V2969 la 8 = .ref fd := Eq.trans (congrFun (hF2971 _ (by rw [hp0]; exact fun h => by cases h) (K_ne hp0 hp4 (by decide))) 8) hv2986
  have hv2988 : V2980 la 8 = .ref fd := Eq.trans (congrFun (hF2982 _ (by rw [hp0]; exact fun h => by cases h) (K_ne hp0 hp6 (by decide))) 8) hv2987
  refine th_get C hS.1 hp0 fl_RX0_37 hv2988 dX0_lay_35 ?_
  refine lv_iconst (v := 0) hx hb dX0_lay_38 (by decide) ?_
  refine th_govH hS rfl (th_runS (As := [.ref fd, .int 0]) (rest := []) C hS.1 gS_RX0_52 (t_X4_fill li_0 hp8 (by decide)) hl rfl rfl rfl rfl ⟨Nat.le_of_ble_eq_true rfl, Nat.le_of_ble_eq_true rfl⟩ (Nat.le_of_ble_eq_true rfl) ⟨Nat.le_of_ble_eq_true rfl, Nat.le_of_ble_eq_true rfl⟩ dX0_lay_39) (fun K2991 V2992 H locs1 hq2990 hE2993 hS => ?_)
  obtain ⟨rfl, hF2994⟩ := hq2990
  exact th_retvH (post := fun K1 V1 => K = K1 ∧ (∀ b, K b ≠ none → b ≠ la → b ≠ he → b ≠ gr → b ≠ wa → b ≠ fd → V1 b = V b)) (cells := 0) (slots := 0) (mc := 0) (ms := 0) C hS ⟨rfl, (fun b hb hm0 hm1 hm2 hm3 hm4 => Eq.trans (hF2994 _ hb hm4) (Eq.trans (hF2982 _ hb hm3) (Eq.trans (hF2971 _ hb hm2) (Eq.trans (hF2961 _ hb hm1) (Eq.trans (uq_other hV2953 hm0) ((uq_other hV2951 hm0)))))))⟩ (Nat.le_of_ble_eq_true rfl) (Nat.le_of_ble_eq_true rfl) dX0_lay_42

set_option maxHeartbeats 400000 in
set_option maxRecDepth 100000 in
theorem t_X11_ice {l : Launch} {D : va_G} {dA : Nat → ClassId} {K : Kmap} {V : Vmap} {sz : Nat} {x : Nat} {w h : Int32} {w_i h_i : Int} (iz_w : w.toInt = w_i) (iz_h : h.toInt = h_i) (F : FX K V x) : Met l yX11_ice (wsOf yX11_ice cX11_ice 3 (some .boolean)) { frames := 2, cells := 0, slots := 0, locals := 44 } (PC D dA K V sz [.ref x, .int w, .int h]) (HQi D dA K (fun r K1 V1 => (∀ b, K b = some (0, 11) → V1 b = V b) ∧ ((((4 ≤ w_i ∧ w_i ≤ 12) ∧ (4 ≤ h_i ∧ h_i ≤ 12)) ∧ r.toInt = 1) ∨ (((4 > w_i ∨ w_i > 12) ∨ (4 > h_i ∨ h_i > 12)) ∧ r.toInt = 0)))) 0 0 (AK K sz) := by
  refine th_body (by decide +kernel) (Nat.le_of_ble_eq_true rfl) (fun pZ eZ sZ mZ belowZ methZ cZ C hR hsz hnm ls hl => ?_)
  have C : CX pZ sZ mZ [.ref x, .int w, .int h].toArray methZ cZ cX11_ice 3 (some .boolean) RX11 D dA := C
  have hx := C.1; have hb := C.2.1
  have hl : lv_has ls 3 [(0, .ref x), (1, .int w), (2, .int h)] := hl
  subst hsz
  have hS : ST D dA K sZ.heap K V sZ.heap [] := ST.rf hR
  have r_w := th_rng w; rw [iz_w] at r_w
  have r_h := th_rng h; rw [iz_h] at r_h
  have F0 := F
  obtain ⟨ad, hF⟩ := F
  refine lv_iload_n hx hb dX11_ice_0 rfl (lv_at hl 1 rfl) ?_
  refine lv_iconst (v := 4) hx hb dX11_ice_1 (by decide) ?_
  refine lv_bipush (v := 12) hx hb dX11_ice_2 (by decide) ?_
  refine th_goi (th_runS (As := [.int w, .int 4, .int 12]) (rest := []) C hS.1 gS_RX11_112 (t_X11_between iz_w li_4 li_12) hl rfl rfl rfl rfl ⟨Nat.le_of_ble_eq_true rfl, Nat.le_of_ble_eq_true rfl⟩ (Nat.le_of_ble_eq_true rfl) ⟨Nat.le_of_ble_eq_true rfl, Nat.le_of_ble_eq_true rfl⟩ dX11_ice_4) (fun r2996 hq2997 => ?_)
  refine th_if_eq (X := r2996.toInt) (tgt := 34) hx hb dX11_ice_7 (by decide) rfl (fun c2998 => ?_) (fun c2998 => ?_)
  · replace hq2997 := Or.resolve_left hq2997 (fun h => absurd h.2 (by omega))
    refine lv_iconst (v := 0) hx hb dX11_ice_34 (by decide) ?_
    exact th_retzH (post := fun r K1 V1 => (∀ b, K b = some (0, 11) → V1 b = V b) ∧ ((((4 ≤ w_i ∧ w_i ≤ 12) ∧ (4 ≤ h_i ∧ h_i ≤ 12)) ∧ r.toInt = 1) ∨ (((4 > w_i ∨ w_i > 12) ∨ (4 > h_i ∨ h_i > 12)) ∧ r.toInt = 0))) (cells := 0) (slots := 0) (mc := 0) (ms := 0) C hS (by have hfin := li_0; omega) ⟨(fun b hb => rfl), (Or.inr (⟨by omega, li_0⟩))⟩ (Nat.le_of_ble_eq_true rfl) (Nat.le_of_ble_eq_true rfl) dX11_ice_35
  · replace hq2997 := Or.resolve_right hq2997 (fun h => absurd h.2 (by omega))
    refine lv_iload_n hx hb dX11_ice_10 rfl (lv_at hl 2 rfl) ?_
    refine lv_iconst (v := 4) hx hb dX11_ice_11 (by decide) ?_
    refine lv_bipush (v := 12) hx hb dX11_ice_12 (by decide) ?_
    refine th_goi (th_runS (As := [.int h, .int 4, .int 12]) (rest := []) C hS.1 gS_RX11_112 (t_X11_between iz_h li_4 li_12) hl rfl rfl rfl rfl ⟨Nat.le_of_ble_eq_true rfl, Nat.le_of_ble_eq_true rfl⟩ (Nat.le_of_ble_eq_true rfl) ⟨Nat.le_of_ble_eq_true rfl, Nat.le_of_ble_eq_true rfl⟩ dX11_ice_14) (fun r2999 hq3000 => ?_)
    refine th_if_eq (X := r2999.toInt) (tgt := 34) hx hb dX11_ice_17 (by decide) rfl (fun c3001 => ?_) (fun c3001 => ?_)
    · replace hq3000 := Or.resolve_left hq3000 (fun h => absurd h.2 (by omega))
      refine lv_iconst (v := 0) hx hb dX11_ice_34 (by decide) ?_
      exact th_retzH (post := fun r K1 V1 => (∀ b, K b = some (0, 11) → V1 b = V b) ∧ ((((4 ≤ w_i ∧ w_i ≤ 12) ∧ (4 ≤ h_i ∧ h_i ≤ 12)) ∧ r.toInt = 1) ∨ (((4 > w_i ∨ w_i > 12) ∨ (4 > h_i ∨ h_i > 12)) ∧ r.toInt = 0))) (cells := 0) (slots := 0) (mc := 0) (ms := 0) C hS (by have hfin := li_0; omega) ⟨(fun b hb => rfl), (Or.inr (⟨by omega, li_0⟩))⟩ (Nat.le_of_ble_eq_true rfl) (Nat.le_of_ble_eq_true rfl) dX11_ice_35
    · replace hq3000 := Or.resolve_right hq3000 (fun h => absurd h.2 (by omega))
      refine lv_aload_n hx hb dX11_ice_20 rfl (lv_at hl 0 rfl) ?_
      refine th_get C hS.1 (FX.f0 hF) fl_RX11_46 (FX.f34 hF) dX11_ice_21 ?_
      refine th_if_gt (X := 0) (tgt := 34) hx hb dX11_ice_24 (by decide) li_0 (fun c3002 => absurd c3002 (by omega)) (fun c3002 => ?_)
      refine lv_aload_n hx hb dX11_ice_27 rfl (lv_at hl 0 rfl) ?_
      refine th_get C hS.1 (FX.f0 hF) fl_RX11_55 (FX.f35 hF) dX11_ice_28 ?_
      refine th_if_le (X := 0) (tgt := 36) hx hb dX11_ice_31 (by decide) li_0 (fun c3003 => ?_) (fun c3003 => absurd c3003 (by omega))
      refine lv_aload_n hx hb dX11_ice_36 rfl (lv_at hl 0 rfl) ?_
      refine th_get C hS.1 (FX.f0 hF) fl_RX11_12 (FX.f1 hF) dX11_ice_37 ?_
      refine lv_iload_n hx hb dX11_ice_40 rfl (lv_at hl 1 rfl) ?_
      refine lv_iload_n hx hb dX11_ice_41 rfl (lv_at hl 2 rfl) ?_
      refine th_govH hS rfl (th_runV (As := [.int w, .int h]) (rest := []) C hS.1 (RX0, TX0, 13) rfl gV_RX11_116 (FX.f2 hF) (t_X0_lay iz_w iz_h (FX.f2 hF) (FX.f6 hF) (FX.f7 hF) (FX.f8 hF) (FX.f9 hF) (FX.f10 hF) (FX.f11 hF) (FX.f12 hF) (FX.f13 hF)) hl rfl rfl rfl rfl ⟨Nat.le_of_ble_eq_true rfl, Nat.le_of_ble_eq_true rfl⟩ (Nat.le_of_ble_eq_true rfl) ⟨Nat.le_of_ble_eq_true rfl, Nat.le_of_ble_eq_true rfl⟩ dX11_ice_42) (fun K3006 V3007 H locs1 hq3005 hE3008 hS => ?_)
      obtain ⟨rfl, hF3009⟩ := hq3005
      refine lv_iconst (v := 1) hx hb dX11_ice_45 (by decide) ?_
      exact th_retzH (post := fun r K1 V1 => (∀ b, K b = some (0, 11) → V1 b = V b) ∧ ((((4 ≤ w_i ∧ w_i ≤ 12) ∧ (4 ≤ h_i ∧ h_i ≤ 12)) ∧ r.toInt = 1) ∨ (((4 > w_i ∨ w_i > 12) ∨ (4 > h_i ∨ h_i > 12)) ∧ r.toInt = 0))) (cells := 0) (slots := 0) (mc := 0) (ms := 0) C hS (by have hfin := li_1; omega) ⟨(fun b hb  => (hF3009 _ (by rw [hb]; exact fun h => by cases h) (K_ne hb (FX.f2 hF) (by decide)) (K_ne hb (FX.f7 hF) (by decide)) (K_ne hb (FX.f9 hF) (by decide)) (K_ne hb (FX.f11 hF) (by decide)) (K_ne hb (FX.f13 hF) (by decide)))), (Or.inl ⟨by omega, li_1⟩)⟩ (Nat.le_of_ble_eq_true rfl) (Nat.le_of_ble_eq_true rfl) dX11_ice_46

set_option maxHeartbeats 400000 in
set_option maxRecDepth 100000 in
theorem t_X11_cell {l : Launch} {D : va_G} {dA : Nat → ClassId} {K : Kmap} {V : Vmap} {sz : Nat} {x : Nat} {c up gd way dy : Int32} {c_i up_i gd_i way_i dy_i : Int} (iz_c : c.toInt = c_i) (iz_up : up.toInt = up_i) (iz_gd : gd.toInt = gd_i) (iz_way : way.toInt = way_i) (iz_dy : dy.toInt = dy_i) (F : FX K V x) : Met l yX11_cell (wsOf yX11_cell cX11_cell 8 (some .boolean)) { frames := 1, cells := 0, slots := 0, locals := 22 } (PC D dA K V sz [.ref x, .int c, .int up, .int gd, .int way, .int dy]) (HQi D dA K (fun r K1 V1 => (∀ b, K b = some (0, 11) → V1 b = V b) ∧ ((((0 ≤ c_i ∧ c_i ≤ 63) ∧ (0 ≤ up_i ∧ up_i ≤ 40) ∧ (0 ≤ gd_i ∧ gd_i ≤ 3) ∧ ((way_i = (-1) ∧ dy_i = 0) ∨ ((0 ≤ way_i ∧ way_i ≤ 7) ∧ (10 ≤ dy_i ∧ dy_i ≤ 3600)))) ∧ r.toInt = 1) ∨ (((0 > c_i ∨ c_i > 63) ∨ (0 > up_i ∨ up_i > 40) ∨ (0 > gd_i ∨ gd_i > 3) ∨ ((way_i ≠ (-1) ∨ dy_i ≠ 0) ∧ ((0 > way_i ∨ way_i > 7) ∨ (10 > dy_i ∨ dy_i > 3600)))) ∧ r.toInt = 0)))) 0 0 (AK K sz) := by
  refine th_body (by decide +kernel) (Nat.le_of_ble_eq_true rfl) (fun pZ eZ sZ mZ belowZ methZ cZ C hR hsz hnm ls hl => ?_)
  have C : CX pZ sZ mZ [.ref x, .int c, .int up, .int gd, .int way, .int dy].toArray methZ cZ cX11_cell 8 (some .boolean) RX11 D dA := C
  have hx := C.1; have hb := C.2.1
  have hl : lv_has ls 8 [(0, .ref x), (1, .int c), (2, .int up), (3, .int gd), (4, .int way), (5, .int dy)] := hl
  subst hsz
  have hS : ST D dA K sZ.heap K V sZ.heap [] := ST.rf hR
  have r_c := th_rng c; rw [iz_c] at r_c
  have r_up := th_rng up; rw [iz_up] at r_up
  have r_gd := th_rng gd; rw [iz_gd] at r_gd
  have r_way := th_rng way; rw [iz_way] at r_way
  have r_dy := th_rng dy; rw [iz_dy] at r_dy
  have F0 := F
  obtain ⟨ad, hF⟩ := F
  refine lv_iload hx hb dX11_cell_0 (lv_at hl 4 rfl) ?_
  refine lv_iconst (v := (-1)) hx hb dX11_cell_2 (by decide) ?_
  refine th_icmp_ne (X := way_i) (Y := (-1)) (tgt := 15) hx hb dX11_cell_3 (by decide) iz_way li_n1 (fun c3011 => ?_) (fun c3011 => ?_)
  · refine lv_iconst (v := 0) hx hb dX11_cell_15 (by decide) ?_
    refine lv_istore (lv' := [(6, .int 0), (0, .ref x), (1, .int c), (2, .int up), (3, .int gd), (4, .int way), (5, .int dy)]) hx hb dX11_cell_16 hl (by decide) rfl (fun ls hl => ?_)
    refine lv_iload hx hb dX11_cell_18 (lv_at hl 5 rfl) ?_
    refine lv_iconst (v := 0) hx hb dX11_cell_20 (by decide) ?_
    refine lv_bipush (v := 7) hx hb dX11_cell_21 (by decide) ?_
    refine th_goi (th_runS (As := [.int way, .int 0, .int 7]) (rest := []) C hS.1 gS_RX11_112 (t_X11_between iz_way li_0 li_7) hl rfl rfl rfl rfl ⟨Nat.le_of_ble_eq_true rfl, Nat.le_of_ble_eq_true rfl⟩ (Nat.le_of_ble_eq_true rfl) ⟨Nat.le_of_ble_eq_true rfl, Nat.le_of_ble_eq_true rfl⟩ dX11_cell_23) (fun r3012 hq3013 => ?_)
    refine th_if_eq (X := r3012.toInt) (tgt := 46) hx hb dX11_cell_26 (by decide) rfl (fun c3014 => ?_) (fun c3014 => ?_)
    · replace hq3013 := Or.resolve_left hq3013 (fun h => absurd h.2 (by omega))
      refine lv_iconst (v := 0) hx hb dX11_cell_46 (by decide) ?_
      refine lv_istore (lv' := [(7, .int 0), (6, .int 0), (0, .ref x), (1, .int c), (2, .int up), (3, .int gd), (4, .int way), (5, .int dy)]) hx hb dX11_cell_47 hl (by decide) rfl (fun ls hl => ?_)
      refine lv_aload_n hx hb dX11_cell_49 rfl (lv_at hl 2 rfl) ?_
      refine th_get C hS.1 (FX.f0 hF) fl_RX11_12 (FX.f1 hF) dX11_cell_50 ?_
      refine lv_iload_n hx hb dX11_cell_53 rfl (lv_at hl 3 rfl) ?_
      refine th_goi (th_runV (As := [.int c]) (rest := []) C hS.1 (RX0, TX0, 13) rfl gV_RX11_119 (FX.f2 hF) (t_X0_isCell iz_c (FX.f2 hF) (FX.f4 hF) (FX.f5 hF)) hl rfl rfl rfl rfl ⟨Nat.le_of_ble_eq_true rfl, Nat.le_of_ble_eq_true rfl⟩ (Nat.le_of_ble_eq_true rfl) ⟨Nat.le_of_ble_eq_true rfl, Nat.le_of_ble_eq_true rfl⟩ dX11_cell_54) (fun r3015 hq3016 => ?_)
      refine th_if_eq (X := r3015.toInt) (tgt := 89) hx hb dX11_cell_57 (by decide) rfl (fun c3017 => ?_) (fun c3017 => ?_)
      · replace hq3016 := Or.resolve_left hq3016 (fun h => absurd h.2 (by omega))
        refine lv_iconst (v := 0) hx hb dX11_cell_89 (by decide) ?_
        exact th_retzH (post := fun r K1 V1 => (∀ b, K b = some (0, 11) → V1 b = V b) ∧ ((((0 ≤ c_i ∧ c_i ≤ 63) ∧ (0 ≤ up_i ∧ up_i ≤ 40) ∧ (0 ≤ gd_i ∧ gd_i ≤ 3) ∧ ((way_i = (-1) ∧ dy_i = 0) ∨ ((0 ≤ way_i ∧ way_i ≤ 7) ∧ (10 ≤ dy_i ∧ dy_i ≤ 3600)))) ∧ r.toInt = 1) ∨ (((0 > c_i ∨ c_i > 63) ∨ (0 > up_i ∨ up_i > 40) ∨ (0 > gd_i ∨ gd_i > 3) ∨ ((way_i ≠ (-1) ∨ dy_i ≠ 0) ∧ ((0 > way_i ∨ way_i > 7) ∨ (10 > dy_i ∨ dy_i > 3600)))) ∧ r.toInt = 0))) (cells := 0) (slots := 0) (mc := 0) (ms := 0) C hS (by have hfin := li_0; omega) ⟨(fun b hb => rfl), (Or.inr (⟨by omega, li_0⟩))⟩ (Nat.le_of_ble_eq_true rfl) (Nat.le_of_ble_eq_true rfl) dX11_cell_90
      · replace hq3016 := Or.resolve_right hq3016 (fun h => absurd h.2 (by omega))
        refine lv_iload_n hx hb dX11_cell_60 rfl (lv_at hl 4 rfl) ?_
        refine lv_iconst (v := 0) hx hb dX11_cell_61 (by decide) ?_
        refine lv_bipush (v := 40) hx hb dX11_cell_62 (by decide) ?_
        refine th_goi (th_runS (As := [.int up, .int 0, .int 40]) (rest := []) C hS.1 gS_RX11_112 (t_X11_between iz_up li_0 li_40) hl rfl rfl rfl rfl ⟨Nat.le_of_ble_eq_true rfl, Nat.le_of_ble_eq_true rfl⟩ (Nat.le_of_ble_eq_true rfl) ⟨Nat.le_of_ble_eq_true rfl, Nat.le_of_ble_eq_true rfl⟩ dX11_cell_64) (fun r3018 hq3019 => ?_)
        refine th_if_eq (X := r3018.toInt) (tgt := 89) hx hb dX11_cell_67 (by decide) rfl (fun c3020 => ?_) (fun c3020 => ?_)
        · replace hq3019 := Or.resolve_left hq3019 (fun h => absurd h.2 (by omega))
          refine lv_iconst (v := 0) hx hb dX11_cell_89 (by decide) ?_
          exact th_retzH (post := fun r K1 V1 => (∀ b, K b = some (0, 11) → V1 b = V b) ∧ ((((0 ≤ c_i ∧ c_i ≤ 63) ∧ (0 ≤ up_i ∧ up_i ≤ 40) ∧ (0 ≤ gd_i ∧ gd_i ≤ 3) ∧ ((way_i = (-1) ∧ dy_i = 0) ∨ ((0 ≤ way_i ∧ way_i ≤ 7) ∧ (10 ≤ dy_i ∧ dy_i ≤ 3600)))) ∧ r.toInt = 1) ∨ (((0 > c_i ∨ c_i > 63) ∨ (0 > up_i ∨ up_i > 40) ∨ (0 > gd_i ∨ gd_i > 3) ∨ ((way_i ≠ (-1) ∨ dy_i ≠ 0) ∧ ((0 > way_i ∨ way_i > 7) ∨ (10 > dy_i ∨ dy_i > 3600)))) ∧ r.toInt = 0))) (cells := 0) (slots := 0) (mc := 0) (ms := 0) C hS (by have hfin := li_0; omega) ⟨(fun b hb => rfl), (Or.inr (⟨by omega, li_0⟩))⟩ (Nat.le_of_ble_eq_true rfl) (Nat.le_of_ble_eq_true rfl) dX11_cell_90
        · replace hq3019 := Or.resolve_right hq3019 (fun h => absurd h.2 (by omega))
          refine lv_iload_n hx hb dX11_cell_70 rfl (lv_at hl 5 rfl) ?_
          refine lv_iconst (v := 0) hx hb dX11_cell_71 (by decide) ?_
          refine lv_iconst (v := 3) hx hb dX11_cell_72 (by decide) ?_
          refine th_goi (th_runS (As := [.int gd, .int 0, .int 3]) (rest := []) C hS.1 gS_RX11_112 (t_X11_between iz_gd li_0 li_3) hl rfl rfl rfl rfl ⟨Nat.le_of_ble_eq_true rfl, Nat.le_of_ble_eq_true rfl⟩ (Nat.le_of_ble_eq_true rfl) ⟨Nat.le_of_ble_eq_true rfl, Nat.le_of_ble_eq_true rfl⟩ dX11_cell_73) (fun r3021 hq3022 => ?_)
          refine th_if_eq (X := r3021.toInt) (tgt := 89) hx hb dX11_cell_76 (by decide) rfl (fun c3023 => ?_) (fun c3023 => ?_)
          · replace hq3022 := Or.resolve_left hq3022 (fun h => absurd h.2 (by omega))
            refine lv_iconst (v := 0) hx hb dX11_cell_89 (by decide) ?_
            exact th_retzH (post := fun r K1 V1 => (∀ b, K b = some (0, 11) → V1 b = V b) ∧ ((((0 ≤ c_i ∧ c_i ≤ 63) ∧ (0 ≤ up_i ∧ up_i ≤ 40) ∧ (0 ≤ gd_i ∧ gd_i ≤ 3) ∧ ((way_i = (-1) ∧ dy_i = 0) ∨ ((0 ≤ way_i ∧ way_i ≤ 7) ∧ (10 ≤ dy_i ∧ dy_i ≤ 3600)))) ∧ r.toInt = 1) ∨ (((0 > c_i ∨ c_i > 63) ∨ (0 > up_i ∨ up_i > 40) ∨ (0 > gd_i ∨ gd_i > 3) ∨ ((way_i ≠ (-1) ∨ dy_i ≠ 0) ∧ ((0 > way_i ∨ way_i > 7) ∨ (10 > dy_i ∨ dy_i > 3600)))) ∧ r.toInt = 0))) (cells := 0) (slots := 0) (mc := 0) (ms := 0) C hS (by have hfin := li_0; omega) ⟨(fun b hb => rfl), (Or.inr (⟨by omega, li_0⟩))⟩ (Nat.le_of_ble_eq_true rfl) (Nat.le_of_ble_eq_true rfl) dX11_cell_90
          · replace hq3022 := Or.resolve_right hq3022 (fun h => absurd h.2 (by omega))
            refine lv_iload hx hb dX11_cell_79 (lv_at hl 1 rfl) ?_
            refine th_if_ne (X := 0) (tgt := 91) hx hb dX11_cell_81 (by decide) li_0 (fun c3024 => ?_) (fun c3024 => ?_)
            · refine lv_aload_n hx hb dX11_cell_91 rfl (lv_at hl 2 rfl) ?_
              refine th_get C hS.1 (FX.f0 hF) fl_RX11_12 (FX.f1 hF) dX11_cell_92 ?_
              refine th_get C hS.1 (FX.f2 hF) fl_RX11_123 (FX.f6 hF) dX11_cell_95 ?_
              refine lv_iload_n hx hb dX11_cell_98 rfl (lv_at hl 3 rfl) ?_
              refine lv_iload_n hx hb dX11_cell_99 rfl (lv_at hl 4 rfl) ?_
              refine th_govH hS rfl (th_runS (As := [.ref (ad 1), .int c, .int up]) (rest := []) C hS.1 gS_RX11_108 (t_X4_put iz_c iz_up (FX.f7 hF) (by decide)) hl rfl rfl rfl rfl ⟨Nat.le_of_ble_eq_true rfl, Nat.le_of_ble_eq_true rfl⟩ (Nat.le_of_ble_eq_true rfl) ⟨Nat.le_of_ble_eq_true rfl, Nat.le_of_ble_eq_true rfl⟩ dX11_cell_100) (fun K3027 V3028 H locs1 hq3026 hE3029 hS => ?_)
              obtain ⟨rfl, hF3030⟩ := hq3026
              refine lv_aload_n hx hb dX11_cell_103 rfl (lv_at hl 2 rfl) ?_
              have hv3032 : V3028 x 0 = .ref (ad 0) := Eq.trans (congrFun (hF3030 _ (by rw [(FX.f0 hF)]; exact fun h => by cases h) (K_ne (FX.f0 hF) (FX.f7 hF) (by decide))) 0) (FX.f1 hF)
              refine th_get C hS.1 (FX.f0 hF) fl_RX11_12 hv3032 dX11_cell_104 ?_
              have hv3033 : V3028 (ad 0) 6 = .ref (ad 2) := Eq.trans (congrFun (hF3030 _ (by rw [(FX.f2 hF)]; exact fun h => by cases h) (K_ne (FX.f2 hF) (FX.f7 hF) (by decide))) 6) (FX.f8 hF)
              refine th_get C hS.1 (FX.f2 hF) fl_RX11_126 hv3033 dX11_cell_107 ?_
              refine lv_iload_n hx hb dX11_cell_110 rfl (lv_at hl 3 rfl) ?_
              refine lv_iload_n hx hb dX11_cell_111 rfl (lv_at hl 5 rfl) ?_
              refine th_govH hS rfl (th_runS (As := [.ref (ad 2), .int c, .int gd]) (rest := []) C hS.1 gS_RX11_108 (t_X4_put iz_c iz_gd (FX.f9 hF) (by decide)) hl rfl rfl rfl rfl ⟨Nat.le_of_ble_eq_true rfl, Nat.le_of_ble_eq_true rfl⟩ (Nat.le_of_ble_eq_true rfl) ⟨Nat.le_of_ble_eq_true rfl, Nat.le_of_ble_eq_true rfl⟩ dX11_cell_112) (fun K3036 V3037 H locs1 hq3035 hE3038 hS => ?_)
              obtain ⟨rfl, hF3039⟩ := hq3035
              refine lv_aload_n hx hb dX11_cell_115 rfl (lv_at hl 2 rfl) ?_
              have hv3041 : V3037 x 0 = .ref (ad 0) := Eq.trans (congrFun (hF3039 _ (by rw [(FX.f0 hF)]; exact fun h => by cases h) (K_ne (FX.f0 hF) (FX.f9 hF) (by decide))) 0) hv3032
              refine th_get C hS.1 (FX.f0 hF) fl_RX11_12 hv3041 dX11_cell_116 ?_
              have hv3042 : V3028 (ad 0) 7 = .ref (ad 3) := Eq.trans (congrFun (hF3030 _ (by rw [(FX.f2 hF)]; exact fun h => by cases h) (K_ne (FX.f2 hF) (FX.f7 hF) (by decide))) 7) (FX.f10 hF)
              have hv3043 : V3037 (ad 0) 7 = .ref (ad 3) := Eq.trans (congrFun (hF3039 _ (by rw [(FX.f2 hF)]; exact fun h => by cases h) (K_ne (FX.f2 hF) (FX.f9 hF) (by decide))) 7) hv3042
              refine th_get C hS.1 (FX.f2 hF) fl_RX11_129 hv3043 dX11_cell_119 ?_
              refine lv_iload_n hx hb dX11_cell_122 rfl (lv_at hl 3 rfl) ?_
              refine lv_iload hx hb dX11_cell_123 (lv_at hl 6 rfl) ?_
              refine th_govH hS rfl (th_runS (As := [.ref (ad 3), .int c, .int way]) (rest := []) C hS.1 gS_RX11_108 (t_X4_put iz_c iz_way (FX.f11 hF) (by decide)) hl rfl rfl rfl rfl ⟨Nat.le_of_ble_eq_true rfl, Nat.le_of_ble_eq_true rfl⟩ (Nat.le_of_ble_eq_true rfl) ⟨Nat.le_of_ble_eq_true rfl, Nat.le_of_ble_eq_true rfl⟩ dX11_cell_125) (fun K3046 V3047 H locs1 hq3045 hE3048 hS => ?_)
              obtain ⟨rfl, hF3049⟩ := hq3045
              refine lv_aload_n hx hb dX11_cell_128 rfl (lv_at hl 2 rfl) ?_
              have hv3051 : V3047 x 0 = .ref (ad 0) := Eq.trans (congrFun (hF3049 _ (by rw [(FX.f0 hF)]; exact fun h => by cases h) (K_ne (FX.f0 hF) (FX.f11 hF) (by decide))) 0) hv3041
              refine th_get C hS.1 (FX.f0 hF) fl_RX11_12 hv3051 dX11_cell_129 ?_
              have hv3052 : V3028 (ad 0) 8 = .ref (ad 4) := Eq.trans (congrFun (hF3030 _ (by rw [(FX.f2 hF)]; exact fun h => by cases h) (K_ne (FX.f2 hF) (FX.f7 hF) (by decide))) 8) (FX.f12 hF)
              have hv3053 : V3037 (ad 0) 8 = .ref (ad 4) := Eq.trans (congrFun (hF3039 _ (by rw [(FX.f2 hF)]; exact fun h => by cases h) (K_ne (FX.f2 hF) (FX.f9 hF) (by decide))) 8) hv3052
              have hv3054 : V3047 (ad 0) 8 = .ref (ad 4) := Eq.trans (congrFun (hF3049 _ (by rw [(FX.f2 hF)]; exact fun h => by cases h) (K_ne (FX.f2 hF) (FX.f11 hF) (by decide))) 8) hv3053
              refine th_get C hS.1 (FX.f2 hF) fl_RX11_132 hv3054 dX11_cell_132 ?_
              refine lv_iload_n hx hb dX11_cell_135 rfl (lv_at hl 3 rfl) ?_
              refine lv_iload hx hb dX11_cell_136 (lv_at hl 7 rfl) ?_
              refine th_govH hS rfl (th_runS (As := [.ref (ad 4), .int c, .int dy]) (rest := []) C hS.1 gS_RX11_108 (t_X4_put iz_c iz_dy (FX.f13 hF) (by decide)) hl rfl rfl rfl rfl ⟨Nat.le_of_ble_eq_true rfl, Nat.le_of_ble_eq_true rfl⟩ (Nat.le_of_ble_eq_true rfl) ⟨Nat.le_of_ble_eq_true rfl, Nat.le_of_ble_eq_true rfl⟩ dX11_cell_138) (fun K3057 V3058 H locs1 hq3056 hE3059 hS => ?_)
              obtain ⟨rfl, hF3060⟩ := hq3056
              refine lv_iconst (v := 1) hx hb dX11_cell_141 (by decide) ?_
              exact th_retzH (post := fun r K1 V1 => (∀ b, K b = some (0, 11) → V1 b = V b) ∧ ((((0 ≤ c_i ∧ c_i ≤ 63) ∧ (0 ≤ up_i ∧ up_i ≤ 40) ∧ (0 ≤ gd_i ∧ gd_i ≤ 3) ∧ ((way_i = (-1) ∧ dy_i = 0) ∨ ((0 ≤ way_i ∧ way_i ≤ 7) ∧ (10 ≤ dy_i ∧ dy_i ≤ 3600)))) ∧ r.toInt = 1) ∨ (((0 > c_i ∨ c_i > 63) ∨ (0 > up_i ∨ up_i > 40) ∨ (0 > gd_i ∨ gd_i > 3) ∨ ((way_i ≠ (-1) ∨ dy_i ≠ 0) ∧ ((0 > way_i ∨ way_i > 7) ∨ (10 > dy_i ∨ dy_i > 3600)))) ∧ r.toInt = 0))) (cells := 0) (slots := 0) (mc := 0) (ms := 0) C hS (by have hfin := li_1; omega) ⟨(fun b hb  => Eq.trans (hF3060 _ (by rw [hb]; exact fun h => by cases h) (K_ne hb (FX.f13 hF) (by decide))) (Eq.trans (hF3049 _ (by rw [hb]; exact fun h => by cases h) (K_ne hb (FX.f11 hF) (by decide))) (Eq.trans (hF3039 _ (by rw [hb]; exact fun h => by cases h) (K_ne hb (FX.f9 hF) (by decide))) ((hF3030 _ (by rw [hb]; exact fun h => by cases h) (K_ne hb (FX.f7 hF) (by decide))))))), (Or.inl ⟨by omega, li_1⟩)⟩ (Nat.le_of_ble_eq_true rfl) (Nat.le_of_ble_eq_true rfl) dX11_cell_142
            · refine lv_iload hx hb dX11_cell_84 (lv_at hl 0 rfl) ?_
              refine th_if_ne (X := 0) (tgt := 91) hx hb dX11_cell_86 (by decide) li_0 (fun c3062 => ?_) (fun c3062 => ?_)
              · refine lv_aload_n hx hb dX11_cell_91 rfl (lv_at hl 2 rfl) ?_
                refine th_get C hS.1 (FX.f0 hF) fl_RX11_12 (FX.f1 hF) dX11_cell_92 ?_
                refine th_get C hS.1 (FX.f2 hF) fl_RX11_123 (FX.f6 hF) dX11_cell_95 ?_
                refine lv_iload_n hx hb dX11_cell_98 rfl (lv_at hl 3 rfl) ?_
                refine lv_iload_n hx hb dX11_cell_99 rfl (lv_at hl 4 rfl) ?_
                refine th_govH hS rfl (th_runS (As := [.ref (ad 1), .int c, .int up]) (rest := []) C hS.1 gS_RX11_108 (t_X4_put iz_c iz_up (FX.f7 hF) (by decide)) hl rfl rfl rfl rfl ⟨Nat.le_of_ble_eq_true rfl, Nat.le_of_ble_eq_true rfl⟩ (Nat.le_of_ble_eq_true rfl) ⟨Nat.le_of_ble_eq_true rfl, Nat.le_of_ble_eq_true rfl⟩ dX11_cell_100) (fun K3065 V3066 H locs1 hq3064 hE3067 hS => ?_)
                obtain ⟨rfl, hF3068⟩ := hq3064
                refine lv_aload_n hx hb dX11_cell_103 rfl (lv_at hl 2 rfl) ?_
                have hv3070 : V3066 x 0 = .ref (ad 0) := Eq.trans (congrFun (hF3068 _ (by rw [(FX.f0 hF)]; exact fun h => by cases h) (K_ne (FX.f0 hF) (FX.f7 hF) (by decide))) 0) (FX.f1 hF)
                refine th_get C hS.1 (FX.f0 hF) fl_RX11_12 hv3070 dX11_cell_104 ?_
                have hv3071 : V3066 (ad 0) 6 = .ref (ad 2) := Eq.trans (congrFun (hF3068 _ (by rw [(FX.f2 hF)]; exact fun h => by cases h) (K_ne (FX.f2 hF) (FX.f7 hF) (by decide))) 6) (FX.f8 hF)
                refine th_get C hS.1 (FX.f2 hF) fl_RX11_126 hv3071 dX11_cell_107 ?_
                refine lv_iload_n hx hb dX11_cell_110 rfl (lv_at hl 3 rfl) ?_
                refine lv_iload_n hx hb dX11_cell_111 rfl (lv_at hl 5 rfl) ?_
                refine th_govH hS rfl (th_runS (As := [.ref (ad 2), .int c, .int gd]) (rest := []) C hS.1 gS_RX11_108 (t_X4_put iz_c iz_gd (FX.f9 hF) (by decide)) hl rfl rfl rfl rfl ⟨Nat.le_of_ble_eq_true rfl, Nat.le_of_ble_eq_true rfl⟩ (Nat.le_of_ble_eq_true rfl) ⟨Nat.le_of_ble_eq_true rfl, Nat.le_of_ble_eq_true rfl⟩ dX11_cell_112) (fun K3074 V3075 H locs1 hq3073 hE3076 hS => ?_)
                obtain ⟨rfl, hF3077⟩ := hq3073
                refine lv_aload_n hx hb dX11_cell_115 rfl (lv_at hl 2 rfl) ?_
                have hv3079 : V3075 x 0 = .ref (ad 0) := Eq.trans (congrFun (hF3077 _ (by rw [(FX.f0 hF)]; exact fun h => by cases h) (K_ne (FX.f0 hF) (FX.f9 hF) (by decide))) 0) hv3070
                refine th_get C hS.1 (FX.f0 hF) fl_RX11_12 hv3079 dX11_cell_116 ?_
                have hv3080 : V3066 (ad 0) 7 = .ref (ad 3) := Eq.trans (congrFun (hF3068 _ (by rw [(FX.f2 hF)]; exact fun h => by cases h) (K_ne (FX.f2 hF) (FX.f7 hF) (by decide))) 7) (FX.f10 hF)
                have hv3081 : V3075 (ad 0) 7 = .ref (ad 3) := Eq.trans (congrFun (hF3077 _ (by rw [(FX.f2 hF)]; exact fun h => by cases h) (K_ne (FX.f2 hF) (FX.f9 hF) (by decide))) 7) hv3080
                refine th_get C hS.1 (FX.f2 hF) fl_RX11_129 hv3081 dX11_cell_119 ?_
                refine lv_iload_n hx hb dX11_cell_122 rfl (lv_at hl 3 rfl) ?_
                refine lv_iload hx hb dX11_cell_123 (lv_at hl 6 rfl) ?_
                refine th_govH hS rfl (th_runS (As := [.ref (ad 3), .int c, .int way]) (rest := []) C hS.1 gS_RX11_108 (t_X4_put iz_c iz_way (FX.f11 hF) (by decide)) hl rfl rfl rfl rfl ⟨Nat.le_of_ble_eq_true rfl, Nat.le_of_ble_eq_true rfl⟩ (Nat.le_of_ble_eq_true rfl) ⟨Nat.le_of_ble_eq_true rfl, Nat.le_of_ble_eq_true rfl⟩ dX11_cell_125) (fun K3084 V3085 H locs1 hq3083 hE3086 hS => ?_)
                obtain ⟨rfl, hF3087⟩ := hq3083
                refine lv_aload_n hx hb dX11_cell_128 rfl (lv_at hl 2 rfl) ?_
                have hv3089 : V3085 x 0 = .ref (ad 0) := Eq.trans (congrFun (hF3087 _ (by rw [(FX.f0 hF)]; exact fun h => by cases h) (K_ne (FX.f0 hF) (FX.f11 hF) (by decide))) 0) hv3079
                refine th_get C hS.1 (FX.f0 hF) fl_RX11_12 hv3089 dX11_cell_129 ?_
                have hv3090 : V3066 (ad 0) 8 = .ref (ad 4) := Eq.trans (congrFun (hF3068 _ (by rw [(FX.f2 hF)]; exact fun h => by cases h) (K_ne (FX.f2 hF) (FX.f7 hF) (by decide))) 8) (FX.f12 hF)
                have hv3091 : V3075 (ad 0) 8 = .ref (ad 4) := Eq.trans (congrFun (hF3077 _ (by rw [(FX.f2 hF)]; exact fun h => by cases h) (K_ne (FX.f2 hF) (FX.f9 hF) (by decide))) 8) hv3090
                have hv3092 : V3085 (ad 0) 8 = .ref (ad 4) := Eq.trans (congrFun (hF3087 _ (by rw [(FX.f2 hF)]; exact fun h => by cases h) (K_ne (FX.f2 hF) (FX.f11 hF) (by decide))) 8) hv3091
                refine th_get C hS.1 (FX.f2 hF) fl_RX11_132 hv3092 dX11_cell_132 ?_
                refine lv_iload_n hx hb dX11_cell_135 rfl (lv_at hl 3 rfl) ?_
                refine lv_iload hx hb dX11_cell_136 (lv_at hl 7 rfl) ?_
                refine th_govH hS rfl (th_runS (As := [.ref (ad 4), .int c, .int dy]) (rest := []) C hS.1 gS_RX11_108 (t_X4_put iz_c iz_dy (FX.f13 hF) (by decide)) hl rfl rfl rfl rfl ⟨Nat.le_of_ble_eq_true rfl, Nat.le_of_ble_eq_true rfl⟩ (Nat.le_of_ble_eq_true rfl) ⟨Nat.le_of_ble_eq_true rfl, Nat.le_of_ble_eq_true rfl⟩ dX11_cell_138) (fun K3095 V3096 H locs1 hq3094 hE3097 hS => ?_)
                obtain ⟨rfl, hF3098⟩ := hq3094
                refine lv_iconst (v := 1) hx hb dX11_cell_141 (by decide) ?_
                exact th_retzH (post := fun r K1 V1 => (∀ b, K b = some (0, 11) → V1 b = V b) ∧ ((((0 ≤ c_i ∧ c_i ≤ 63) ∧ (0 ≤ up_i ∧ up_i ≤ 40) ∧ (0 ≤ gd_i ∧ gd_i ≤ 3) ∧ ((way_i = (-1) ∧ dy_i = 0) ∨ ((0 ≤ way_i ∧ way_i ≤ 7) ∧ (10 ≤ dy_i ∧ dy_i ≤ 3600)))) ∧ r.toInt = 1) ∨ (((0 > c_i ∨ c_i > 63) ∨ (0 > up_i ∨ up_i > 40) ∨ (0 > gd_i ∨ gd_i > 3) ∨ ((way_i ≠ (-1) ∨ dy_i ≠ 0) ∧ ((0 > way_i ∨ way_i > 7) ∨ (10 > dy_i ∨ dy_i > 3600)))) ∧ r.toInt = 0))) (cells := 0) (slots := 0) (mc := 0) (ms := 0) C hS (by have hfin := li_1; omega) ⟨(fun b hb  => Eq.trans (hF3098 _ (by rw [hb]; exact fun h => by cases h) (K_ne hb (FX.f13 hF) (by decide))) (Eq.trans (hF3087 _ (by rw [hb]; exact fun h => by cases h) (K_ne hb (FX.f11 hF) (by decide))) (Eq.trans (hF3077 _ (by rw [hb]; exact fun h => by cases h) (K_ne hb (FX.f9 hF) (by decide))) ((hF3068 _ (by rw [hb]; exact fun h => by cases h) (K_ne hb (FX.f7 hF) (by decide))))))), (Or.inl ⟨by omega, li_1⟩)⟩ (Nat.le_of_ble_eq_true rfl) (Nat.le_of_ble_eq_true rfl) dX11_cell_142
              · refine lv_iconst (v := 0) hx hb dX11_cell_89 (by decide) ?_
                exact th_retzH (post := fun r K1 V1 => (∀ b, K b = some (0, 11) → V1 b = V b) ∧ ((((0 ≤ c_i ∧ c_i ≤ 63) ∧ (0 ≤ up_i ∧ up_i ≤ 40) ∧ (0 ≤ gd_i ∧ gd_i ≤ 3) ∧ ((way_i = (-1) ∧ dy_i = 0) ∨ ((0 ≤ way_i ∧ way_i ≤ 7) ∧ (10 ≤ dy_i ∧ dy_i ≤ 3600)))) ∧ r.toInt = 1) ∨ (((0 > c_i ∨ c_i > 63) ∨ (0 > up_i ∨ up_i > 40) ∨ (0 > gd_i ∨ gd_i > 3) ∨ ((way_i ≠ (-1) ∨ dy_i ≠ 0) ∧ ((0 > way_i ∨ way_i > 7) ∨ (10 > dy_i ∨ dy_i > 3600)))) ∧ r.toInt = 0))) (cells := 0) (slots := 0) (mc := 0) (ms := 0) C hS (by have hfin := li_0; omega) ⟨(fun b hb => rfl), (Or.inr (⟨by omega, li_0⟩))⟩ (Nat.le_of_ble_eq_true rfl) (Nat.le_of_ble_eq_true rfl) dX11_cell_90
    · replace hq3013 := Or.resolve_right hq3013 (fun h => absurd h.2 (by omega))
      refine lv_iload hx hb dX11_cell_29 (lv_at hl 6 rfl) ?_
      refine lv_bipush (v := 10) hx hb dX11_cell_31 (by decide) ?_
      refine lv_sipush (v := 3600) hx hb dX11_cell_33 (by decide) ?_
      refine th_goi (th_runS (As := [.int dy, .int 10, .int 3600]) (rest := []) C hS.1 gS_RX11_112 (t_X11_between iz_dy li_10 li_3600) hl rfl rfl rfl rfl ⟨Nat.le_of_ble_eq_true rfl, Nat.le_of_ble_eq_true rfl⟩ (Nat.le_of_ble_eq_true rfl) ⟨Nat.le_of_ble_eq_true rfl, Nat.le_of_ble_eq_true rfl⟩ dX11_cell_36) (fun r3100 hq3101 => ?_)
      refine th_if_eq (X := r3100.toInt) (tgt := 46) hx hb dX11_cell_39 (by decide) rfl (fun c3102 => ?_) (fun c3102 => ?_)
      · replace hq3101 := Or.resolve_left hq3101 (fun h => absurd h.2 (by omega))
        refine lv_iconst (v := 0) hx hb dX11_cell_46 (by decide) ?_
        refine lv_istore (lv' := [(7, .int 0), (6, .int 0), (0, .ref x), (1, .int c), (2, .int up), (3, .int gd), (4, .int way), (5, .int dy)]) hx hb dX11_cell_47 hl (by decide) rfl (fun ls hl => ?_)
        refine lv_aload_n hx hb dX11_cell_49 rfl (lv_at hl 2 rfl) ?_
        refine th_get C hS.1 (FX.f0 hF) fl_RX11_12 (FX.f1 hF) dX11_cell_50 ?_
        refine lv_iload_n hx hb dX11_cell_53 rfl (lv_at hl 3 rfl) ?_
        refine th_goi (th_runV (As := [.int c]) (rest := []) C hS.1 (RX0, TX0, 13) rfl gV_RX11_119 (FX.f2 hF) (t_X0_isCell iz_c (FX.f2 hF) (FX.f4 hF) (FX.f5 hF)) hl rfl rfl rfl rfl ⟨Nat.le_of_ble_eq_true rfl, Nat.le_of_ble_eq_true rfl⟩ (Nat.le_of_ble_eq_true rfl) ⟨Nat.le_of_ble_eq_true rfl, Nat.le_of_ble_eq_true rfl⟩ dX11_cell_54) (fun r3103 hq3104 => ?_)
        refine th_if_eq (X := r3103.toInt) (tgt := 89) hx hb dX11_cell_57 (by decide) rfl (fun c3105 => ?_) (fun c3105 => ?_)
        · replace hq3104 := Or.resolve_left hq3104 (fun h => absurd h.2 (by omega))
          refine lv_iconst (v := 0) hx hb dX11_cell_89 (by decide) ?_
          exact th_retzH (post := fun r K1 V1 => (∀ b, K b = some (0, 11) → V1 b = V b) ∧ ((((0 ≤ c_i ∧ c_i ≤ 63) ∧ (0 ≤ up_i ∧ up_i ≤ 40) ∧ (0 ≤ gd_i ∧ gd_i ≤ 3) ∧ ((way_i = (-1) ∧ dy_i = 0) ∨ ((0 ≤ way_i ∧ way_i ≤ 7) ∧ (10 ≤ dy_i ∧ dy_i ≤ 3600)))) ∧ r.toInt = 1) ∨ (((0 > c_i ∨ c_i > 63) ∨ (0 > up_i ∨ up_i > 40) ∨ (0 > gd_i ∨ gd_i > 3) ∨ ((way_i ≠ (-1) ∨ dy_i ≠ 0) ∧ ((0 > way_i ∨ way_i > 7) ∨ (10 > dy_i ∨ dy_i > 3600)))) ∧ r.toInt = 0))) (cells := 0) (slots := 0) (mc := 0) (ms := 0) C hS (by have hfin := li_0; omega) ⟨(fun b hb => rfl), (Or.inr (⟨by omega, li_0⟩))⟩ (Nat.le_of_ble_eq_true rfl) (Nat.le_of_ble_eq_true rfl) dX11_cell_90
        · replace hq3104 := Or.resolve_right hq3104 (fun h => absurd h.2 (by omega))
          refine lv_iload_n hx hb dX11_cell_60 rfl (lv_at hl 4 rfl) ?_
          refine lv_iconst (v := 0) hx hb dX11_cell_61 (by decide) ?_
          refine lv_bipush (v := 40) hx hb dX11_cell_62 (by decide) ?_
          refine th_goi (th_runS (As := [.int up, .int 0, .int 40]) (rest := []) C hS.1 gS_RX11_112 (t_X11_between iz_up li_0 li_40) hl rfl rfl rfl rfl ⟨Nat.le_of_ble_eq_true rfl, Nat.le_of_ble_eq_true rfl⟩ (Nat.le_of_ble_eq_true rfl) ⟨Nat.le_of_ble_eq_true rfl, Nat.le_of_ble_eq_true rfl⟩ dX11_cell_64) (fun r3106 hq3107 => ?_)
          refine th_if_eq (X := r3106.toInt) (tgt := 89) hx hb dX11_cell_67 (by decide) rfl (fun c3108 => ?_) (fun c3108 => ?_)
          · replace hq3107 := Or.resolve_left hq3107 (fun h => absurd h.2 (by omega))
            refine lv_iconst (v := 0) hx hb dX11_cell_89 (by decide) ?_
            exact th_retzH (post := fun r K1 V1 => (∀ b, K b = some (0, 11) → V1 b = V b) ∧ ((((0 ≤ c_i ∧ c_i ≤ 63) ∧ (0 ≤ up_i ∧ up_i ≤ 40) ∧ (0 ≤ gd_i ∧ gd_i ≤ 3) ∧ ((way_i = (-1) ∧ dy_i = 0) ∨ ((0 ≤ way_i ∧ way_i ≤ 7) ∧ (10 ≤ dy_i ∧ dy_i ≤ 3600)))) ∧ r.toInt = 1) ∨ (((0 > c_i ∨ c_i > 63) ∨ (0 > up_i ∨ up_i > 40) ∨ (0 > gd_i ∨ gd_i > 3) ∨ ((way_i ≠ (-1) ∨ dy_i ≠ 0) ∧ ((0 > way_i ∨ way_i > 7) ∨ (10 > dy_i ∨ dy_i > 3600)))) ∧ r.toInt = 0))) (cells := 0) (slots := 0) (mc := 0) (ms := 0) C hS (by have hfin := li_0; omega) ⟨(fun b hb => rfl), (Or.inr (⟨by omega, li_0⟩))⟩ (Nat.le_of_ble_eq_true rfl) (Nat.le_of_ble_eq_true rfl) dX11_cell_90
          · replace hq3107 := Or.resolve_right hq3107 (fun h => absurd h.2 (by omega))
            refine lv_iload_n hx hb dX11_cell_70 rfl (lv_at hl 5 rfl) ?_
            refine lv_iconst (v := 0) hx hb dX11_cell_71 (by decide) ?_
            refine lv_iconst (v := 3) hx hb dX11_cell_72 (by decide) ?_
            refine th_goi (th_runS (As := [.int gd, .int 0, .int 3]) (rest := []) C hS.1 gS_RX11_112 (t_X11_between iz_gd li_0 li_3) hl rfl rfl rfl rfl ⟨Nat.le_of_ble_eq_true rfl, Nat.le_of_ble_eq_true rfl⟩ (Nat.le_of_ble_eq_true rfl) ⟨Nat.le_of_ble_eq_true rfl, Nat.le_of_ble_eq_true rfl⟩ dX11_cell_73) (fun r3109 hq3110 => ?_)
            refine th_if_eq (X := r3109.toInt) (tgt := 89) hx hb dX11_cell_76 (by decide) rfl (fun c3111 => ?_) (fun c3111 => ?_)
            · replace hq3110 := Or.resolve_left hq3110 (fun h => absurd h.2 (by omega))
              refine lv_iconst (v := 0) hx hb dX11_cell_89 (by decide) ?_
              exact th_retzH (post := fun r K1 V1 => (∀ b, K b = some (0, 11) → V1 b = V b) ∧ ((((0 ≤ c_i ∧ c_i ≤ 63) ∧ (0 ≤ up_i ∧ up_i ≤ 40) ∧ (0 ≤ gd_i ∧ gd_i ≤ 3) ∧ ((way_i = (-1) ∧ dy_i = 0) ∨ ((0 ≤ way_i ∧ way_i ≤ 7) ∧ (10 ≤ dy_i ∧ dy_i ≤ 3600)))) ∧ r.toInt = 1) ∨ (((0 > c_i ∨ c_i > 63) ∨ (0 > up_i ∨ up_i > 40) ∨ (0 > gd_i ∨ gd_i > 3) ∨ ((way_i ≠ (-1) ∨ dy_i ≠ 0) ∧ ((0 > way_i ∨ way_i > 7) ∨ (10 > dy_i ∨ dy_i > 3600)))) ∧ r.toInt = 0))) (cells := 0) (slots := 0) (mc := 0) (ms := 0) C hS (by have hfin := li_0; omega) ⟨(fun b hb => rfl), (Or.inr (⟨by omega, li_0⟩))⟩ (Nat.le_of_ble_eq_true rfl) (Nat.le_of_ble_eq_true rfl) dX11_cell_90
            · replace hq3110 := Or.resolve_right hq3110 (fun h => absurd h.2 (by omega))
              refine lv_iload hx hb dX11_cell_79 (lv_at hl 1 rfl) ?_
              refine th_if_ne (X := 0) (tgt := 91) hx hb dX11_cell_81 (by decide) li_0 (fun c3112 => ?_) (fun c3112 => ?_)
              · refine lv_aload_n hx hb dX11_cell_91 rfl (lv_at hl 2 rfl) ?_
                refine th_get C hS.1 (FX.f0 hF) fl_RX11_12 (FX.f1 hF) dX11_cell_92 ?_
                refine th_get C hS.1 (FX.f2 hF) fl_RX11_123 (FX.f6 hF) dX11_cell_95 ?_
                refine lv_iload_n hx hb dX11_cell_98 rfl (lv_at hl 3 rfl) ?_
                refine lv_iload_n hx hb dX11_cell_99 rfl (lv_at hl 4 rfl) ?_
                refine th_govH hS rfl (th_runS (As := [.ref (ad 1), .int c, .int up]) (rest := []) C hS.1 gS_RX11_108 (t_X4_put iz_c iz_up (FX.f7 hF) (by decide)) hl rfl rfl rfl rfl ⟨Nat.le_of_ble_eq_true rfl, Nat.le_of_ble_eq_true rfl⟩ (Nat.le_of_ble_eq_true rfl) ⟨Nat.le_of_ble_eq_true rfl, Nat.le_of_ble_eq_true rfl⟩ dX11_cell_100) (fun K3115 V3116 H locs1 hq3114 hE3117 hS => ?_)
                obtain ⟨rfl, hF3118⟩ := hq3114
                refine lv_aload_n hx hb dX11_cell_103 rfl (lv_at hl 2 rfl) ?_
                have hv3120 : V3116 x 0 = .ref (ad 0) := Eq.trans (congrFun (hF3118 _ (by rw [(FX.f0 hF)]; exact fun h => by cases h) (K_ne (FX.f0 hF) (FX.f7 hF) (by decide))) 0) (FX.f1 hF)
                refine th_get C hS.1 (FX.f0 hF) fl_RX11_12 hv3120 dX11_cell_104 ?_
                have hv3121 : V3116 (ad 0) 6 = .ref (ad 2) := Eq.trans (congrFun (hF3118 _ (by rw [(FX.f2 hF)]; exact fun h => by cases h) (K_ne (FX.f2 hF) (FX.f7 hF) (by decide))) 6) (FX.f8 hF)
                refine th_get C hS.1 (FX.f2 hF) fl_RX11_126 hv3121 dX11_cell_107 ?_
                refine lv_iload_n hx hb dX11_cell_110 rfl (lv_at hl 3 rfl) ?_
                refine lv_iload_n hx hb dX11_cell_111 rfl (lv_at hl 5 rfl) ?_
                refine th_govH hS rfl (th_runS (As := [.ref (ad 2), .int c, .int gd]) (rest := []) C hS.1 gS_RX11_108 (t_X4_put iz_c iz_gd (FX.f9 hF) (by decide)) hl rfl rfl rfl rfl ⟨Nat.le_of_ble_eq_true rfl, Nat.le_of_ble_eq_true rfl⟩ (Nat.le_of_ble_eq_true rfl) ⟨Nat.le_of_ble_eq_true rfl, Nat.le_of_ble_eq_true rfl⟩ dX11_cell_112) (fun K3124 V3125 H locs1 hq3123 hE3126 hS => ?_)
                obtain ⟨rfl, hF3127⟩ := hq3123
                refine lv_aload_n hx hb dX11_cell_115 rfl (lv_at hl 2 rfl) ?_
                have hv3129 : V3125 x 0 = .ref (ad 0) := Eq.trans (congrFun (hF3127 _ (by rw [(FX.f0 hF)]; exact fun h => by cases h) (K_ne (FX.f0 hF) (FX.f9 hF) (by decide))) 0) hv3120
                refine th_get C hS.1 (FX.f0 hF) fl_RX11_12 hv3129 dX11_cell_116 ?_
                have hv3130 : V3116 (ad 0) 7 = .ref (ad 3) := Eq.trans (congrFun (hF3118 _ (by rw [(FX.f2 hF)]; exact fun h => by cases h) (K_ne (FX.f2 hF) (FX.f7 hF) (by decide))) 7) (FX.f10 hF)
                have hv3131 : V3125 (ad 0) 7 = .ref (ad 3) := Eq.trans (congrFun (hF3127 _ (by rw [(FX.f2 hF)]; exact fun h => by cases h) (K_ne (FX.f2 hF) (FX.f9 hF) (by decide))) 7) hv3130
                refine th_get C hS.1 (FX.f2 hF) fl_RX11_129 hv3131 dX11_cell_119 ?_
                refine lv_iload_n hx hb dX11_cell_122 rfl (lv_at hl 3 rfl) ?_
                refine lv_iload hx hb dX11_cell_123 (lv_at hl 6 rfl) ?_
                refine th_govH hS rfl (th_runS (As := [.ref (ad 3), .int c, .int way]) (rest := []) C hS.1 gS_RX11_108 (t_X4_put iz_c iz_way (FX.f11 hF) (by decide)) hl rfl rfl rfl rfl ⟨Nat.le_of_ble_eq_true rfl, Nat.le_of_ble_eq_true rfl⟩ (Nat.le_of_ble_eq_true rfl) ⟨Nat.le_of_ble_eq_true rfl, Nat.le_of_ble_eq_true rfl⟩ dX11_cell_125) (fun K3134 V3135 H locs1 hq3133 hE3136 hS => ?_)
                obtain ⟨rfl, hF3137⟩ := hq3133
                refine lv_aload_n hx hb dX11_cell_128 rfl (lv_at hl 2 rfl) ?_
                have hv3139 : V3135 x 0 = .ref (ad 0) := Eq.trans (congrFun (hF3137 _ (by rw [(FX.f0 hF)]; exact fun h => by cases h) (K_ne (FX.f0 hF) (FX.f11 hF) (by decide))) 0) hv3129
                refine th_get C hS.1 (FX.f0 hF) fl_RX11_12 hv3139 dX11_cell_129 ?_
                have hv3140 : V3116 (ad 0) 8 = .ref (ad 4) := Eq.trans (congrFun (hF3118 _ (by rw [(FX.f2 hF)]; exact fun h => by cases h) (K_ne (FX.f2 hF) (FX.f7 hF) (by decide))) 8) (FX.f12 hF)
                have hv3141 : V3125 (ad 0) 8 = .ref (ad 4) := Eq.trans (congrFun (hF3127 _ (by rw [(FX.f2 hF)]; exact fun h => by cases h) (K_ne (FX.f2 hF) (FX.f9 hF) (by decide))) 8) hv3140
                have hv3142 : V3135 (ad 0) 8 = .ref (ad 4) := Eq.trans (congrFun (hF3137 _ (by rw [(FX.f2 hF)]; exact fun h => by cases h) (K_ne (FX.f2 hF) (FX.f11 hF) (by decide))) 8) hv3141
                refine th_get C hS.1 (FX.f2 hF) fl_RX11_132 hv3142 dX11_cell_132 ?_
                refine lv_iload_n hx hb dX11_cell_135 rfl (lv_at hl 3 rfl) ?_
                refine lv_iload hx hb dX11_cell_136 (lv_at hl 7 rfl) ?_
                refine th_govH hS rfl (th_runS (As := [.ref (ad 4), .int c, .int dy]) (rest := []) C hS.1 gS_RX11_108 (t_X4_put iz_c iz_dy (FX.f13 hF) (by decide)) hl rfl rfl rfl rfl ⟨Nat.le_of_ble_eq_true rfl, Nat.le_of_ble_eq_true rfl⟩ (Nat.le_of_ble_eq_true rfl) ⟨Nat.le_of_ble_eq_true rfl, Nat.le_of_ble_eq_true rfl⟩ dX11_cell_138) (fun K3145 V3146 H locs1 hq3144 hE3147 hS => ?_)
                obtain ⟨rfl, hF3148⟩ := hq3144
                refine lv_iconst (v := 1) hx hb dX11_cell_141 (by decide) ?_
                exact th_retzH (post := fun r K1 V1 => (∀ b, K b = some (0, 11) → V1 b = V b) ∧ ((((0 ≤ c_i ∧ c_i ≤ 63) ∧ (0 ≤ up_i ∧ up_i ≤ 40) ∧ (0 ≤ gd_i ∧ gd_i ≤ 3) ∧ ((way_i = (-1) ∧ dy_i = 0) ∨ ((0 ≤ way_i ∧ way_i ≤ 7) ∧ (10 ≤ dy_i ∧ dy_i ≤ 3600)))) ∧ r.toInt = 1) ∨ (((0 > c_i ∨ c_i > 63) ∨ (0 > up_i ∨ up_i > 40) ∨ (0 > gd_i ∨ gd_i > 3) ∨ ((way_i ≠ (-1) ∨ dy_i ≠ 0) ∧ ((0 > way_i ∨ way_i > 7) ∨ (10 > dy_i ∨ dy_i > 3600)))) ∧ r.toInt = 0))) (cells := 0) (slots := 0) (mc := 0) (ms := 0) C hS (by have hfin := li_1; omega) ⟨(fun b hb  => Eq.trans (hF3148 _ (by rw [hb]; exact fun h => by cases h) (K_ne hb (FX.f13 hF) (by decide))) (Eq.trans (hF3137 _ (by rw [hb]; exact fun h => by cases h) (K_ne hb (FX.f11 hF) (by decide))) (Eq.trans (hF3127 _ (by rw [hb]; exact fun h => by cases h) (K_ne hb (FX.f9 hF) (by decide))) ((hF3118 _ (by rw [hb]; exact fun h => by cases h) (K_ne hb (FX.f7 hF) (by decide))))))), (Or.inl ⟨by omega, li_1⟩)⟩ (Nat.le_of_ble_eq_true rfl) (Nat.le_of_ble_eq_true rfl) dX11_cell_142
              · refine lv_iload hx hb dX11_cell_84 (lv_at hl 0 rfl) ?_
                refine th_if_ne (X := 0) (tgt := 91) hx hb dX11_cell_86 (by decide) li_0 (fun c3150 => ?_) (fun c3150 => ?_)
                · refine lv_aload_n hx hb dX11_cell_91 rfl (lv_at hl 2 rfl) ?_
                  refine th_get C hS.1 (FX.f0 hF) fl_RX11_12 (FX.f1 hF) dX11_cell_92 ?_
                  refine th_get C hS.1 (FX.f2 hF) fl_RX11_123 (FX.f6 hF) dX11_cell_95 ?_
                  refine lv_iload_n hx hb dX11_cell_98 rfl (lv_at hl 3 rfl) ?_
                  refine lv_iload_n hx hb dX11_cell_99 rfl (lv_at hl 4 rfl) ?_
                  refine th_govH hS rfl (th_runS (As := [.ref (ad 1), .int c, .int up]) (rest := []) C hS.1 gS_RX11_108 (t_X4_put iz_c iz_up (FX.f7 hF) (by decide)) hl rfl rfl rfl rfl ⟨Nat.le_of_ble_eq_true rfl, Nat.le_of_ble_eq_true rfl⟩ (Nat.le_of_ble_eq_true rfl) ⟨Nat.le_of_ble_eq_true rfl, Nat.le_of_ble_eq_true rfl⟩ dX11_cell_100) (fun K3153 V3154 H locs1 hq3152 hE3155 hS => ?_)
                  obtain ⟨rfl, hF3156⟩ := hq3152
                  refine lv_aload_n hx hb dX11_cell_103 rfl (lv_at hl 2 rfl) ?_
                  have hv3158 : V3154 x 0 = .ref (ad 0) := Eq.trans (congrFun (hF3156 _ (by rw [(FX.f0 hF)]; exact fun h => by cases h) (K_ne (FX.f0 hF) (FX.f7 hF) (by decide))) 0) (FX.f1 hF)
                  refine th_get C hS.1 (FX.f0 hF) fl_RX11_12 hv3158 dX11_cell_104 ?_
                  have hv3159 : V3154 (ad 0) 6 = .ref (ad 2) := Eq.trans (congrFun (hF3156 _ (by rw [(FX.f2 hF)]; exact fun h => by cases h) (K_ne (FX.f2 hF) (FX.f7 hF) (by decide))) 6) (FX.f8 hF)
                  refine th_get C hS.1 (FX.f2 hF) fl_RX11_126 hv3159 dX11_cell_107 ?_
                  refine lv_iload_n hx hb dX11_cell_110 rfl (lv_at hl 3 rfl) ?_
                  refine lv_iload_n hx hb dX11_cell_111 rfl (lv_at hl 5 rfl) ?_
                  refine th_govH hS rfl (th_runS (As := [.ref (ad 2), .int c, .int gd]) (rest := []) C hS.1 gS_RX11_108 (t_X4_put iz_c iz_gd (FX.f9 hF) (by decide)) hl rfl rfl rfl rfl ⟨Nat.le_of_ble_eq_true rfl, Nat.le_of_ble_eq_true rfl⟩ (Nat.le_of_ble_eq_true rfl) ⟨Nat.le_of_ble_eq_true rfl, Nat.le_of_ble_eq_true rfl⟩ dX11_cell_112) (fun K3162 V3163 H locs1 hq3161 hE3164 hS => ?_)
                  obtain ⟨rfl, hF3165⟩ := hq3161
                  refine lv_aload_n hx hb dX11_cell_115 rfl (lv_at hl 2 rfl) ?_
                  have hv3167 : V3163 x 0 = .ref (ad 0) := Eq.trans (congrFun (hF3165 _ (by rw [(FX.f0 hF)]; exact fun h => by cases h) (K_ne (FX.f0 hF) (FX.f9 hF) (by decide))) 0) hv3158
                  refine th_get C hS.1 (FX.f0 hF) fl_RX11_12 hv3167 dX11_cell_116 ?_
                  have hv3168 : V3154 (ad 0) 7 = .ref (ad 3) := Eq.trans (congrFun (hF3156 _ (by rw [(FX.f2 hF)]; exact fun h => by cases h) (K_ne (FX.f2 hF) (FX.f7 hF) (by decide))) 7) (FX.f10 hF)
                  have hv3169 : V3163 (ad 0) 7 = .ref (ad 3) := Eq.trans (congrFun (hF3165 _ (by rw [(FX.f2 hF)]; exact fun h => by cases h) (K_ne (FX.f2 hF) (FX.f9 hF) (by decide))) 7) hv3168
                  refine th_get C hS.1 (FX.f2 hF) fl_RX11_129 hv3169 dX11_cell_119 ?_
                  refine lv_iload_n hx hb dX11_cell_122 rfl (lv_at hl 3 rfl) ?_
                  refine lv_iload hx hb dX11_cell_123 (lv_at hl 6 rfl) ?_
                  refine th_govH hS rfl (th_runS (As := [.ref (ad 3), .int c, .int way]) (rest := []) C hS.1 gS_RX11_108 (t_X4_put iz_c iz_way (FX.f11 hF) (by decide)) hl rfl rfl rfl rfl ⟨Nat.le_of_ble_eq_true rfl, Nat.le_of_ble_eq_true rfl⟩ (Nat.le_of_ble_eq_true rfl) ⟨Nat.le_of_ble_eq_true rfl, Nat.le_of_ble_eq_true rfl⟩ dX11_cell_125) (fun K3172 V3173 H locs1 hq3171 hE3174 hS => ?_)
                  obtain ⟨rfl, hF3175⟩ := hq3171
                  refine lv_aload_n hx hb dX11_cell_128 rfl (lv_at hl 2 rfl) ?_
                  have hv3177 : V3173 x 0 = .ref (ad 0) := Eq.trans (congrFun (hF3175 _ (by rw [(FX.f0 hF)]; exact fun h => by cases h) (K_ne (FX.f0 hF) (FX.f11 hF) (by decide))) 0) hv3167
                  refine th_get C hS.1 (FX.f0 hF) fl_RX11_12 hv3177 dX11_cell_129 ?_
                  have hv3178 : V3154 (ad 0) 8 = .ref (ad 4) := Eq.trans (congrFun (hF3156 _ (by rw [(FX.f2 hF)]; exact fun h => by cases h) (K_ne (FX.f2 hF) (FX.f7 hF) (by decide))) 8) (FX.f12 hF)
                  have hv3179 : V3163 (ad 0) 8 = .ref (ad 4) := Eq.trans (congrFun (hF3165 _ (by rw [(FX.f2 hF)]; exact fun h => by cases h) (K_ne (FX.f2 hF) (FX.f9 hF) (by decide))) 8) hv3178
                  have hv3180 : V3173 (ad 0) 8 = .ref (ad 4) := Eq.trans (congrFun (hF3175 _ (by rw [(FX.f2 hF)]; exact fun h => by cases h) (K_ne (FX.f2 hF) (FX.f11 hF) (by decide))) 8) hv3179
                  refine th_get C hS.1 (FX.f2 hF) fl_RX11_132 hv3180 dX11_cell_132 ?_
                  refine lv_iload_n hx hb dX11_cell_135 rfl (lv_at hl 3 rfl) ?_
                  refine lv_iload hx hb dX11_cell_136 (lv_at hl 7 rfl) ?_
                  refine th_govH hS rfl (th_runS (As := [.ref (ad 4), .int c, .int dy]) (rest := []) C hS.1 gS_RX11_108 (t_X4_put iz_c iz_dy (FX.f13 hF) (by decide)) hl rfl rfl rfl rfl ⟨Nat.le_of_ble_eq_true rfl, Nat.le_of_ble_eq_true rfl⟩ (Nat.le_of_ble_eq_true rfl) ⟨Nat.le_of_ble_eq_true rfl, Nat.le_of_ble_eq_true rfl⟩ dX11_cell_138) (fun K3183 V3184 H locs1 hq3182 hE3185 hS => ?_)
                  obtain ⟨rfl, hF3186⟩ := hq3182
                  refine lv_iconst (v := 1) hx hb dX11_cell_141 (by decide) ?_
                  exact th_retzH (post := fun r K1 V1 => (∀ b, K b = some (0, 11) → V1 b = V b) ∧ ((((0 ≤ c_i ∧ c_i ≤ 63) ∧ (0 ≤ up_i ∧ up_i ≤ 40) ∧ (0 ≤ gd_i ∧ gd_i ≤ 3) ∧ ((way_i = (-1) ∧ dy_i = 0) ∨ ((0 ≤ way_i ∧ way_i ≤ 7) ∧ (10 ≤ dy_i ∧ dy_i ≤ 3600)))) ∧ r.toInt = 1) ∨ (((0 > c_i ∨ c_i > 63) ∨ (0 > up_i ∨ up_i > 40) ∨ (0 > gd_i ∨ gd_i > 3) ∨ ((way_i ≠ (-1) ∨ dy_i ≠ 0) ∧ ((0 > way_i ∨ way_i > 7) ∨ (10 > dy_i ∨ dy_i > 3600)))) ∧ r.toInt = 0))) (cells := 0) (slots := 0) (mc := 0) (ms := 0) C hS (by have hfin := li_1; omega) ⟨(fun b hb  => Eq.trans (hF3186 _ (by rw [hb]; exact fun h => by cases h) (K_ne hb (FX.f13 hF) (by decide))) (Eq.trans (hF3175 _ (by rw [hb]; exact fun h => by cases h) (K_ne hb (FX.f11 hF) (by decide))) (Eq.trans (hF3165 _ (by rw [hb]; exact fun h => by cases h) (K_ne hb (FX.f9 hF) (by decide))) ((hF3156 _ (by rw [hb]; exact fun h => by cases h) (K_ne hb (FX.f7 hF) (by decide))))))), (Or.inl ⟨by omega, li_1⟩)⟩ (Nat.le_of_ble_eq_true rfl) (Nat.le_of_ble_eq_true rfl) dX11_cell_142
                · refine lv_iconst (v := 0) hx hb dX11_cell_89 (by decide) ?_
                  exact th_retzH (post := fun r K1 V1 => (∀ b, K b = some (0, 11) → V1 b = V b) ∧ ((((0 ≤ c_i ∧ c_i ≤ 63) ∧ (0 ≤ up_i ∧ up_i ≤ 40) ∧ (0 ≤ gd_i ∧ gd_i ≤ 3) ∧ ((way_i = (-1) ∧ dy_i = 0) ∨ ((0 ≤ way_i ∧ way_i ≤ 7) ∧ (10 ≤ dy_i ∧ dy_i ≤ 3600)))) ∧ r.toInt = 1) ∨ (((0 > c_i ∨ c_i > 63) ∨ (0 > up_i ∨ up_i > 40) ∨ (0 > gd_i ∨ gd_i > 3) ∨ ((way_i ≠ (-1) ∨ dy_i ≠ 0) ∧ ((0 > way_i ∨ way_i > 7) ∨ (10 > dy_i ∨ dy_i > 3600)))) ∧ r.toInt = 0))) (cells := 0) (slots := 0) (mc := 0) (ms := 0) C hS (by have hfin := li_0; omega) ⟨(fun b hb => rfl), (Or.inr (⟨by omega, li_0⟩))⟩ (Nat.le_of_ble_eq_true rfl) (Nat.le_of_ble_eq_true rfl) dX11_cell_90
      · replace hq3101 := Or.resolve_right hq3101 (fun h => absurd h.2 (by omega))
        refine lv_iconst (v := 1) hx hb dX11_cell_42 (by decide) ?_
        refine lv_goto (tgt := 47) hx hb dX11_cell_43 (by decide) ?_
        refine lv_istore (lv' := [(7, .int 1), (6, .int 0), (0, .ref x), (1, .int c), (2, .int up), (3, .int gd), (4, .int way), (5, .int dy)]) hx hb dX11_cell_47 hl (by decide) rfl (fun ls hl => ?_)
        refine lv_aload_n hx hb dX11_cell_49 rfl (lv_at hl 2 rfl) ?_
        refine th_get C hS.1 (FX.f0 hF) fl_RX11_12 (FX.f1 hF) dX11_cell_50 ?_
        refine lv_iload_n hx hb dX11_cell_53 rfl (lv_at hl 3 rfl) ?_
        refine th_goi (th_runV (As := [.int c]) (rest := []) C hS.1 (RX0, TX0, 13) rfl gV_RX11_119 (FX.f2 hF) (t_X0_isCell iz_c (FX.f2 hF) (FX.f4 hF) (FX.f5 hF)) hl rfl rfl rfl rfl ⟨Nat.le_of_ble_eq_true rfl, Nat.le_of_ble_eq_true rfl⟩ (Nat.le_of_ble_eq_true rfl) ⟨Nat.le_of_ble_eq_true rfl, Nat.le_of_ble_eq_true rfl⟩ dX11_cell_54) (fun r3188 hq3189 => ?_)
        refine th_if_eq (X := r3188.toInt) (tgt := 89) hx hb dX11_cell_57 (by decide) rfl (fun c3190 => ?_) (fun c3190 => ?_)
        · replace hq3189 := Or.resolve_left hq3189 (fun h => absurd h.2 (by omega))
          refine lv_iconst (v := 0) hx hb dX11_cell_89 (by decide) ?_
          exact th_retzH (post := fun r K1 V1 => (∀ b, K b = some (0, 11) → V1 b = V b) ∧ ((((0 ≤ c_i ∧ c_i ≤ 63) ∧ (0 ≤ up_i ∧ up_i ≤ 40) ∧ (0 ≤ gd_i ∧ gd_i ≤ 3) ∧ ((way_i = (-1) ∧ dy_i = 0) ∨ ((0 ≤ way_i ∧ way_i ≤ 7) ∧ (10 ≤ dy_i ∧ dy_i ≤ 3600)))) ∧ r.toInt = 1) ∨ (((0 > c_i ∨ c_i > 63) ∨ (0 > up_i ∨ up_i > 40) ∨ (0 > gd_i ∨ gd_i > 3) ∨ ((way_i ≠ (-1) ∨ dy_i ≠ 0) ∧ ((0 > way_i ∨ way_i > 7) ∨ (10 > dy_i ∨ dy_i > 3600)))) ∧ r.toInt = 0))) (cells := 0) (slots := 0) (mc := 0) (ms := 0) C hS (by have hfin := li_0; omega) ⟨(fun b hb => rfl), (Or.inr (⟨by omega, li_0⟩))⟩ (Nat.le_of_ble_eq_true rfl) (Nat.le_of_ble_eq_true rfl) dX11_cell_90
        · replace hq3189 := Or.resolve_right hq3189 (fun h => absurd h.2 (by omega))
          refine lv_iload_n hx hb dX11_cell_60 rfl (lv_at hl 4 rfl) ?_
          refine lv_iconst (v := 0) hx hb dX11_cell_61 (by decide) ?_
          refine lv_bipush (v := 40) hx hb dX11_cell_62 (by decide) ?_
          refine th_goi (th_runS (As := [.int up, .int 0, .int 40]) (rest := []) C hS.1 gS_RX11_112 (t_X11_between iz_up li_0 li_40) hl rfl rfl rfl rfl ⟨Nat.le_of_ble_eq_true rfl, Nat.le_of_ble_eq_true rfl⟩ (Nat.le_of_ble_eq_true rfl) ⟨Nat.le_of_ble_eq_true rfl, Nat.le_of_ble_eq_true rfl⟩ dX11_cell_64) (fun r3191 hq3192 => ?_)
          refine th_if_eq (X := r3191.toInt) (tgt := 89) hx hb dX11_cell_67 (by decide) rfl (fun c3193 => ?_) (fun c3193 => ?_)
          · replace hq3192 := Or.resolve_left hq3192 (fun h => absurd h.2 (by omega))
            refine lv_iconst (v := 0) hx hb dX11_cell_89 (by decide) ?_
            exact th_retzH (post := fun r K1 V1 => (∀ b, K b = some (0, 11) → V1 b = V b) ∧ ((((0 ≤ c_i ∧ c_i ≤ 63) ∧ (0 ≤ up_i ∧ up_i ≤ 40) ∧ (0 ≤ gd_i ∧ gd_i ≤ 3) ∧ ((way_i = (-1) ∧ dy_i = 0) ∨ ((0 ≤ way_i ∧ way_i ≤ 7) ∧ (10 ≤ dy_i ∧ dy_i ≤ 3600)))) ∧ r.toInt = 1) ∨ (((0 > c_i ∨ c_i > 63) ∨ (0 > up_i ∨ up_i > 40) ∨ (0 > gd_i ∨ gd_i > 3) ∨ ((way_i ≠ (-1) ∨ dy_i ≠ 0) ∧ ((0 > way_i ∨ way_i > 7) ∨ (10 > dy_i ∨ dy_i > 3600)))) ∧ r.toInt = 0))) (cells := 0) (slots := 0) (mc := 0) (ms := 0) C hS (by have hfin := li_0; omega) ⟨(fun b hb => rfl), (Or.inr (⟨by omega, li_0⟩))⟩ (Nat.le_of_ble_eq_true rfl) (Nat.le_of_ble_eq_true rfl) dX11_cell_90
          · replace hq3192 := Or.resolve_right hq3192 (fun h => absurd h.2 (by omega))
            refine lv_iload_n hx hb dX11_cell_70 rfl (lv_at hl 5 rfl) ?_
            refine lv_iconst (v := 0) hx hb dX11_cell_71 (by decide) ?_
            refine lv_iconst (v := 3) hx hb dX11_cell_72 (by decide) ?_
            refine th_goi (th_runS (As := [.int gd, .int 0, .int 3]) (rest := []) C hS.1 gS_RX11_112 (t_X11_between iz_gd li_0 li_3) hl rfl rfl rfl rfl ⟨Nat.le_of_ble_eq_true rfl, Nat.le_of_ble_eq_true rfl⟩ (Nat.le_of_ble_eq_true rfl) ⟨Nat.le_of_ble_eq_true rfl, Nat.le_of_ble_eq_true rfl⟩ dX11_cell_73) (fun r3194 hq3195 => ?_)
            refine th_if_eq (X := r3194.toInt) (tgt := 89) hx hb dX11_cell_76 (by decide) rfl (fun c3196 => ?_) (fun c3196 => ?_)
            · replace hq3195 := Or.resolve_left hq3195 (fun h => absurd h.2 (by omega))
              refine lv_iconst (v := 0) hx hb dX11_cell_89 (by decide) ?_
              exact th_retzH (post := fun r K1 V1 => (∀ b, K b = some (0, 11) → V1 b = V b) ∧ ((((0 ≤ c_i ∧ c_i ≤ 63) ∧ (0 ≤ up_i ∧ up_i ≤ 40) ∧ (0 ≤ gd_i ∧ gd_i ≤ 3) ∧ ((way_i = (-1) ∧ dy_i = 0) ∨ ((0 ≤ way_i ∧ way_i ≤ 7) ∧ (10 ≤ dy_i ∧ dy_i ≤ 3600)))) ∧ r.toInt = 1) ∨ (((0 > c_i ∨ c_i > 63) ∨ (0 > up_i ∨ up_i > 40) ∨ (0 > gd_i ∨ gd_i > 3) ∨ ((way_i ≠ (-1) ∨ dy_i ≠ 0) ∧ ((0 > way_i ∨ way_i > 7) ∨ (10 > dy_i ∨ dy_i > 3600)))) ∧ r.toInt = 0))) (cells := 0) (slots := 0) (mc := 0) (ms := 0) C hS (by have hfin := li_0; omega) ⟨(fun b hb => rfl), (Or.inr (⟨by omega, li_0⟩))⟩ (Nat.le_of_ble_eq_true rfl) (Nat.le_of_ble_eq_true rfl) dX11_cell_90
            · replace hq3195 := Or.resolve_right hq3195 (fun h => absurd h.2 (by omega))
              refine lv_iload hx hb dX11_cell_79 (lv_at hl 1 rfl) ?_
              refine th_if_ne (X := 0) (tgt := 91) hx hb dX11_cell_81 (by decide) li_0 (fun c3197 => ?_) (fun c3197 => ?_)
              · refine lv_aload_n hx hb dX11_cell_91 rfl (lv_at hl 2 rfl) ?_
                refine th_get C hS.1 (FX.f0 hF) fl_RX11_12 (FX.f1 hF) dX11_cell_92 ?_
                refine th_get C hS.1 (FX.f2 hF) fl_RX11_123 (FX.f6 hF) dX11_cell_95 ?_
                refine lv_iload_n hx hb dX11_cell_98 rfl (lv_at hl 3 rfl) ?_
                refine lv_iload_n hx hb dX11_cell_99 rfl (lv_at hl 4 rfl) ?_
                refine th_govH hS rfl (th_runS (As := [.ref (ad 1), .int c, .int up]) (rest := []) C hS.1 gS_RX11_108 (t_X4_put iz_c iz_up (FX.f7 hF) (by decide)) hl rfl rfl rfl rfl ⟨Nat.le_of_ble_eq_true rfl, Nat.le_of_ble_eq_true rfl⟩ (Nat.le_of_ble_eq_true rfl) ⟨Nat.le_of_ble_eq_true rfl, Nat.le_of_ble_eq_true rfl⟩ dX11_cell_100) (fun K3200 V3201 H locs1 hq3199 hE3202 hS => ?_)
                obtain ⟨rfl, hF3203⟩ := hq3199
                refine lv_aload_n hx hb dX11_cell_103 rfl (lv_at hl 2 rfl) ?_
                have hv3205 : V3201 x 0 = .ref (ad 0) := Eq.trans (congrFun (hF3203 _ (by rw [(FX.f0 hF)]; exact fun h => by cases h) (K_ne (FX.f0 hF) (FX.f7 hF) (by decide))) 0) (FX.f1 hF)
                refine th_get C hS.1 (FX.f0 hF) fl_RX11_12 hv3205 dX11_cell_104 ?_
                have hv3206 : V3201 (ad 0) 6 = .ref (ad 2) := Eq.trans (congrFun (hF3203 _ (by rw [(FX.f2 hF)]; exact fun h => by cases h) (K_ne (FX.f2 hF) (FX.f7 hF) (by decide))) 6) (FX.f8 hF)
                refine th_get C hS.1 (FX.f2 hF) fl_RX11_126 hv3206 dX11_cell_107 ?_
                refine lv_iload_n hx hb dX11_cell_110 rfl (lv_at hl 3 rfl) ?_
                refine lv_iload_n hx hb dX11_cell_111 rfl (lv_at hl 5 rfl) ?_
                refine th_govH hS rfl (th_runS (As := [.ref (ad 2), .int c, .int gd]) (rest := []) C hS.1 gS_RX11_108 (t_X4_put iz_c iz_gd (FX.f9 hF) (by decide)) hl rfl rfl rfl rfl ⟨Nat.le_of_ble_eq_true rfl, Nat.le_of_ble_eq_true rfl⟩ (Nat.le_of_ble_eq_true rfl) ⟨Nat.le_of_ble_eq_true rfl, Nat.le_of_ble_eq_true rfl⟩ dX11_cell_112) (fun K3209 V3210 H locs1 hq3208 hE3211 hS => ?_)
                obtain ⟨rfl, hF3212⟩ := hq3208
                refine lv_aload_n hx hb dX11_cell_115 rfl (lv_at hl 2 rfl) ?_
                have hv3214 : V3210 x 0 = .ref (ad 0) := Eq.trans (congrFun (hF3212 _ (by rw [(FX.f0 hF)]; exact fun h => by cases h) (K_ne (FX.f0 hF) (FX.f9 hF) (by decide))) 0) hv3205
                refine th_get C hS.1 (FX.f0 hF) fl_RX11_12 hv3214 dX11_cell_116 ?_
                have hv3215 : V3201 (ad 0) 7 = .ref (ad 3) := Eq.trans (congrFun (hF3203 _ (by rw [(FX.f2 hF)]; exact fun h => by cases h) (K_ne (FX.f2 hF) (FX.f7 hF) (by decide))) 7) (FX.f10 hF)
                have hv3216 : V3210 (ad 0) 7 = .ref (ad 3) := Eq.trans (congrFun (hF3212 _ (by rw [(FX.f2 hF)]; exact fun h => by cases h) (K_ne (FX.f2 hF) (FX.f9 hF) (by decide))) 7) hv3215
                refine th_get C hS.1 (FX.f2 hF) fl_RX11_129 hv3216 dX11_cell_119 ?_
                refine lv_iload_n hx hb dX11_cell_122 rfl (lv_at hl 3 rfl) ?_
                refine lv_iload hx hb dX11_cell_123 (lv_at hl 6 rfl) ?_
                refine th_govH hS rfl (th_runS (As := [.ref (ad 3), .int c, .int way]) (rest := []) C hS.1 gS_RX11_108 (t_X4_put iz_c iz_way (FX.f11 hF) (by decide)) hl rfl rfl rfl rfl ⟨Nat.le_of_ble_eq_true rfl, Nat.le_of_ble_eq_true rfl⟩ (Nat.le_of_ble_eq_true rfl) ⟨Nat.le_of_ble_eq_true rfl, Nat.le_of_ble_eq_true rfl⟩ dX11_cell_125) (fun K3219 V3220 H locs1 hq3218 hE3221 hS => ?_)
                obtain ⟨rfl, hF3222⟩ := hq3218
                refine lv_aload_n hx hb dX11_cell_128 rfl (lv_at hl 2 rfl) ?_
                have hv3224 : V3220 x 0 = .ref (ad 0) := Eq.trans (congrFun (hF3222 _ (by rw [(FX.f0 hF)]; exact fun h => by cases h) (K_ne (FX.f0 hF) (FX.f11 hF) (by decide))) 0) hv3214
                refine th_get C hS.1 (FX.f0 hF) fl_RX11_12 hv3224 dX11_cell_129 ?_
                have hv3225 : V3201 (ad 0) 8 = .ref (ad 4) := Eq.trans (congrFun (hF3203 _ (by rw [(FX.f2 hF)]; exact fun h => by cases h) (K_ne (FX.f2 hF) (FX.f7 hF) (by decide))) 8) (FX.f12 hF)
                have hv3226 : V3210 (ad 0) 8 = .ref (ad 4) := Eq.trans (congrFun (hF3212 _ (by rw [(FX.f2 hF)]; exact fun h => by cases h) (K_ne (FX.f2 hF) (FX.f9 hF) (by decide))) 8) hv3225
                have hv3227 : V3220 (ad 0) 8 = .ref (ad 4) := Eq.trans (congrFun (hF3222 _ (by rw [(FX.f2 hF)]; exact fun h => by cases h) (K_ne (FX.f2 hF) (FX.f11 hF) (by decide))) 8) hv3226
                refine th_get C hS.1 (FX.f2 hF) fl_RX11_132 hv3227 dX11_cell_132 ?_
                refine lv_iload_n hx hb dX11_cell_135 rfl (lv_at hl 3 rfl) ?_
                refine lv_iload hx hb dX11_cell_136 (lv_at hl 7 rfl) ?_
                refine th_govH hS rfl (th_runS (As := [.ref (ad 4), .int c, .int dy]) (rest := []) C hS.1 gS_RX11_108 (t_X4_put iz_c iz_dy (FX.f13 hF) (by decide)) hl rfl rfl rfl rfl ⟨Nat.le_of_ble_eq_true rfl, Nat.le_of_ble_eq_true rfl⟩ (Nat.le_of_ble_eq_true rfl) ⟨Nat.le_of_ble_eq_true rfl, Nat.le_of_ble_eq_true rfl⟩ dX11_cell_138) (fun K3230 V3231 H locs1 hq3229 hE3232 hS => ?_)
                obtain ⟨rfl, hF3233⟩ := hq3229
                refine lv_iconst (v := 1) hx hb dX11_cell_141 (by decide) ?_
                exact th_retzH (post := fun r K1 V1 => (∀ b, K b = some (0, 11) → V1 b = V b) ∧ ((((0 ≤ c_i ∧ c_i ≤ 63) ∧ (0 ≤ up_i ∧ up_i ≤ 40) ∧ (0 ≤ gd_i ∧ gd_i ≤ 3) ∧ ((way_i = (-1) ∧ dy_i = 0) ∨ ((0 ≤ way_i ∧ way_i ≤ 7) ∧ (10 ≤ dy_i ∧ dy_i ≤ 3600)))) ∧ r.toInt = 1) ∨ (((0 > c_i ∨ c_i > 63) ∨ (0 > up_i ∨ up_i > 40) ∨ (0 > gd_i ∨ gd_i > 3) ∨ ((way_i ≠ (-1) ∨ dy_i ≠ 0) ∧ ((0 > way_i ∨ way_i > 7) ∨ (10 > dy_i ∨ dy_i > 3600)))) ∧ r.toInt = 0))) (cells := 0) (slots := 0) (mc := 0) (ms := 0) C hS (by have hfin := li_1; omega) ⟨(fun b hb  => Eq.trans (hF3233 _ (by rw [hb]; exact fun h => by cases h) (K_ne hb (FX.f13 hF) (by decide))) (Eq.trans (hF3222 _ (by rw [hb]; exact fun h => by cases h) (K_ne hb (FX.f11 hF) (by decide))) (Eq.trans (hF3212 _ (by rw [hb]; exact fun h => by cases h) (K_ne hb (FX.f9 hF) (by decide))) ((hF3203 _ (by rw [hb]; exact fun h => by cases h) (K_ne hb (FX.f7 hF) (by decide))))))), (Or.inl ⟨by omega, li_1⟩)⟩ (Nat.le_of_ble_eq_true rfl) (Nat.le_of_ble_eq_true rfl) dX11_cell_142
              · refine lv_iload hx hb dX11_cell_84 (lv_at hl 0 rfl) ?_
                refine th_if_ne (X := 1) (tgt := 91) hx hb dX11_cell_86 (by decide) li_1 (fun c3235 => ?_) (fun c3235 => absurd c3235 (by omega))
                refine lv_aload_n hx hb dX11_cell_91 rfl (lv_at hl 2 rfl) ?_
                refine th_get C hS.1 (FX.f0 hF) fl_RX11_12 (FX.f1 hF) dX11_cell_92 ?_
                refine th_get C hS.1 (FX.f2 hF) fl_RX11_123 (FX.f6 hF) dX11_cell_95 ?_
                refine lv_iload_n hx hb dX11_cell_98 rfl (lv_at hl 3 rfl) ?_
                refine lv_iload_n hx hb dX11_cell_99 rfl (lv_at hl 4 rfl) ?_
                refine th_govH hS rfl (th_runS (As := [.ref (ad 1), .int c, .int up]) (rest := []) C hS.1 gS_RX11_108 (t_X4_put iz_c iz_up (FX.f7 hF) (by decide)) hl rfl rfl rfl rfl ⟨Nat.le_of_ble_eq_true rfl, Nat.le_of_ble_eq_true rfl⟩ (Nat.le_of_ble_eq_true rfl) ⟨Nat.le_of_ble_eq_true rfl, Nat.le_of_ble_eq_true rfl⟩ dX11_cell_100) (fun K3238 V3239 H locs1 hq3237 hE3240 hS => ?_)
                obtain ⟨rfl, hF3241⟩ := hq3237
                refine lv_aload_n hx hb dX11_cell_103 rfl (lv_at hl 2 rfl) ?_
                have hv3243 : V3239 x 0 = .ref (ad 0) := Eq.trans (congrFun (hF3241 _ (by rw [(FX.f0 hF)]; exact fun h => by cases h) (K_ne (FX.f0 hF) (FX.f7 hF) (by decide))) 0) (FX.f1 hF)
                refine th_get C hS.1 (FX.f0 hF) fl_RX11_12 hv3243 dX11_cell_104 ?_
                have hv3244 : V3239 (ad 0) 6 = .ref (ad 2) := Eq.trans (congrFun (hF3241 _ (by rw [(FX.f2 hF)]; exact fun h => by cases h) (K_ne (FX.f2 hF) (FX.f7 hF) (by decide))) 6) (FX.f8 hF)
                refine th_get C hS.1 (FX.f2 hF) fl_RX11_126 hv3244 dX11_cell_107 ?_
                refine lv_iload_n hx hb dX11_cell_110 rfl (lv_at hl 3 rfl) ?_
                refine lv_iload_n hx hb dX11_cell_111 rfl (lv_at hl 5 rfl) ?_
                refine th_govH hS rfl (th_runS (As := [.ref (ad 2), .int c, .int gd]) (rest := []) C hS.1 gS_RX11_108 (t_X4_put iz_c iz_gd (FX.f9 hF) (by decide)) hl rfl rfl rfl rfl ⟨Nat.le_of_ble_eq_true rfl, Nat.le_of_ble_eq_true rfl⟩ (Nat.le_of_ble_eq_true rfl) ⟨Nat.le_of_ble_eq_true rfl, Nat.le_of_ble_eq_true rfl⟩ dX11_cell_112) (fun K3247 V3248 H locs1 hq3246 hE3249 hS => ?_)
                obtain ⟨rfl, hF3250⟩ := hq3246
                refine lv_aload_n hx hb dX11_cell_115 rfl (lv_at hl 2 rfl) ?_
                have hv3252 : V3248 x 0 = .ref (ad 0) := Eq.trans (congrFun (hF3250 _ (by rw [(FX.f0 hF)]; exact fun h => by cases h) (K_ne (FX.f0 hF) (FX.f9 hF) (by decide))) 0) hv3243
                refine th_get C hS.1 (FX.f0 hF) fl_RX11_12 hv3252 dX11_cell_116 ?_
                have hv3253 : V3239 (ad 0) 7 = .ref (ad 3) := Eq.trans (congrFun (hF3241 _ (by rw [(FX.f2 hF)]; exact fun h => by cases h) (K_ne (FX.f2 hF) (FX.f7 hF) (by decide))) 7) (FX.f10 hF)
                have hv3254 : V3248 (ad 0) 7 = .ref (ad 3) := Eq.trans (congrFun (hF3250 _ (by rw [(FX.f2 hF)]; exact fun h => by cases h) (K_ne (FX.f2 hF) (FX.f9 hF) (by decide))) 7) hv3253
                refine th_get C hS.1 (FX.f2 hF) fl_RX11_129 hv3254 dX11_cell_119 ?_
                refine lv_iload_n hx hb dX11_cell_122 rfl (lv_at hl 3 rfl) ?_
                refine lv_iload hx hb dX11_cell_123 (lv_at hl 6 rfl) ?_
                refine th_govH hS rfl (th_runS (As := [.ref (ad 3), .int c, .int way]) (rest := []) C hS.1 gS_RX11_108 (t_X4_put iz_c iz_way (FX.f11 hF) (by decide)) hl rfl rfl rfl rfl ⟨Nat.le_of_ble_eq_true rfl, Nat.le_of_ble_eq_true rfl⟩ (Nat.le_of_ble_eq_true rfl) ⟨Nat.le_of_ble_eq_true rfl, Nat.le_of_ble_eq_true rfl⟩ dX11_cell_125) (fun K3257 V3258 H locs1 hq3256 hE3259 hS => ?_)
                obtain ⟨rfl, hF3260⟩ := hq3256
                refine lv_aload_n hx hb dX11_cell_128 rfl (lv_at hl 2 rfl) ?_
                have hv3262 : V3258 x 0 = .ref (ad 0) := Eq.trans (congrFun (hF3260 _ (by rw [(FX.f0 hF)]; exact fun h => by cases h) (K_ne (FX.f0 hF) (FX.f11 hF) (by decide))) 0) hv3252
                refine th_get C hS.1 (FX.f0 hF) fl_RX11_12 hv3262 dX11_cell_129 ?_
                have hv3263 : V3239 (ad 0) 8 = .ref (ad 4) := Eq.trans (congrFun (hF3241 _ (by rw [(FX.f2 hF)]; exact fun h => by cases h) (K_ne (FX.f2 hF) (FX.f7 hF) (by decide))) 8) (FX.f12 hF)
                have hv3264 : V3248 (ad 0) 8 = .ref (ad 4) := Eq.trans (congrFun (hF3250 _ (by rw [(FX.f2 hF)]; exact fun h => by cases h) (K_ne (FX.f2 hF) (FX.f9 hF) (by decide))) 8) hv3263
                have hv3265 : V3258 (ad 0) 8 = .ref (ad 4) := Eq.trans (congrFun (hF3260 _ (by rw [(FX.f2 hF)]; exact fun h => by cases h) (K_ne (FX.f2 hF) (FX.f11 hF) (by decide))) 8) hv3264
                refine th_get C hS.1 (FX.f2 hF) fl_RX11_132 hv3265 dX11_cell_132 ?_
                refine lv_iload_n hx hb dX11_cell_135 rfl (lv_at hl 3 rfl) ?_
                refine lv_iload hx hb dX11_cell_136 (lv_at hl 7 rfl) ?_
                refine th_govH hS rfl (th_runS (As := [.ref (ad 4), .int c, .int dy]) (rest := []) C hS.1 gS_RX11_108 (t_X4_put iz_c iz_dy (FX.f13 hF) (by decide)) hl rfl rfl rfl rfl ⟨Nat.le_of_ble_eq_true rfl, Nat.le_of_ble_eq_true rfl⟩ (Nat.le_of_ble_eq_true rfl) ⟨Nat.le_of_ble_eq_true rfl, Nat.le_of_ble_eq_true rfl⟩ dX11_cell_138) (fun K3268 V3269 H locs1 hq3267 hE3270 hS => ?_)
                obtain ⟨rfl, hF3271⟩ := hq3267
                refine lv_iconst (v := 1) hx hb dX11_cell_141 (by decide) ?_
                exact th_retzH (post := fun r K1 V1 => (∀ b, K b = some (0, 11) → V1 b = V b) ∧ ((((0 ≤ c_i ∧ c_i ≤ 63) ∧ (0 ≤ up_i ∧ up_i ≤ 40) ∧ (0 ≤ gd_i ∧ gd_i ≤ 3) ∧ ((way_i = (-1) ∧ dy_i = 0) ∨ ((0 ≤ way_i ∧ way_i ≤ 7) ∧ (10 ≤ dy_i ∧ dy_i ≤ 3600)))) ∧ r.toInt = 1) ∨ (((0 > c_i ∨ c_i > 63) ∨ (0 > up_i ∨ up_i > 40) ∨ (0 > gd_i ∨ gd_i > 3) ∨ ((way_i ≠ (-1) ∨ dy_i ≠ 0) ∧ ((0 > way_i ∨ way_i > 7) ∨ (10 > dy_i ∨ dy_i > 3600)))) ∧ r.toInt = 0))) (cells := 0) (slots := 0) (mc := 0) (ms := 0) C hS (by have hfin := li_1; omega) ⟨(fun b hb  => Eq.trans (hF3271 _ (by rw [hb]; exact fun h => by cases h) (K_ne hb (FX.f13 hF) (by decide))) (Eq.trans (hF3260 _ (by rw [hb]; exact fun h => by cases h) (K_ne hb (FX.f11 hF) (by decide))) (Eq.trans (hF3250 _ (by rw [hb]; exact fun h => by cases h) (K_ne hb (FX.f9 hF) (by decide))) ((hF3241 _ (by rw [hb]; exact fun h => by cases h) (K_ne hb (FX.f7 hF) (by decide))))))), (Or.inl ⟨by omega, li_1⟩)⟩ (Nat.le_of_ble_eq_true rfl) (Nat.le_of_ble_eq_true rfl) dX11_cell_142
  · refine lv_iload hx hb dX11_cell_6 (lv_at hl 5 rfl) ?_
    refine th_if_ne (X := dy_i) (tgt := 15) hx hb dX11_cell_8 (by decide) iz_dy (fun c3273 => ?_) (fun c3273 => ?_)
    · refine lv_iconst (v := 0) hx hb dX11_cell_15 (by decide) ?_
      refine lv_istore (lv' := [(6, .int 0), (0, .ref x), (1, .int c), (2, .int up), (3, .int gd), (4, .int way), (5, .int dy)]) hx hb dX11_cell_16 hl (by decide) rfl (fun ls hl => ?_)
      refine lv_iload hx hb dX11_cell_18 (lv_at hl 5 rfl) ?_
      refine lv_iconst (v := 0) hx hb dX11_cell_20 (by decide) ?_
      refine lv_bipush (v := 7) hx hb dX11_cell_21 (by decide) ?_
      refine th_goi (th_runS (As := [.int way, .int 0, .int 7]) (rest := []) C hS.1 gS_RX11_112 (t_X11_between iz_way li_0 li_7) hl rfl rfl rfl rfl ⟨Nat.le_of_ble_eq_true rfl, Nat.le_of_ble_eq_true rfl⟩ (Nat.le_of_ble_eq_true rfl) ⟨Nat.le_of_ble_eq_true rfl, Nat.le_of_ble_eq_true rfl⟩ dX11_cell_23) (fun r3274 hq3275 => ?_)
      refine th_if_eq (X := r3274.toInt) (tgt := 46) hx hb dX11_cell_26 (by decide) rfl (fun c3276 => ?_) (fun c3276 => absurd c3276 (by omega))
      refine lv_iconst (v := 0) hx hb dX11_cell_46 (by decide) ?_
      refine lv_istore (lv' := [(7, .int 0), (6, .int 0), (0, .ref x), (1, .int c), (2, .int up), (3, .int gd), (4, .int way), (5, .int dy)]) hx hb dX11_cell_47 hl (by decide) rfl (fun ls hl => ?_)
      refine lv_aload_n hx hb dX11_cell_49 rfl (lv_at hl 2 rfl) ?_
      refine th_get C hS.1 (FX.f0 hF) fl_RX11_12 (FX.f1 hF) dX11_cell_50 ?_
      refine lv_iload_n hx hb dX11_cell_53 rfl (lv_at hl 3 rfl) ?_
      refine th_goi (th_runV (As := [.int c]) (rest := []) C hS.1 (RX0, TX0, 13) rfl gV_RX11_119 (FX.f2 hF) (t_X0_isCell iz_c (FX.f2 hF) (FX.f4 hF) (FX.f5 hF)) hl rfl rfl rfl rfl ⟨Nat.le_of_ble_eq_true rfl, Nat.le_of_ble_eq_true rfl⟩ (Nat.le_of_ble_eq_true rfl) ⟨Nat.le_of_ble_eq_true rfl, Nat.le_of_ble_eq_true rfl⟩ dX11_cell_54) (fun r3277 hq3278 => ?_)
      refine th_if_eq (X := r3277.toInt) (tgt := 89) hx hb dX11_cell_57 (by decide) rfl (fun c3279 => ?_) (fun c3279 => ?_)
      · replace hq3278 := Or.resolve_left hq3278 (fun h => absurd h.2 (by omega))
        refine lv_iconst (v := 0) hx hb dX11_cell_89 (by decide) ?_
        exact th_retzH (post := fun r K1 V1 => (∀ b, K b = some (0, 11) → V1 b = V b) ∧ ((((0 ≤ c_i ∧ c_i ≤ 63) ∧ (0 ≤ up_i ∧ up_i ≤ 40) ∧ (0 ≤ gd_i ∧ gd_i ≤ 3) ∧ ((way_i = (-1) ∧ dy_i = 0) ∨ ((0 ≤ way_i ∧ way_i ≤ 7) ∧ (10 ≤ dy_i ∧ dy_i ≤ 3600)))) ∧ r.toInt = 1) ∨ (((0 > c_i ∨ c_i > 63) ∨ (0 > up_i ∨ up_i > 40) ∨ (0 > gd_i ∨ gd_i > 3) ∨ ((way_i ≠ (-1) ∨ dy_i ≠ 0) ∧ ((0 > way_i ∨ way_i > 7) ∨ (10 > dy_i ∨ dy_i > 3600)))) ∧ r.toInt = 0))) (cells := 0) (slots := 0) (mc := 0) (ms := 0) C hS (by have hfin := li_0; omega) ⟨(fun b hb => rfl), (Or.inr (⟨by omega, li_0⟩))⟩ (Nat.le_of_ble_eq_true rfl) (Nat.le_of_ble_eq_true rfl) dX11_cell_90
      · replace hq3278 := Or.resolve_right hq3278 (fun h => absurd h.2 (by omega))
        refine lv_iload_n hx hb dX11_cell_60 rfl (lv_at hl 4 rfl) ?_
        refine lv_iconst (v := 0) hx hb dX11_cell_61 (by decide) ?_
        refine lv_bipush (v := 40) hx hb dX11_cell_62 (by decide) ?_
        refine th_goi (th_runS (As := [.int up, .int 0, .int 40]) (rest := []) C hS.1 gS_RX11_112 (t_X11_between iz_up li_0 li_40) hl rfl rfl rfl rfl ⟨Nat.le_of_ble_eq_true rfl, Nat.le_of_ble_eq_true rfl⟩ (Nat.le_of_ble_eq_true rfl) ⟨Nat.le_of_ble_eq_true rfl, Nat.le_of_ble_eq_true rfl⟩ dX11_cell_64) (fun r3280 hq3281 => ?_)
        refine th_if_eq (X := r3280.toInt) (tgt := 89) hx hb dX11_cell_67 (by decide) rfl (fun c3282 => ?_) (fun c3282 => ?_)
        · replace hq3281 := Or.resolve_left hq3281 (fun h => absurd h.2 (by omega))
          refine lv_iconst (v := 0) hx hb dX11_cell_89 (by decide) ?_
          exact th_retzH (post := fun r K1 V1 => (∀ b, K b = some (0, 11) → V1 b = V b) ∧ ((((0 ≤ c_i ∧ c_i ≤ 63) ∧ (0 ≤ up_i ∧ up_i ≤ 40) ∧ (0 ≤ gd_i ∧ gd_i ≤ 3) ∧ ((way_i = (-1) ∧ dy_i = 0) ∨ ((0 ≤ way_i ∧ way_i ≤ 7) ∧ (10 ≤ dy_i ∧ dy_i ≤ 3600)))) ∧ r.toInt = 1) ∨ (((0 > c_i ∨ c_i > 63) ∨ (0 > up_i ∨ up_i > 40) ∨ (0 > gd_i ∨ gd_i > 3) ∨ ((way_i ≠ (-1) ∨ dy_i ≠ 0) ∧ ((0 > way_i ∨ way_i > 7) ∨ (10 > dy_i ∨ dy_i > 3600)))) ∧ r.toInt = 0))) (cells := 0) (slots := 0) (mc := 0) (ms := 0) C hS (by have hfin := li_0; omega) ⟨(fun b hb => rfl), (Or.inr (⟨by omega, li_0⟩))⟩ (Nat.le_of_ble_eq_true rfl) (Nat.le_of_ble_eq_true rfl) dX11_cell_90
        · replace hq3281 := Or.resolve_right hq3281 (fun h => absurd h.2 (by omega))
          refine lv_iload_n hx hb dX11_cell_70 rfl (lv_at hl 5 rfl) ?_
          refine lv_iconst (v := 0) hx hb dX11_cell_71 (by decide) ?_
          refine lv_iconst (v := 3) hx hb dX11_cell_72 (by decide) ?_
          refine th_goi (th_runS (As := [.int gd, .int 0, .int 3]) (rest := []) C hS.1 gS_RX11_112 (t_X11_between iz_gd li_0 li_3) hl rfl rfl rfl rfl ⟨Nat.le_of_ble_eq_true rfl, Nat.le_of_ble_eq_true rfl⟩ (Nat.le_of_ble_eq_true rfl) ⟨Nat.le_of_ble_eq_true rfl, Nat.le_of_ble_eq_true rfl⟩ dX11_cell_73) (fun r3283 hq3284 => ?_)
          refine th_if_eq (X := r3283.toInt) (tgt := 89) hx hb dX11_cell_76 (by decide) rfl (fun c3285 => ?_) (fun c3285 => ?_)
          · replace hq3284 := Or.resolve_left hq3284 (fun h => absurd h.2 (by omega))
            refine lv_iconst (v := 0) hx hb dX11_cell_89 (by decide) ?_
            exact th_retzH (post := fun r K1 V1 => (∀ b, K b = some (0, 11) → V1 b = V b) ∧ ((((0 ≤ c_i ∧ c_i ≤ 63) ∧ (0 ≤ up_i ∧ up_i ≤ 40) ∧ (0 ≤ gd_i ∧ gd_i ≤ 3) ∧ ((way_i = (-1) ∧ dy_i = 0) ∨ ((0 ≤ way_i ∧ way_i ≤ 7) ∧ (10 ≤ dy_i ∧ dy_i ≤ 3600)))) ∧ r.toInt = 1) ∨ (((0 > c_i ∨ c_i > 63) ∨ (0 > up_i ∨ up_i > 40) ∨ (0 > gd_i ∨ gd_i > 3) ∨ ((way_i ≠ (-1) ∨ dy_i ≠ 0) ∧ ((0 > way_i ∨ way_i > 7) ∨ (10 > dy_i ∨ dy_i > 3600)))) ∧ r.toInt = 0))) (cells := 0) (slots := 0) (mc := 0) (ms := 0) C hS (by have hfin := li_0; omega) ⟨(fun b hb => rfl), (Or.inr (⟨by omega, li_0⟩))⟩ (Nat.le_of_ble_eq_true rfl) (Nat.le_of_ble_eq_true rfl) dX11_cell_90
          · replace hq3284 := Or.resolve_right hq3284 (fun h => absurd h.2 (by omega))
            refine lv_iload hx hb dX11_cell_79 (lv_at hl 1 rfl) ?_
            refine th_if_ne (X := 0) (tgt := 91) hx hb dX11_cell_81 (by decide) li_0 (fun c3286 => ?_) (fun c3286 => ?_)
            · refine lv_aload_n hx hb dX11_cell_91 rfl (lv_at hl 2 rfl) ?_
              refine th_get C hS.1 (FX.f0 hF) fl_RX11_12 (FX.f1 hF) dX11_cell_92 ?_
              refine th_get C hS.1 (FX.f2 hF) fl_RX11_123 (FX.f6 hF) dX11_cell_95 ?_
              refine lv_iload_n hx hb dX11_cell_98 rfl (lv_at hl 3 rfl) ?_
              refine lv_iload_n hx hb dX11_cell_99 rfl (lv_at hl 4 rfl) ?_
              refine th_govH hS rfl (th_runS (As := [.ref (ad 1), .int c, .int up]) (rest := []) C hS.1 gS_RX11_108 (t_X4_put iz_c iz_up (FX.f7 hF) (by decide)) hl rfl rfl rfl rfl ⟨Nat.le_of_ble_eq_true rfl, Nat.le_of_ble_eq_true rfl⟩ (Nat.le_of_ble_eq_true rfl) ⟨Nat.le_of_ble_eq_true rfl, Nat.le_of_ble_eq_true rfl⟩ dX11_cell_100) (fun K3289 V3290 H locs1 hq3288 hE3291 hS => ?_)
              obtain ⟨rfl, hF3292⟩ := hq3288
              refine lv_aload_n hx hb dX11_cell_103 rfl (lv_at hl 2 rfl) ?_
              have hv3294 : V3290 x 0 = .ref (ad 0) := Eq.trans (congrFun (hF3292 _ (by rw [(FX.f0 hF)]; exact fun h => by cases h) (K_ne (FX.f0 hF) (FX.f7 hF) (by decide))) 0) (FX.f1 hF)
              refine th_get C hS.1 (FX.f0 hF) fl_RX11_12 hv3294 dX11_cell_104 ?_
              have hv3295 : V3290 (ad 0) 6 = .ref (ad 2) := Eq.trans (congrFun (hF3292 _ (by rw [(FX.f2 hF)]; exact fun h => by cases h) (K_ne (FX.f2 hF) (FX.f7 hF) (by decide))) 6) (FX.f8 hF)
              refine th_get C hS.1 (FX.f2 hF) fl_RX11_126 hv3295 dX11_cell_107 ?_
              refine lv_iload_n hx hb dX11_cell_110 rfl (lv_at hl 3 rfl) ?_
              refine lv_iload_n hx hb dX11_cell_111 rfl (lv_at hl 5 rfl) ?_
              refine th_govH hS rfl (th_runS (As := [.ref (ad 2), .int c, .int gd]) (rest := []) C hS.1 gS_RX11_108 (t_X4_put iz_c iz_gd (FX.f9 hF) (by decide)) hl rfl rfl rfl rfl ⟨Nat.le_of_ble_eq_true rfl, Nat.le_of_ble_eq_true rfl⟩ (Nat.le_of_ble_eq_true rfl) ⟨Nat.le_of_ble_eq_true rfl, Nat.le_of_ble_eq_true rfl⟩ dX11_cell_112) (fun K3298 V3299 H locs1 hq3297 hE3300 hS => ?_)
              obtain ⟨rfl, hF3301⟩ := hq3297
              refine lv_aload_n hx hb dX11_cell_115 rfl (lv_at hl 2 rfl) ?_
              have hv3303 : V3299 x 0 = .ref (ad 0) := Eq.trans (congrFun (hF3301 _ (by rw [(FX.f0 hF)]; exact fun h => by cases h) (K_ne (FX.f0 hF) (FX.f9 hF) (by decide))) 0) hv3294
              refine th_get C hS.1 (FX.f0 hF) fl_RX11_12 hv3303 dX11_cell_116 ?_
              have hv3304 : V3290 (ad 0) 7 = .ref (ad 3) := Eq.trans (congrFun (hF3292 _ (by rw [(FX.f2 hF)]; exact fun h => by cases h) (K_ne (FX.f2 hF) (FX.f7 hF) (by decide))) 7) (FX.f10 hF)
              have hv3305 : V3299 (ad 0) 7 = .ref (ad 3) := Eq.trans (congrFun (hF3301 _ (by rw [(FX.f2 hF)]; exact fun h => by cases h) (K_ne (FX.f2 hF) (FX.f9 hF) (by decide))) 7) hv3304
              refine th_get C hS.1 (FX.f2 hF) fl_RX11_129 hv3305 dX11_cell_119 ?_
              refine lv_iload_n hx hb dX11_cell_122 rfl (lv_at hl 3 rfl) ?_
              refine lv_iload hx hb dX11_cell_123 (lv_at hl 6 rfl) ?_
              refine th_govH hS rfl (th_runS (As := [.ref (ad 3), .int c, .int way]) (rest := []) C hS.1 gS_RX11_108 (t_X4_put iz_c iz_way (FX.f11 hF) (by decide)) hl rfl rfl rfl rfl ⟨Nat.le_of_ble_eq_true rfl, Nat.le_of_ble_eq_true rfl⟩ (Nat.le_of_ble_eq_true rfl) ⟨Nat.le_of_ble_eq_true rfl, Nat.le_of_ble_eq_true rfl⟩ dX11_cell_125) (fun K3308 V3309 H locs1 hq3307 hE3310 hS => ?_)
              obtain ⟨rfl, hF3311⟩ := hq3307
              refine lv_aload_n hx hb dX11_cell_128 rfl (lv_at hl 2 rfl) ?_
              have hv3313 : V3309 x 0 = .ref (ad 0) := Eq.trans (congrFun (hF3311 _ (by rw [(FX.f0 hF)]; exact fun h => by cases h) (K_ne (FX.f0 hF) (FX.f11 hF) (by decide))) 0) hv3303
              refine th_get C hS.1 (FX.f0 hF) fl_RX11_12 hv3313 dX11_cell_129 ?_
              have hv3314 : V3290 (ad 0) 8 = .ref (ad 4) := Eq.trans (congrFun (hF3292 _ (by rw [(FX.f2 hF)]; exact fun h => by cases h) (K_ne (FX.f2 hF) (FX.f7 hF) (by decide))) 8) (FX.f12 hF)
              have hv3315 : V3299 (ad 0) 8 = .ref (ad 4) := Eq.trans (congrFun (hF3301 _ (by rw [(FX.f2 hF)]; exact fun h => by cases h) (K_ne (FX.f2 hF) (FX.f9 hF) (by decide))) 8) hv3314
              have hv3316 : V3309 (ad 0) 8 = .ref (ad 4) := Eq.trans (congrFun (hF3311 _ (by rw [(FX.f2 hF)]; exact fun h => by cases h) (K_ne (FX.f2 hF) (FX.f11 hF) (by decide))) 8) hv3315
              refine th_get C hS.1 (FX.f2 hF) fl_RX11_132 hv3316 dX11_cell_132 ?_
              refine lv_iload_n hx hb dX11_cell_135 rfl (lv_at hl 3 rfl) ?_
              refine lv_iload hx hb dX11_cell_136 (lv_at hl 7 rfl) ?_
              refine th_govH hS rfl (th_runS (As := [.ref (ad 4), .int c, .int dy]) (rest := []) C hS.1 gS_RX11_108 (t_X4_put iz_c iz_dy (FX.f13 hF) (by decide)) hl rfl rfl rfl rfl ⟨Nat.le_of_ble_eq_true rfl, Nat.le_of_ble_eq_true rfl⟩ (Nat.le_of_ble_eq_true rfl) ⟨Nat.le_of_ble_eq_true rfl, Nat.le_of_ble_eq_true rfl⟩ dX11_cell_138) (fun K3319 V3320 H locs1 hq3318 hE3321 hS => ?_)
              obtain ⟨rfl, hF3322⟩ := hq3318
              refine lv_iconst (v := 1) hx hb dX11_cell_141 (by decide) ?_
              exact th_retzH (post := fun r K1 V1 => (∀ b, K b = some (0, 11) → V1 b = V b) ∧ ((((0 ≤ c_i ∧ c_i ≤ 63) ∧ (0 ≤ up_i ∧ up_i ≤ 40) ∧ (0 ≤ gd_i ∧ gd_i ≤ 3) ∧ ((way_i = (-1) ∧ dy_i = 0) ∨ ((0 ≤ way_i ∧ way_i ≤ 7) ∧ (10 ≤ dy_i ∧ dy_i ≤ 3600)))) ∧ r.toInt = 1) ∨ (((0 > c_i ∨ c_i > 63) ∨ (0 > up_i ∨ up_i > 40) ∨ (0 > gd_i ∨ gd_i > 3) ∨ ((way_i ≠ (-1) ∨ dy_i ≠ 0) ∧ ((0 > way_i ∨ way_i > 7) ∨ (10 > dy_i ∨ dy_i > 3600)))) ∧ r.toInt = 0))) (cells := 0) (slots := 0) (mc := 0) (ms := 0) C hS (by have hfin := li_1; omega) ⟨(fun b hb  => Eq.trans (hF3322 _ (by rw [hb]; exact fun h => by cases h) (K_ne hb (FX.f13 hF) (by decide))) (Eq.trans (hF3311 _ (by rw [hb]; exact fun h => by cases h) (K_ne hb (FX.f11 hF) (by decide))) (Eq.trans (hF3301 _ (by rw [hb]; exact fun h => by cases h) (K_ne hb (FX.f9 hF) (by decide))) ((hF3292 _ (by rw [hb]; exact fun h => by cases h) (K_ne hb (FX.f7 hF) (by decide))))))), (Or.inl ⟨by omega, li_1⟩)⟩ (Nat.le_of_ble_eq_true rfl) (Nat.le_of_ble_eq_true rfl) dX11_cell_142
            · refine lv_iload hx hb dX11_cell_84 (lv_at hl 0 rfl) ?_
              refine th_if_ne (X := 0) (tgt := 91) hx hb dX11_cell_86 (by decide) li_0 (fun c3324 => ?_) (fun c3324 => ?_)
              · refine lv_aload_n hx hb dX11_cell_91 rfl (lv_at hl 2 rfl) ?_
                refine th_get C hS.1 (FX.f0 hF) fl_RX11_12 (FX.f1 hF) dX11_cell_92 ?_
                refine th_get C hS.1 (FX.f2 hF) fl_RX11_123 (FX.f6 hF) dX11_cell_95 ?_
                refine lv_iload_n hx hb dX11_cell_98 rfl (lv_at hl 3 rfl) ?_
                refine lv_iload_n hx hb dX11_cell_99 rfl (lv_at hl 4 rfl) ?_
                refine th_govH hS rfl (th_runS (As := [.ref (ad 1), .int c, .int up]) (rest := []) C hS.1 gS_RX11_108 (t_X4_put iz_c iz_up (FX.f7 hF) (by decide)) hl rfl rfl rfl rfl ⟨Nat.le_of_ble_eq_true rfl, Nat.le_of_ble_eq_true rfl⟩ (Nat.le_of_ble_eq_true rfl) ⟨Nat.le_of_ble_eq_true rfl, Nat.le_of_ble_eq_true rfl⟩ dX11_cell_100) (fun K3327 V3328 H locs1 hq3326 hE3329 hS => ?_)
                obtain ⟨rfl, hF3330⟩ := hq3326
                refine lv_aload_n hx hb dX11_cell_103 rfl (lv_at hl 2 rfl) ?_
                have hv3332 : V3328 x 0 = .ref (ad 0) := Eq.trans (congrFun (hF3330 _ (by rw [(FX.f0 hF)]; exact fun h => by cases h) (K_ne (FX.f0 hF) (FX.f7 hF) (by decide))) 0) (FX.f1 hF)
                refine th_get C hS.1 (FX.f0 hF) fl_RX11_12 hv3332 dX11_cell_104 ?_
                have hv3333 : V3328 (ad 0) 6 = .ref (ad 2) := Eq.trans (congrFun (hF3330 _ (by rw [(FX.f2 hF)]; exact fun h => by cases h) (K_ne (FX.f2 hF) (FX.f7 hF) (by decide))) 6) (FX.f8 hF)
                refine th_get C hS.1 (FX.f2 hF) fl_RX11_126 hv3333 dX11_cell_107 ?_
                refine lv_iload_n hx hb dX11_cell_110 rfl (lv_at hl 3 rfl) ?_
                refine lv_iload_n hx hb dX11_cell_111 rfl (lv_at hl 5 rfl) ?_
                refine th_govH hS rfl (th_runS (As := [.ref (ad 2), .int c, .int gd]) (rest := []) C hS.1 gS_RX11_108 (t_X4_put iz_c iz_gd (FX.f9 hF) (by decide)) hl rfl rfl rfl rfl ⟨Nat.le_of_ble_eq_true rfl, Nat.le_of_ble_eq_true rfl⟩ (Nat.le_of_ble_eq_true rfl) ⟨Nat.le_of_ble_eq_true rfl, Nat.le_of_ble_eq_true rfl⟩ dX11_cell_112) (fun K3336 V3337 H locs1 hq3335 hE3338 hS => ?_)
                obtain ⟨rfl, hF3339⟩ := hq3335
                refine lv_aload_n hx hb dX11_cell_115 rfl (lv_at hl 2 rfl) ?_
                have hv3341 : V3337 x 0 = .ref (ad 0) := Eq.trans (congrFun (hF3339 _ (by rw [(FX.f0 hF)]; exact fun h => by cases h) (K_ne (FX.f0 hF) (FX.f9 hF) (by decide))) 0) hv3332
                refine th_get C hS.1 (FX.f0 hF) fl_RX11_12 hv3341 dX11_cell_116 ?_
                have hv3342 : V3328 (ad 0) 7 = .ref (ad 3) := Eq.trans (congrFun (hF3330 _ (by rw [(FX.f2 hF)]; exact fun h => by cases h) (K_ne (FX.f2 hF) (FX.f7 hF) (by decide))) 7) (FX.f10 hF)
                have hv3343 : V3337 (ad 0) 7 = .ref (ad 3) := Eq.trans (congrFun (hF3339 _ (by rw [(FX.f2 hF)]; exact fun h => by cases h) (K_ne (FX.f2 hF) (FX.f9 hF) (by decide))) 7) hv3342
                refine th_get C hS.1 (FX.f2 hF) fl_RX11_129 hv3343 dX11_cell_119 ?_
                refine lv_iload_n hx hb dX11_cell_122 rfl (lv_at hl 3 rfl) ?_
                refine lv_iload hx hb dX11_cell_123 (lv_at hl 6 rfl) ?_
                refine th_govH hS rfl (th_runS (As := [.ref (ad 3), .int c, .int way]) (rest := []) C hS.1 gS_RX11_108 (t_X4_put iz_c iz_way (FX.f11 hF) (by decide)) hl rfl rfl rfl rfl ⟨Nat.le_of_ble_eq_true rfl, Nat.le_of_ble_eq_true rfl⟩ (Nat.le_of_ble_eq_true rfl) ⟨Nat.le_of_ble_eq_true rfl, Nat.le_of_ble_eq_true rfl⟩ dX11_cell_125) (fun K3346 V3347 H locs1 hq3345 hE3348 hS => ?_)
                obtain ⟨rfl, hF3349⟩ := hq3345
                refine lv_aload_n hx hb dX11_cell_128 rfl (lv_at hl 2 rfl) ?_
                have hv3351 : V3347 x 0 = .ref (ad 0) := Eq.trans (congrFun (hF3349 _ (by rw [(FX.f0 hF)]; exact fun h => by cases h) (K_ne (FX.f0 hF) (FX.f11 hF) (by decide))) 0) hv3341
                refine th_get C hS.1 (FX.f0 hF) fl_RX11_12 hv3351 dX11_cell_129 ?_
                have hv3352 : V3328 (ad 0) 8 = .ref (ad 4) := Eq.trans (congrFun (hF3330 _ (by rw [(FX.f2 hF)]; exact fun h => by cases h) (K_ne (FX.f2 hF) (FX.f7 hF) (by decide))) 8) (FX.f12 hF)
                have hv3353 : V3337 (ad 0) 8 = .ref (ad 4) := Eq.trans (congrFun (hF3339 _ (by rw [(FX.f2 hF)]; exact fun h => by cases h) (K_ne (FX.f2 hF) (FX.f9 hF) (by decide))) 8) hv3352
                have hv3354 : V3347 (ad 0) 8 = .ref (ad 4) := Eq.trans (congrFun (hF3349 _ (by rw [(FX.f2 hF)]; exact fun h => by cases h) (K_ne (FX.f2 hF) (FX.f11 hF) (by decide))) 8) hv3353
                refine th_get C hS.1 (FX.f2 hF) fl_RX11_132 hv3354 dX11_cell_132 ?_
                refine lv_iload_n hx hb dX11_cell_135 rfl (lv_at hl 3 rfl) ?_
                refine lv_iload hx hb dX11_cell_136 (lv_at hl 7 rfl) ?_
                refine th_govH hS rfl (th_runS (As := [.ref (ad 4), .int c, .int dy]) (rest := []) C hS.1 gS_RX11_108 (t_X4_put iz_c iz_dy (FX.f13 hF) (by decide)) hl rfl rfl rfl rfl ⟨Nat.le_of_ble_eq_true rfl, Nat.le_of_ble_eq_true rfl⟩ (Nat.le_of_ble_eq_true rfl) ⟨Nat.le_of_ble_eq_true rfl, Nat.le_of_ble_eq_true rfl⟩ dX11_cell_138) (fun K3357 V3358 H locs1 hq3356 hE3359 hS => ?_)
                obtain ⟨rfl, hF3360⟩ := hq3356
                refine lv_iconst (v := 1) hx hb dX11_cell_141 (by decide) ?_
                exact th_retzH (post := fun r K1 V1 => (∀ b, K b = some (0, 11) → V1 b = V b) ∧ ((((0 ≤ c_i ∧ c_i ≤ 63) ∧ (0 ≤ up_i ∧ up_i ≤ 40) ∧ (0 ≤ gd_i ∧ gd_i ≤ 3) ∧ ((way_i = (-1) ∧ dy_i = 0) ∨ ((0 ≤ way_i ∧ way_i ≤ 7) ∧ (10 ≤ dy_i ∧ dy_i ≤ 3600)))) ∧ r.toInt = 1) ∨ (((0 > c_i ∨ c_i > 63) ∨ (0 > up_i ∨ up_i > 40) ∨ (0 > gd_i ∨ gd_i > 3) ∨ ((way_i ≠ (-1) ∨ dy_i ≠ 0) ∧ ((0 > way_i ∨ way_i > 7) ∨ (10 > dy_i ∨ dy_i > 3600)))) ∧ r.toInt = 0))) (cells := 0) (slots := 0) (mc := 0) (ms := 0) C hS (by have hfin := li_1; omega) ⟨(fun b hb  => Eq.trans (hF3360 _ (by rw [hb]; exact fun h => by cases h) (K_ne hb (FX.f13 hF) (by decide))) (Eq.trans (hF3349 _ (by rw [hb]; exact fun h => by cases h) (K_ne hb (FX.f11 hF) (by decide))) (Eq.trans (hF3339 _ (by rw [hb]; exact fun h => by cases h) (K_ne hb (FX.f9 hF) (by decide))) ((hF3330 _ (by rw [hb]; exact fun h => by cases h) (K_ne hb (FX.f7 hF) (by decide))))))), (Or.inl ⟨by omega, li_1⟩)⟩ (Nat.le_of_ble_eq_true rfl) (Nat.le_of_ble_eq_true rfl) dX11_cell_142
              · refine lv_iconst (v := 0) hx hb dX11_cell_89 (by decide) ?_
                exact th_retzH (post := fun r K1 V1 => (∀ b, K b = some (0, 11) → V1 b = V b) ∧ ((((0 ≤ c_i ∧ c_i ≤ 63) ∧ (0 ≤ up_i ∧ up_i ≤ 40) ∧ (0 ≤ gd_i ∧ gd_i ≤ 3) ∧ ((way_i = (-1) ∧ dy_i = 0) ∨ ((0 ≤ way_i ∧ way_i ≤ 7) ∧ (10 ≤ dy_i ∧ dy_i ≤ 3600)))) ∧ r.toInt = 1) ∨ (((0 > c_i ∨ c_i > 63) ∨ (0 > up_i ∨ up_i > 40) ∨ (0 > gd_i ∨ gd_i > 3) ∨ ((way_i ≠ (-1) ∨ dy_i ≠ 0) ∧ ((0 > way_i ∨ way_i > 7) ∨ (10 > dy_i ∨ dy_i > 3600)))) ∧ r.toInt = 0))) (cells := 0) (slots := 0) (mc := 0) (ms := 0) C hS (by have hfin := li_0; omega) ⟨(fun b hb => rfl), (Or.inr (⟨by omega, li_0⟩))⟩ (Nat.le_of_ble_eq_true rfl) (Nat.le_of_ble_eq_true rfl) dX11_cell_90
    · refine lv_iconst (v := 1) hx hb dX11_cell_11 (by decide) ?_
      refine lv_goto (tgt := 16) hx hb dX11_cell_12 (by decide) ?_
      refine lv_istore (lv' := [(6, .int 1), (0, .ref x), (1, .int c), (2, .int up), (3, .int gd), (4, .int way), (5, .int dy)]) hx hb dX11_cell_16 hl (by decide) rfl (fun ls hl => ?_)
      refine lv_iload hx hb dX11_cell_18 (lv_at hl 5 rfl) ?_
      refine lv_iconst (v := 0) hx hb dX11_cell_20 (by decide) ?_
      refine lv_bipush (v := 7) hx hb dX11_cell_21 (by decide) ?_
      refine th_goi (th_runS (As := [.int way, .int 0, .int 7]) (rest := []) C hS.1 gS_RX11_112 (t_X11_between iz_way li_0 li_7) hl rfl rfl rfl rfl ⟨Nat.le_of_ble_eq_true rfl, Nat.le_of_ble_eq_true rfl⟩ (Nat.le_of_ble_eq_true rfl) ⟨Nat.le_of_ble_eq_true rfl, Nat.le_of_ble_eq_true rfl⟩ dX11_cell_23) (fun r3362 hq3363 => ?_)
      refine th_if_eq (X := r3362.toInt) (tgt := 46) hx hb dX11_cell_26 (by decide) rfl (fun c3364 => ?_) (fun c3364 => absurd c3364 (by omega))
      refine lv_iconst (v := 0) hx hb dX11_cell_46 (by decide) ?_
      refine lv_istore (lv' := [(7, .int 0), (6, .int 1), (0, .ref x), (1, .int c), (2, .int up), (3, .int gd), (4, .int way), (5, .int dy)]) hx hb dX11_cell_47 hl (by decide) rfl (fun ls hl => ?_)
      refine lv_aload_n hx hb dX11_cell_49 rfl (lv_at hl 2 rfl) ?_
      refine th_get C hS.1 (FX.f0 hF) fl_RX11_12 (FX.f1 hF) dX11_cell_50 ?_
      refine lv_iload_n hx hb dX11_cell_53 rfl (lv_at hl 3 rfl) ?_
      refine th_goi (th_runV (As := [.int c]) (rest := []) C hS.1 (RX0, TX0, 13) rfl gV_RX11_119 (FX.f2 hF) (t_X0_isCell iz_c (FX.f2 hF) (FX.f4 hF) (FX.f5 hF)) hl rfl rfl rfl rfl ⟨Nat.le_of_ble_eq_true rfl, Nat.le_of_ble_eq_true rfl⟩ (Nat.le_of_ble_eq_true rfl) ⟨Nat.le_of_ble_eq_true rfl, Nat.le_of_ble_eq_true rfl⟩ dX11_cell_54) (fun r3365 hq3366 => ?_)
      refine th_if_eq (X := r3365.toInt) (tgt := 89) hx hb dX11_cell_57 (by decide) rfl (fun c3367 => ?_) (fun c3367 => ?_)
      · replace hq3366 := Or.resolve_left hq3366 (fun h => absurd h.2 (by omega))
        refine lv_iconst (v := 0) hx hb dX11_cell_89 (by decide) ?_
        exact th_retzH (post := fun r K1 V1 => (∀ b, K b = some (0, 11) → V1 b = V b) ∧ ((((0 ≤ c_i ∧ c_i ≤ 63) ∧ (0 ≤ up_i ∧ up_i ≤ 40) ∧ (0 ≤ gd_i ∧ gd_i ≤ 3) ∧ ((way_i = (-1) ∧ dy_i = 0) ∨ ((0 ≤ way_i ∧ way_i ≤ 7) ∧ (10 ≤ dy_i ∧ dy_i ≤ 3600)))) ∧ r.toInt = 1) ∨ (((0 > c_i ∨ c_i > 63) ∨ (0 > up_i ∨ up_i > 40) ∨ (0 > gd_i ∨ gd_i > 3) ∨ ((way_i ≠ (-1) ∨ dy_i ≠ 0) ∧ ((0 > way_i ∨ way_i > 7) ∨ (10 > dy_i ∨ dy_i > 3600)))) ∧ r.toInt = 0))) (cells := 0) (slots := 0) (mc := 0) (ms := 0) C hS (by have hfin := li_0; omega) ⟨(fun b hb => rfl), (Or.inr (⟨by omega, li_0⟩))⟩ (Nat.le_of_ble_eq_true rfl) (Nat.le_of_ble_eq_true rfl) dX11_cell_90
      · replace hq3366 := Or.resolve_right hq3366 (fun h => absurd h.2 (by omega))
        refine lv_iload_n hx hb dX11_cell_60 rfl (lv_at hl 4 rfl) ?_
        refine lv_iconst (v := 0) hx hb dX11_cell_61 (by decide) ?_
        refine lv_bipush (v := 40) hx hb dX11_cell_62 (by decide) ?_
        refine th_goi (th_runS (As := [.int up, .int 0, .int 40]) (rest := []) C hS.1 gS_RX11_112 (t_X11_between iz_up li_0 li_40) hl rfl rfl rfl rfl ⟨Nat.le_of_ble_eq_true rfl, Nat.le_of_ble_eq_true rfl⟩ (Nat.le_of_ble_eq_true rfl) ⟨Nat.le_of_ble_eq_true rfl, Nat.le_of_ble_eq_true rfl⟩ dX11_cell_64) (fun r3368 hq3369 => ?_)
        refine th_if_eq (X := r3368.toInt) (tgt := 89) hx hb dX11_cell_67 (by decide) rfl (fun c3370 => ?_) (fun c3370 => ?_)
        · replace hq3369 := Or.resolve_left hq3369 (fun h => absurd h.2 (by omega))
          refine lv_iconst (v := 0) hx hb dX11_cell_89 (by decide) ?_
          exact th_retzH (post := fun r K1 V1 => (∀ b, K b = some (0, 11) → V1 b = V b) ∧ ((((0 ≤ c_i ∧ c_i ≤ 63) ∧ (0 ≤ up_i ∧ up_i ≤ 40) ∧ (0 ≤ gd_i ∧ gd_i ≤ 3) ∧ ((way_i = (-1) ∧ dy_i = 0) ∨ ((0 ≤ way_i ∧ way_i ≤ 7) ∧ (10 ≤ dy_i ∧ dy_i ≤ 3600)))) ∧ r.toInt = 1) ∨ (((0 > c_i ∨ c_i > 63) ∨ (0 > up_i ∨ up_i > 40) ∨ (0 > gd_i ∨ gd_i > 3) ∨ ((way_i ≠ (-1) ∨ dy_i ≠ 0) ∧ ((0 > way_i ∨ way_i > 7) ∨ (10 > dy_i ∨ dy_i > 3600)))) ∧ r.toInt = 0))) (cells := 0) (slots := 0) (mc := 0) (ms := 0) C hS (by have hfin := li_0; omega) ⟨(fun b hb => rfl), (Or.inr (⟨by omega, li_0⟩))⟩ (Nat.le_of_ble_eq_true rfl) (Nat.le_of_ble_eq_true rfl) dX11_cell_90
        · replace hq3369 := Or.resolve_right hq3369 (fun h => absurd h.2 (by omega))
          refine lv_iload_n hx hb dX11_cell_70 rfl (lv_at hl 5 rfl) ?_
          refine lv_iconst (v := 0) hx hb dX11_cell_71 (by decide) ?_
          refine lv_iconst (v := 3) hx hb dX11_cell_72 (by decide) ?_
          refine th_goi (th_runS (As := [.int gd, .int 0, .int 3]) (rest := []) C hS.1 gS_RX11_112 (t_X11_between iz_gd li_0 li_3) hl rfl rfl rfl rfl ⟨Nat.le_of_ble_eq_true rfl, Nat.le_of_ble_eq_true rfl⟩ (Nat.le_of_ble_eq_true rfl) ⟨Nat.le_of_ble_eq_true rfl, Nat.le_of_ble_eq_true rfl⟩ dX11_cell_73) (fun r3371 hq3372 => ?_)
          refine th_if_eq (X := r3371.toInt) (tgt := 89) hx hb dX11_cell_76 (by decide) rfl (fun c3373 => ?_) (fun c3373 => ?_)
          · replace hq3372 := Or.resolve_left hq3372 (fun h => absurd h.2 (by omega))
            refine lv_iconst (v := 0) hx hb dX11_cell_89 (by decide) ?_
            exact th_retzH (post := fun r K1 V1 => (∀ b, K b = some (0, 11) → V1 b = V b) ∧ ((((0 ≤ c_i ∧ c_i ≤ 63) ∧ (0 ≤ up_i ∧ up_i ≤ 40) ∧ (0 ≤ gd_i ∧ gd_i ≤ 3) ∧ ((way_i = (-1) ∧ dy_i = 0) ∨ ((0 ≤ way_i ∧ way_i ≤ 7) ∧ (10 ≤ dy_i ∧ dy_i ≤ 3600)))) ∧ r.toInt = 1) ∨ (((0 > c_i ∨ c_i > 63) ∨ (0 > up_i ∨ up_i > 40) ∨ (0 > gd_i ∨ gd_i > 3) ∨ ((way_i ≠ (-1) ∨ dy_i ≠ 0) ∧ ((0 > way_i ∨ way_i > 7) ∨ (10 > dy_i ∨ dy_i > 3600)))) ∧ r.toInt = 0))) (cells := 0) (slots := 0) (mc := 0) (ms := 0) C hS (by have hfin := li_0; omega) ⟨(fun b hb => rfl), (Or.inr (⟨by omega, li_0⟩))⟩ (Nat.le_of_ble_eq_true rfl) (Nat.le_of_ble_eq_true rfl) dX11_cell_90
          · replace hq3372 := Or.resolve_right hq3372 (fun h => absurd h.2 (by omega))
            refine lv_iload hx hb dX11_cell_79 (lv_at hl 1 rfl) ?_
            refine th_if_ne (X := 1) (tgt := 91) hx hb dX11_cell_81 (by decide) li_1 (fun c3374 => ?_) (fun c3374 => absurd c3374 (by omega))
            refine lv_aload_n hx hb dX11_cell_91 rfl (lv_at hl 2 rfl) ?_
            refine th_get C hS.1 (FX.f0 hF) fl_RX11_12 (FX.f1 hF) dX11_cell_92 ?_
            refine th_get C hS.1 (FX.f2 hF) fl_RX11_123 (FX.f6 hF) dX11_cell_95 ?_
            refine lv_iload_n hx hb dX11_cell_98 rfl (lv_at hl 3 rfl) ?_
            refine lv_iload_n hx hb dX11_cell_99 rfl (lv_at hl 4 rfl) ?_
            refine th_govH hS rfl (th_runS (As := [.ref (ad 1), .int c, .int up]) (rest := []) C hS.1 gS_RX11_108 (t_X4_put iz_c iz_up (FX.f7 hF) (by decide)) hl rfl rfl rfl rfl ⟨Nat.le_of_ble_eq_true rfl, Nat.le_of_ble_eq_true rfl⟩ (Nat.le_of_ble_eq_true rfl) ⟨Nat.le_of_ble_eq_true rfl, Nat.le_of_ble_eq_true rfl⟩ dX11_cell_100) (fun K3377 V3378 H locs1 hq3376 hE3379 hS => ?_)
            obtain ⟨rfl, hF3380⟩ := hq3376
            refine lv_aload_n hx hb dX11_cell_103 rfl (lv_at hl 2 rfl) ?_
            have hv3382 : V3378 x 0 = .ref (ad 0) := Eq.trans (congrFun (hF3380 _ (by rw [(FX.f0 hF)]; exact fun h => by cases h) (K_ne (FX.f0 hF) (FX.f7 hF) (by decide))) 0) (FX.f1 hF)
            refine th_get C hS.1 (FX.f0 hF) fl_RX11_12 hv3382 dX11_cell_104 ?_
            have hv3383 : V3378 (ad 0) 6 = .ref (ad 2) := Eq.trans (congrFun (hF3380 _ (by rw [(FX.f2 hF)]; exact fun h => by cases h) (K_ne (FX.f2 hF) (FX.f7 hF) (by decide))) 6) (FX.f8 hF)
            refine th_get C hS.1 (FX.f2 hF) fl_RX11_126 hv3383 dX11_cell_107 ?_
            refine lv_iload_n hx hb dX11_cell_110 rfl (lv_at hl 3 rfl) ?_
            refine lv_iload_n hx hb dX11_cell_111 rfl (lv_at hl 5 rfl) ?_
            refine th_govH hS rfl (th_runS (As := [.ref (ad 2), .int c, .int gd]) (rest := []) C hS.1 gS_RX11_108 (t_X4_put iz_c iz_gd (FX.f9 hF) (by decide)) hl rfl rfl rfl rfl ⟨Nat.le_of_ble_eq_true rfl, Nat.le_of_ble_eq_true rfl⟩ (Nat.le_of_ble_eq_true rfl) ⟨Nat.le_of_ble_eq_true rfl, Nat.le_of_ble_eq_true rfl⟩ dX11_cell_112) (fun K3386 V3387 H locs1 hq3385 hE3388 hS => ?_)
            obtain ⟨rfl, hF3389⟩ := hq3385
            refine lv_aload_n hx hb dX11_cell_115 rfl (lv_at hl 2 rfl) ?_
            have hv3391 : V3387 x 0 = .ref (ad 0) := Eq.trans (congrFun (hF3389 _ (by rw [(FX.f0 hF)]; exact fun h => by cases h) (K_ne (FX.f0 hF) (FX.f9 hF) (by decide))) 0) hv3382
            refine th_get C hS.1 (FX.f0 hF) fl_RX11_12 hv3391 dX11_cell_116 ?_
            have hv3392 : V3378 (ad 0) 7 = .ref (ad 3) := Eq.trans (congrFun (hF3380 _ (by rw [(FX.f2 hF)]; exact fun h => by cases h) (K_ne (FX.f2 hF) (FX.f7 hF) (by decide))) 7) (FX.f10 hF)
            have hv3393 : V3387 (ad 0) 7 = .ref (ad 3) := Eq.trans (congrFun (hF3389 _ (by rw [(FX.f2 hF)]; exact fun h => by cases h) (K_ne (FX.f2 hF) (FX.f9 hF) (by decide))) 7) hv3392
            refine th_get C hS.1 (FX.f2 hF) fl_RX11_129 hv3393 dX11_cell_119 ?_
            refine lv_iload_n hx hb dX11_cell_122 rfl (lv_at hl 3 rfl) ?_
            refine lv_iload hx hb dX11_cell_123 (lv_at hl 6 rfl) ?_
            refine th_govH hS rfl (th_runS (As := [.ref (ad 3), .int c, .int way]) (rest := []) C hS.1 gS_RX11_108 (t_X4_put iz_c iz_way (FX.f11 hF) (by decide)) hl rfl rfl rfl rfl ⟨Nat.le_of_ble_eq_true rfl, Nat.le_of_ble_eq_true rfl⟩ (Nat.le_of_ble_eq_true rfl) ⟨Nat.le_of_ble_eq_true rfl, Nat.le_of_ble_eq_true rfl⟩ dX11_cell_125) (fun K3396 V3397 H locs1 hq3395 hE3398 hS => ?_)
            obtain ⟨rfl, hF3399⟩ := hq3395
            refine lv_aload_n hx hb dX11_cell_128 rfl (lv_at hl 2 rfl) ?_
            have hv3401 : V3397 x 0 = .ref (ad 0) := Eq.trans (congrFun (hF3399 _ (by rw [(FX.f0 hF)]; exact fun h => by cases h) (K_ne (FX.f0 hF) (FX.f11 hF) (by decide))) 0) hv3391
            refine th_get C hS.1 (FX.f0 hF) fl_RX11_12 hv3401 dX11_cell_129 ?_
            have hv3402 : V3378 (ad 0) 8 = .ref (ad 4) := Eq.trans (congrFun (hF3380 _ (by rw [(FX.f2 hF)]; exact fun h => by cases h) (K_ne (FX.f2 hF) (FX.f7 hF) (by decide))) 8) (FX.f12 hF)
            have hv3403 : V3387 (ad 0) 8 = .ref (ad 4) := Eq.trans (congrFun (hF3389 _ (by rw [(FX.f2 hF)]; exact fun h => by cases h) (K_ne (FX.f2 hF) (FX.f9 hF) (by decide))) 8) hv3402
            have hv3404 : V3397 (ad 0) 8 = .ref (ad 4) := Eq.trans (congrFun (hF3399 _ (by rw [(FX.f2 hF)]; exact fun h => by cases h) (K_ne (FX.f2 hF) (FX.f11 hF) (by decide))) 8) hv3403
            refine th_get C hS.1 (FX.f2 hF) fl_RX11_132 hv3404 dX11_cell_132 ?_
            refine lv_iload_n hx hb dX11_cell_135 rfl (lv_at hl 3 rfl) ?_
            refine lv_iload hx hb dX11_cell_136 (lv_at hl 7 rfl) ?_
            refine th_govH hS rfl (th_runS (As := [.ref (ad 4), .int c, .int dy]) (rest := []) C hS.1 gS_RX11_108 (t_X4_put iz_c iz_dy (FX.f13 hF) (by decide)) hl rfl rfl rfl rfl ⟨Nat.le_of_ble_eq_true rfl, Nat.le_of_ble_eq_true rfl⟩ (Nat.le_of_ble_eq_true rfl) ⟨Nat.le_of_ble_eq_true rfl, Nat.le_of_ble_eq_true rfl⟩ dX11_cell_138) (fun K3407 V3408 H locs1 hq3406 hE3409 hS => ?_)
            obtain ⟨rfl, hF3410⟩ := hq3406
            refine lv_iconst (v := 1) hx hb dX11_cell_141 (by decide) ?_
            exact th_retzH (post := fun r K1 V1 => (∀ b, K b = some (0, 11) → V1 b = V b) ∧ ((((0 ≤ c_i ∧ c_i ≤ 63) ∧ (0 ≤ up_i ∧ up_i ≤ 40) ∧ (0 ≤ gd_i ∧ gd_i ≤ 3) ∧ ((way_i = (-1) ∧ dy_i = 0) ∨ ((0 ≤ way_i ∧ way_i ≤ 7) ∧ (10 ≤ dy_i ∧ dy_i ≤ 3600)))) ∧ r.toInt = 1) ∨ (((0 > c_i ∨ c_i > 63) ∨ (0 > up_i ∨ up_i > 40) ∨ (0 > gd_i ∨ gd_i > 3) ∨ ((way_i ≠ (-1) ∨ dy_i ≠ 0) ∧ ((0 > way_i ∨ way_i > 7) ∨ (10 > dy_i ∨ dy_i > 3600)))) ∧ r.toInt = 0))) (cells := 0) (slots := 0) (mc := 0) (ms := 0) C hS (by have hfin := li_1; omega) ⟨(fun b hb  => Eq.trans (hF3410 _ (by rw [hb]; exact fun h => by cases h) (K_ne hb (FX.f13 hF) (by decide))) (Eq.trans (hF3399 _ (by rw [hb]; exact fun h => by cases h) (K_ne hb (FX.f11 hF) (by decide))) (Eq.trans (hF3389 _ (by rw [hb]; exact fun h => by cases h) (K_ne hb (FX.f9 hF) (by decide))) ((hF3380 _ (by rw [hb]; exact fun h => by cases h) (K_ne hb (FX.f7 hF) (by decide))))))), (Or.inl ⟨by omega, li_1⟩)⟩ (Nat.le_of_ble_eq_true rfl) (Nat.le_of_ble_eq_true rfl) dX11_cell_142
