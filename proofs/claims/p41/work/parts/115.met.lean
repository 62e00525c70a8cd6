def mX8_has_k29 : MRec := (RX8, cX8_has, 2, (some .boolean), yX8_has, 0, 0, 0, 0, 0)
def mX11_sum : MRec := (RX11, cX11_sum, 3, (some .long), yX11_sum, 1, 24, 0, 0, 0)
def mX11_decidesFrom : MRec := (RX11, cX11_decidesFrom, 3, (some .int), yX11_decidesFrom, 1, 22, 0, 0, 0)
def mX11_sledgesOnWay : MRec := (RX11, cX11_sledgesOnWay, 3, (some .int), yX11_sledgesOnWay, 1, 24, 0, 0, 0)
def mX11_count : MRec := (RX11, cX11_count, 2, (some .int), yX11_count, 2, 46, 0, 0, 0)
def mX12_in : MRec := (RX12, cX12_in, 3, (some .boolean), yX12_in, 0, 0, 0, 0, 0)
def mX12_size : MRec := (RX12, cX12_size, 1, (some .int), yX12_size, 0, 0, 0, 0, 0)
def mX12_begins : MRec := (RX12, cX12_begins, 4, (none : Option Jvm.ClassFile.FieldType), yX12_begins, 0, 0, 0, 0, 29140033383385936063791928602352783599636102585784086660770863519892919988668547989504)
def mX12_isCell : MRec := (RX12, cX12_isCell, 2, (some .boolean), yX12_isCell, 0, 0, 0, 0, 0)
def mX12_isDay : MRec := (RX12, cX12_isDay, 1, (some .boolean), yX12_isDay, 0, 0, 0, 0, 0)
def mX12_ice : MRec := (RX12, cX12_ice, 3, (some .boolean), yX12_ice, 1, 23, 0, 0, 29140033383385936063791928602352783599636102585784086660770863519892919988668547989504)
def mX12_cell : MRec := (RX12, cX12_cell, 6, (some .boolean), yX12_cell, 1, 22, 0, 0, 29140033383385936063791928602352783599636102585782092818777186146083564278078127472640)
set_option maxHeartbeats 1000000 in
theorem t_X8_has_k29 {K : Kmap} {V : Vmap} {x : Nat} {p0 : Int} (h_x : K x = some (0, 29)) (r_p0 : ir p0) : MC mX8_has_k29 K V [.ref x, ti p0] (IP K V (fun X => (X = 0 ∨ X = 1) ∧ (X ≠ 0 → True) ∧ (X = 0 → True))) := by
  refine MC.start 0 (by decide +kernel) rfl rfl rfl (ls0 := [some (.ref x), some (ti p0)]) rfl ?_
  refine GO.iload_n dX8_has_0 rfl rfl ?_
  refine GO.if_lt (tgt := 16) dX8_has_1 (by decide) r_p0 (fun c1 => ?_) (fun c1 => ?_)
  ·
    refine GO.iconst dX8_has_16 ?_
    exact GO.retz rfl rfl dX8_has_17 (Or.inl rfl) ⟨rfl, rfl, _, rfl, (ir_c rfl), ⟨Or.inl rfl, fun _ => trivial, fun _ => trivial⟩⟩
  ·
    refine GO.iload_n dX8_has_4 rfl rfl ?_
    refine GO.aload_n dX8_has_5 rfl rfl ?_
    refine GO.getI h_x fl_RX8_9_k29 rfl rfl dX8_has_6 (fun l2 u3 => ?_)
    refine GO.icmp_ge (tgt := 16) dX8_has_9 (by decide) r_p0 vi_ir (fun c4 => ?_) (fun c4 => ?_)
    ·
      refine GO.iconst dX8_has_16 ?_
      exact GO.retz rfl rfl dX8_has_17 (Or.inl rfl) ⟨rfl, rfl, _, rfl, (ir_c rfl), ⟨Or.inl rfl, fun _ => trivial, fun _ => trivial⟩⟩
    ·
      refine GO.iconst dX8_has_12 ?_
      refine GO.goto (tgt := 17) dX8_has_13 (by decide) ?_
      exact GO.retz rfl rfl dX8_has_17 (Or.inr rfl) ⟨rfl, rfl, _, rfl, (ir_c rfl), ⟨Or.inr rfl, fun _ => trivial, fun _ => trivial⟩⟩

set_option maxHeartbeats 1000000 in
theorem t_X11_sum {K : Kmap} {V : Vmap} {x : Nat} {p0 : Int} (h_x : K x = some (0, 10)) (r_p0 : ir p0) : MC mX11_sum K V [.ref x, ti p0] (JP K V) := by
  refine MC.start 1 (by decide +kernel) rfl rfl rfl (ls0 := [some (.ref x), some (ti p0), none]) rfl ?_
  refine GO.iload_n dX11_sum_0 rfl rfl ?_
  have hj10 : GO mX11_sum K V (JP K V) K V 0 0 20 [some (.ref x), some (ti p0), none] [] := by
    skip
    refine GO.iload_n dX11_sum_20 rfl rfl ?_
    refine GO.bipush dX11_sum_21 rfl ?_
    refine GO.bipush dX11_sum_23 rfl ?_
    refine GO.callS (N := mX11_between) dX11_sum_25 gS_RX11_112 (t_X11_between r_p0 (ir_c rfl) (ir_c rfl)) rfl [] rfl rfl (Nat.le_of_ble_eq_true rfl) rfl (k_ip fun X11 r12 h13 => ?_)
    refine GO.if_eq (tgt := 56) dX11_sum_28 (by decide) r12 (fun c14 => ?_) (fun c14 => ?_)
    ·
      have q15 := h13.2.2 (by omega)
      refine GO.iload_n dX11_sum_56 rfl rfl ?_
      refine GO.bipush dX11_sum_57 rfl ?_
      refine GO.icmp_lt (tgt := 92) dX11_sum_59 (by decide) r_p0 (ir_c rfl) (fun c16 => ?_) (fun c16 => ?_)
      ·
        refine GO.ldc2 dX11_sum_92 gw_1459 ?_
        refine GO.anyL (fun z17 => ?_)
        exact GO.retl rfl rfl dX11_sum_95 ⟨rfl, rfl, _, rfl⟩
      ·
        refine GO.aload_n dX11_sum_62 rfl rfl ?_
        refine GO.getR h_x fl_RX11_79 rfl rfl dX11_sum_63 (fun hv19 h18 => ?_)
        refine GO.iload_n dX11_sum_66 rfl rfl ?_
        refine GO.bipush dX11_sum_67 rfl ?_
        refine GO.isub dX11_sum_69 ?_
        have q20 : -2147483648 ≤ p0 ∧ p0 ≤ 2147483647 := r_p0
        refine GO.callV (ci := 29) (N := mX8_has_k29) dX11_sum_70 (RX8, TX8, 4) rfl gV_RX11_431 h18 (t_X8_has_k29 h18 ⟨by omega, by omega⟩) rfl [] rfl rfl (Nat.le_of_ble_eq_true rfl) rfl (k_ip fun X21 r22 h23 => ?_)
        refine GO.if_eq (tgt := 92) dX11_sum_73 (by decide) r22 (fun c24 => ?_) (fun c24 => ?_)
        ·
          refine GO.ldc2 dX11_sum_92 gw_1459 ?_
          refine GO.anyL (fun z25 => ?_)
          exact GO.retl rfl rfl dX11_sum_95 ⟨rfl, rfl, _, rfl⟩
        ·
          refine GO.aload_n dX11_sum_76 rfl rfl ?_
          refine GO.getRaw h_x fl_RX11_79 hv19 dX11_sum_77 ?_
          refine GO.iload_n dX11_sum_80 rfl rfl ?_
          refine GO.bipush dX11_sum_81 rfl ?_
          refine GO.isub dX11_sum_83 ?_
          refine GO.iconst dX11_sum_84 ?_
          refine GO.callV (ci := 29) (N := mX8_get_k29) dX11_sum_85 (RX8, TX8, 4) rfl gV_RX11_209 h18 (t_X8_get_k29 h18 ⟨by omega, by omega⟩ (ir_c rfl)) rfl [] rfl rfl (Nat.le_of_ble_eq_true rfl) rfl (k_ip fun X28 r29 h30 => ?_)
          refine GO.i2l dX11_sum_88 ?_
          refine GO.anyL (fun z31 => ?_)
          refine GO.goto (tgt := 95) dX11_sum_89 (by decide) ?_
          exact GO.retl rfl rfl dX11_sum_95 ⟨rfl, rfl, _, rfl⟩
    ·
      have q32 := h13.2.1 (by omega)
      refine GO.aload_n dX11_sum_31 rfl rfl ?_
      refine GO.iload_n dX11_sum_32 rfl rfl ?_
      refine GO.bipush dX11_sum_33 rfl ?_
      refine GO.isub dX11_sum_35 ?_
      have q33 : -2147483648 ≤ p0 ∧ p0 ≤ 2147483647 := r_p0
      refine GO.callV (ci := 10) (N := mX11_partyOf) dX11_sum_36 (RX11, TX11, 20) rfl gV_RX11_151 h_x (t_X11_partyOf h_x ⟨by omega, by omega⟩) rfl [] rfl rfl (Nat.le_of_ble_eq_true rfl) rfl (k_rp (fun h36 => ?_) (fun o34 h35 h36 => ?_))
      ·
        have rwn36 := h36.2
        have hn37 : PN V x → (p0 - 10) < 0 ∨ vi V x 4 ≤ (p0 - 10) := h36.2
        refine GO.astore_nN (ls1 := [some (.ref x), some (ti p0), some (.null)]) dX11_sum_39 rfl rfl rfl ?_
        refine GO.aload_nN dX11_sum_40 rfl rfl ?_
        refine GO.ifnonnullN dX11_sum_41 ?_
        refine GO.ldc2 dX11_sum_44 gw_1459 ?_
        refine GO.anyL (fun z38 => ?_)
        refine GO.goto (tgt := 55) dX11_sum_47 (by decide) ?_
        exact GO.retl rfl rfl dX11_sum_55 ⟨rfl, rfl, _, rfl⟩
      ·
        have hp39 : (p0 - 10) ≥ 0 ∧ (p0 - 10) < vi V x 4 := h36.1
        have rwp36 := h36.2
        have hq40 : o34 = vq V (vq V x 3) ((p0 - 10)).toNat := h36.2
        refine GO.astore_n (ls1 := [some (.ref x), some (ti p0), some (.ref o34)]) dX11_sum_39 rfl rfl rfl ?_
        refine GO.aload_n dX11_sum_40 rfl rfl ?_
        refine GO.ifnonnull (tgt := 50) dX11_sum_41 (by decide) ?_
        refine GO.aload_n dX11_sum_50 rfl rfl ?_
        refine GO.getI h35 fl_RX11_464 rfl rfl dX11_sum_51 (fun _ _ => ?_)
        refine GO.i2l dX11_sum_54 ?_
        refine GO.anyL (fun z41 => ?_)
        exact GO.retl rfl rfl dX11_sum_55 ⟨rfl, rfl, _, rfl⟩
  refine GO.if_lt (tgt := 20) dX11_sum_1 (by decide) r_p0 (fun c42 => ?_) (fun c42 => ?_)
  ·
    exact hj10 
  ·
    refine GO.iload_n dX11_sum_4 rfl rfl ?_
    refine GO.aload_n dX11_sum_5 rfl rfl ?_
    refine GO.getA (n := 8) h_x fl_RX11_98 rfl rfl rfl rfl dX11_sum_6 (fun hv44 h43 => ?_)
    refine GO.alen h43 dX11_sum_9 (fun h45 => ?_)
    refine GO.icmp_ge (tgt := 20) dX11_sum_10 (by decide) r_p0 ⟨by omega, by omega⟩ (fun c46 => ?_) (fun c46 => ?_)
    ·
      exact hj10 
    ·
      refine GO.aload_n dX11_sum_13 rfl rfl ?_
      refine GO.getRaw h_x fl_RX11_98 hv44 dX11_sum_14 ?_
      refine GO.iload_n dX11_sum_17 rfl rfl ?_
      have q49 : -2147483648 ≤ p0 ∧ p0 ≤ 2147483647 := r_p0
      refine GO.lald h43 r_p0 (by omega) (by omega) dX11_sum_18 ?_
      refine GO.anyL (fun z50 => ?_)
      exact GO.retl rfl rfl dX11_sum_19 ⟨rfl, rfl, _, rfl⟩

set_option maxHeartbeats 1000000 in
theorem t_X11_decidesFrom {K : Kmap} {V : Vmap} {x : Nat} {p0 : Int} (h_x : K x = some (0, 10)) (r_p0 : ir p0) : MC mX11_decidesFrom K V [.ref x, ti p0] (IP K V (fun X => True)) := by
  refine MC.start 1 (by decide +kernel) rfl rfl rfl (ls0 := [some (.ref x), some (ti p0), none]) rfl ?_
  refine GO.iload_n dX11_decidesFrom_0 rfl rfl ?_
  refine GO.bipush dX11_decidesFrom_1 rfl ?_
  refine GO.bipush dX11_decidesFrom_3 rfl ?_
  refine GO.callS (N := mX11_between) dX11_decidesFrom_5 gS_RX11_112 (t_X11_between r_p0 (ir_c rfl) (ir_c rfl)) rfl [] rfl rfl (Nat.le_of_ble_eq_true rfl) rfl (k_ip fun X1 r2 h3 => ?_)
  refine GO.if_eq (tgt := 22) dX11_decidesFrom_8 (by decide) r2 (fun c4 => ?_) (fun c4 => ?_)
  ·
    have q5 := h3.2.2 (by omega)
    refine GO.null dX11_decidesFrom_22 ?_
    refine GO.astore_nN (ls1 := [some (.ref x), some (ti p0), some (.null)]) dX11_decidesFrom_23 rfl rfl rfl ?_
    refine GO.aload_nN dX11_decidesFrom_24 rfl rfl ?_
    refine GO.ifnonnullN dX11_decidesFrom_25 ?_
    refine GO.iconst dX11_decidesFrom_28 ?_
    refine GO.goto (tgt := 36) dX11_decidesFrom_29 (by decide) ?_
    exact GO.reti rfl rfl dX11_decidesFrom_36 ⟨rfl, rfl, _, rfl, (ir_c rfl), trivial⟩
  ·
    have q6 := h3.2.1 (by omega)
    refine GO.aload_n dX11_decidesFrom_11 rfl rfl ?_
    refine GO.iload_n dX11_decidesFrom_12 rfl rfl ?_
    refine GO.bipush dX11_decidesFrom_13 rfl ?_
    refine GO.isub dX11_decidesFrom_15 ?_
    have q7 : -2147483648 ≤ p0 ∧ p0 ≤ 2147483647 := r_p0
    refine GO.callV (ci := 10) (N := mX11_partyOf) dX11_decidesFrom_16 (RX11, TX11, 20) rfl gV_RX11_151 h_x (t_X11_partyOf h_x ⟨by omega, by omega⟩) rfl [] rfl rfl (Nat.le_of_ble_eq_true rfl) rfl (k_rp (fun h10 => ?_) (fun o8 h9 h10 => ?_))
    ·
      have rwn16 := h10.2
      have hn11 : PN V x → (p0 - 20) < 0 ∨ vi V x 4 ≤ (p0 - 20) := h10.2
      refine GO.goto (tgt := 23) dX11_decidesFrom_19 (by decide) ?_
      refine GO.astore_nN (ls1 := [some (.ref x), some (ti p0), some (.null)]) dX11_decidesFrom_23 rfl rfl rfl ?_
      refine GO.aload_nN dX11_decidesFrom_24 rfl rfl ?_
      refine GO.ifnonnullN dX11_decidesFrom_25 ?_
      refine GO.iconst dX11_decidesFrom_28 ?_
      refine GO.goto (tgt := 36) dX11_decidesFrom_29 (by decide) ?_
      exact GO.reti rfl rfl dX11_decidesFrom_36 ⟨rfl, rfl, _, rfl, (ir_c rfl), trivial⟩
    ·
      have hp12 : (p0 - 20) ≥ 0 ∧ (p0 - 20) < vi V x 4 := h10.1
      have rwp16 := h10.2
      have hq13 : o8 = vq V (vq V x 3) ((p0 - 20)).toNat := h10.2
      refine GO.goto (tgt := 23) dX11_decidesFrom_19 (by decide) ?_
      refine GO.astore_n (ls1 := [some (.ref x), some (ti p0), some (.ref o8)]) dX11_decidesFrom_23 rfl rfl rfl ?_
      refine GO.aload_n dX11_decidesFrom_24 rfl rfl ?_
      refine GO.ifnonnull (tgt := 32) dX11_decidesFrom_25 (by decide) ?_
      refine GO.aload_n dX11_decidesFrom_32 rfl rfl ?_
      refine GO.getI h9 fl_RX11_341 rfl rfl dX11_decidesFrom_33 (fun _ _ => ?_)
      have q14 : -2147483648 ≤ vi V o8 0 ∧ vi V o8 0 ≤ 2147483647 := vi_ir
      exact GO.reti rfl rfl dX11_decidesFrom_36 ⟨rfl, rfl, _, rfl, vi_ir, trivial⟩

set_option maxHeartbeats 1000000 in
theorem t_X11_sledgesOnWay {K : Kmap} {V : Vmap} {x : Nat} (h_x : K x = some (0, 10)) : MC mX11_sledgesOnWay K V [.ref x] (IP K V (fun X => True)) := by
  refine MC.start 2 (by decide +kernel) rfl rfl rfl (ls0 := [some (.ref x), none, none]) rfl ?_
  refine GO.iconst dX11_sledgesOnWay_0 ?_
  refine GO.istore_n (ls1 := [some (.ref x), some (ti 0), none]) dX11_sledgesOnWay_1 rfl rfl rfl ?_
  refine GO.iconst dX11_sledgesOnWay_2 ?_
  refine GO.istore_n (ls1 := [some (.ref x), some (ti 0), some (ti 0)]) dX11_sledgesOnWay_3 rfl rfl rfl ?_
  refine GO.loop2 (fun i1 i2 W => (-2147483648) ≤ i1 ∧ i1 ≤ 2147483647 ∧ 0 ≤ i2 ∧ i2 ≤ 40 ∧ V = W) (fun i1 i2 => [some (.ref x), some (ti i1), some (ti i2)]) (fun i1 i2 W => (2147483647 - i2).toNat) 0 0 ⟨by omega, by omega, by omega, by omega, rfl⟩ rfl (fun i1 i2 V405 hp407 ih406 => ?_)
  obtain ⟨l_i1, u_i1, l_i2, u_i2, rfl⟩ := hp407
  have r_i1 : ir i1 := ⟨by omega, by omega⟩
  have r_i2 : ir i2 := ⟨by omega, by omega⟩
  show GO mX11_sledgesOnWay K V (IP K V (fun X => True)) K V 0 0 4 [some (.ref x), some (ti i1), some (ti i2)] []
  refine GO.iload_n dX11_sledgesOnWay_4 rfl rfl ?_
  refine GO.aload_n dX11_sledgesOnWay_5 rfl rfl ?_
  refine GO.getR h_x fl_RX11_72 rfl rfl dX11_sledgesOnWay_6 (fun hv409 h408 => ?_)
  refine GO.getI h408 fl_RX11_199_k27 rfl rfl dX11_sledgesOnWay_9 (fun l410 u411 => ?_)
  refine GO.icmp_ge (tgt := 33) dX11_sledgesOnWay_12 (by decide) r_i2 vi_ir (fun c412 => ?_) (fun c412 => ?_)
  ·
    refine GO.iload_n dX11_sledgesOnWay_33 rfl rfl ?_
    exact GO.reti rfl rfl dX11_sledgesOnWay_34 ⟨rfl, rfl, _, rfl, r_i1, trivial⟩
  ·
    refine GO.iload_n dX11_sledgesOnWay_15 rfl rfl ?_
    refine GO.aload_n dX11_sledgesOnWay_16 rfl rfl ?_
    refine GO.getRaw h_x fl_RX11_72 hv409 dX11_sledgesOnWay_17 ?_
    refine GO.iload_n dX11_sledgesOnWay_20 rfl rfl ?_
    refine GO.iconst dX11_sledgesOnWay_21 ?_
    refine GO.callV (ci := 27) (N := mX8_get_k27) dX11_sledgesOnWay_22 (RX8, TX8, 4) rfl gV_RX11_209 h408 (t_X8_get_k27 h408 r_i2 (ir_c rfl)) rfl [ti i1] rfl rfl (Nat.le_of_ble_eq_true rfl) rfl (k_ip fun X415 r416 h417 => ?_)
    refine GO.iadd dX11_sledgesOnWay_25 ?_
    refine GO.norm (fun z418 r419 hn420 => ?_)
    refine GO.istore_n (ls1 := [some (.ref x), some (ti z418), some (ti i2)]) dX11_sledgesOnWay_26 rfl rfl rfl ?_
    refine GO.iinc (X := i2) (n := 1) (Y := i2 + 1) (ls1 := [some (.ref x), some (ti z418), some (ti (i2 + 1))]) dX11_sledgesOnWay_27 rfl rfl rfl rfl ?_
    refine GO.goto (tgt := 4) dX11_sledgesOnWay_30 (by decide) ?_
    have q421 : -2147483648 ≤ z418 ∧ z418 ≤ 2147483647 := r419
    exact ih406 z418 (i2 + 1) V ⟨by omega, by omega, by omega, by omega, rfl⟩ (by show (2147483647 - (i2 + 1)).toNat < (2147483647 - i2).toNat; omega)

set_option maxHeartbeats 1000000 in
theorem t_X11_count {K : Kmap} {V : Vmap} {x : Nat} {p0 : Int} (h_x : K x = some (0, 10)) (r_p0 : ir p0) : MC mX11_count K V [.ref x, ti p0] (IP K V (fun X => True)) := by
  refine MC.start 0 (by decide +kernel) rfl rfl rfl (ls0 := [some (.ref x), some (ti p0)]) rfl ?_
  refine GO.iload_n dX11_count_0 rfl rfl ?_
  have q1 : -2147483648 ≤ p0 ∧ p0 ≤ 2147483647 := r_p0
  rcases (show (p0 < 0 ∨ 16 < p0) ∨ p0 = 0 ∨ p0 = 1 ∨ p0 = 2 ∨ p0 = 3 ∨ p0 = 4 ∨ p0 = 5 ∨ p0 = 6 ∨ p0 = 7 ∨ p0 = 8 ∨ p0 = 9 ∨ p0 = 10 ∨ p0 = 11 ∨ p0 = 12 ∨ p0 = 13 ∨ p0 = 14 ∨ p0 = 15 ∨ p0 = 16 by omega) with c2 | c2 | c2 | c2 | c2 | c2 | c2 | c2 | c2 | c2 | c2 | c2 | c2 | c2 | c2 | c2 | c2 | c2
  ·
    refine GO.tableOut (tgt := 211) dX11_count_1 r_p0 c2 (by decide) ?_
    refine GO.aload_n dX11_count_211 rfl rfl ?_
    refine GO.iload_n dX11_count_212 rfl rfl ?_
    refine GO.callV (ci := 10) (N := mX11_decidesFrom) dX11_count_213 (RX11, TX11, 20) rfl gV_RX11_647 h_x (t_X11_decidesFrom h_x r_p0) rfl [] rfl rfl (Nat.le_of_ble_eq_true rfl) rfl (k_ip fun X3 r4 h5 => ?_)
    have q6 : -2147483648 ≤ X3 ∧ X3 ≤ 2147483647 := r4
    exact GO.reti rfl rfl dX11_count_216 ⟨rfl, rfl, _, rfl, r4, trivial⟩
  ·
    refine GO.tableAt (n := 0) (tgt := 84) dX11_count_1 (ir_c rfl) c2 (by decide) (by decide) rfl (by decide) ?_
    refine GO.aload_n dX11_count_84 rfl rfl ?_
    refine GO.getR h_x fl_RX11_12 rfl rfl dX11_count_85 (fun hv8 h7 => ?_)
    refine GO.getI h7 fl_RX11_145 rfl rfl dX11_count_88 (fun l9 u10 => ?_)
    exact GO.reti rfl rfl dX11_count_91 ⟨rfl, rfl, _, rfl, vi_ir, trivial⟩
  ·
    refine GO.tableAt (n := 1) (tgt := 92) dX11_count_1 (ir_c rfl) c2 (by decide) (by decide) rfl (by decide) ?_
    refine GO.aload_n dX11_count_92 rfl rfl ?_
    refine GO.getR h_x fl_RX11_12 rfl rfl dX11_count_93 (fun hv12 h11 => ?_)
    refine GO.getI h11 fl_RX11_639 rfl rfl dX11_count_96 (fun l13 u14 => ?_)
    exact GO.reti rfl rfl dX11_count_99 ⟨rfl, rfl, _, rfl, vi_ir, trivial⟩
  ·
    refine GO.tableAt (n := 2) (tgt := 100) dX11_count_1 (ir_c rfl) c2 (by decide) (by decide) rfl (by decide) ?_
    refine GO.aload_n dX11_count_100 rfl rfl ?_
    refine GO.getR h_x fl_RX11_12 rfl rfl dX11_count_101 (fun hv16 h15 => ?_)
    refine GO.getI h15 fl_RX11_642 rfl rfl dX11_count_104 (fun l17 u18 => ?_)
    exact GO.reti rfl rfl dX11_count_107 ⟨rfl, rfl, _, rfl, vi_ir, trivial⟩
  ·
    refine GO.tableAt (n := 3) (tgt := 108) dX11_count_1 (ir_c rfl) c2 (by decide) (by decide) rfl (by decide) ?_
    refine GO.aload_n dX11_count_108 rfl rfl ?_
    refine GO.getI h_x fl_RX11_36 rfl rfl dX11_count_109 (fun l19 u20 => ?_)
    exact GO.reti rfl rfl dX11_count_112 ⟨rfl, rfl, _, rfl, vi_ir, trivial⟩
  ·
    refine GO.tableAt (n := 4) (tgt := 113) dX11_count_1 (ir_c rfl) c2 (by decide) (by decide) rfl (by decide) ?_
    refine GO.aload_n dX11_count_113 rfl rfl ?_
    refine GO.getI h_x fl_RX11_46 rfl rfl dX11_count_114 (fun l21 u22 => ?_)
    exact GO.reti rfl rfl dX11_count_117 ⟨rfl, rfl, _, rfl, vi_ir, trivial⟩
  ·
    refine GO.tableAt (n := 5) (tgt := 118) dX11_count_1 (ir_c rfl) c2 (by decide) (by decide) rfl (by decide) ?_
    refine GO.aload_n dX11_count_118 rfl rfl ?_
    refine GO.getR h_x fl_RX11_19 rfl rfl dX11_count_119 (fun hv24 h23 => ?_)
    refine GO.getI h23 fl_RX11_216 rfl rfl dX11_count_122 (fun l25 u26 => ?_)
    exact GO.reti rfl rfl dX11_count_125 ⟨rfl, rfl, _, rfl, vi_ir, trivial⟩
  ·
    refine GO.tableAt (n := 6) (tgt := 126) dX11_count_1 (ir_c rfl) c2 (by decide) (by decide) rfl (by decide) ?_
    refine GO.aload_n dX11_count_126 rfl rfl ?_
    refine GO.getR h_x fl_RX11_19 rfl rfl dX11_count_127 (fun hv28 h27 => ?_)
    refine GO.getR h27 fl_RX11_262 rfl rfl dX11_count_130 (fun hv30 h29 => ?_)
    refine GO.getI h29 fl_RX11_199_k32 rfl rfl dX11_count_133 (fun l31 u32 => ?_)
    exact GO.reti rfl rfl dX11_count_136 ⟨rfl, rfl, _, rfl, vi_ir, trivial⟩
  ·
    refine GO.tableAt (n := 7) (tgt := 137) dX11_count_1 (ir_c rfl) c2 (by decide) (by decide) rfl (by decide) ?_
    refine GO.aload_n dX11_count_137 rfl rfl ?_
    refine GO.getI h_x fl_RX11_55 rfl rfl dX11_count_138 (fun l33 u34 => ?_)
    exact GO.reti rfl rfl dX11_count_141 ⟨rfl, rfl, _, rfl, vi_ir, trivial⟩
  ·
    refine GO.tableAt (n := 8) (tgt := 142) dX11_count_1 (ir_c rfl) c2 (by decide) (by decide) rfl (by decide) ?_
    refine GO.aload_n dX11_count_142 rfl rfl ?_
    refine GO.getI h_x fl_RX11_64 rfl rfl dX11_count_143 (fun l35 u36 => ?_)
    exact GO.reti rfl rfl dX11_count_146 ⟨rfl, rfl, _, rfl, vi_ir, trivial⟩
  ·
    refine GO.tableAt (n := 9) (tgt := 147) dX11_count_1 (ir_c rfl) c2 (by decide) (by decide) rfl (by decide) ?_
    refine GO.aload_n dX11_count_147 rfl rfl ?_
    refine GO.callV (ci := 10) (N := mX11_sledgesOnWay) dX11_count_148 (RX11, TX11, 20) rfl gV_RX11_644 h_x (t_X11_sledgesOnWay h_x) rfl [] rfl rfl (Nat.le_of_ble_eq_true rfl) rfl (k_ip fun X37 r38 h39 => ?_)
    have q40 : -2147483648 ≤ X37 ∧ X37 ≤ 2147483647 := r38
    exact GO.reti rfl rfl dX11_count_151 ⟨rfl, rfl, _, rfl, r38, trivial⟩
  ·
    refine GO.tableAt (n := 10) (tgt := 152) dX11_count_1 (ir_c rfl) c2 (by decide) (by decide) rfl (by decide) ?_
    refine GO.aload_n dX11_count_152 rfl rfl ?_
    refine GO.getR h_x fl_RX11_76 rfl rfl dX11_count_153 (fun hv42 h41 => ?_)
    refine GO.getI h41 fl_RX11_199_k28 rfl rfl dX11_count_156 (fun l43 u44 => ?_)
    exact GO.reti rfl rfl dX11_count_159 ⟨rfl, rfl, _, rfl, vi_ir, trivial⟩
  ·
    refine GO.tableAt (n := 11) (tgt := 160) dX11_count_1 (ir_c rfl) c2 (by decide) (by decide) rfl (by decide) ?_
    refine GO.aload_n dX11_count_160 rfl rfl ?_
    refine GO.getR h_x fl_RX11_79 rfl rfl dX11_count_161 (fun hv46 h45 => ?_)
    refine GO.getI h45 fl_RX11_199_k29 rfl rfl dX11_count_164 (fun l47 u48 => ?_)
    exact GO.reti rfl rfl dX11_count_167 ⟨rfl, rfl, _, rfl, vi_ir, trivial⟩
  ·
    refine GO.tableAt (n := 12) (tgt := 168) dX11_count_1 (ir_c rfl) c2 (by decide) (by decide) rfl (by decide) ?_
    refine GO.aload_n dX11_count_168 rfl rfl ?_
    refine GO.getR h_x fl_RX11_82 rfl rfl dX11_count_169 (fun hv50 h49 => ?_)
    refine GO.getI h49 fl_RX11_199_k26 rfl rfl dX11_count_172 (fun l51 u52 => ?_)
    exact GO.reti rfl rfl dX11_count_175 ⟨rfl, rfl, _, rfl, vi_ir, trivial⟩
  ·
    refine GO.tableAt (n := 13) (tgt := 176) dX11_count_1 (ir_c rfl) c2 (by decide) (by decide) rfl (by decide) ?_
    refine GO.aload_n dX11_count_176 rfl rfl ?_
    refine GO.getR h_x fl_RX11_88 rfl rfl dX11_count_177 (fun hv54 h53 => ?_)
    refine GO.getI h53 fl_RX11_199_k25 rfl rfl dX11_count_180 (fun l55 u56 => ?_)
    exact GO.reti rfl rfl dX11_count_183 ⟨rfl, rfl, _, rfl, vi_ir, trivial⟩
  ·
    refine GO.tableAt (n := 14) (tgt := 184) dX11_count_1 (ir_c rfl) c2 (by decide) (by decide) rfl (by decide) ?_
    refine GO.aload_n dX11_count_184 rfl rfl ?_
    refine GO.getR h_x fl_RX11_26 rfl rfl dX11_count_185 (fun hv58 h57 => ?_)
    refine GO.getR h57 fl_RX11_593 rfl rfl dX11_count_188 (fun hv60 h59 => ?_)
    refine GO.getI h59 fl_RX11_199_k24 rfl rfl dX11_count_191 (fun l61 u62 => ?_)
    exact GO.reti rfl rfl dX11_count_194 ⟨rfl, rfl, _, rfl, vi_ir, trivial⟩
  ·
    refine GO.tableAt (n := 15) (tgt := 195) dX11_count_1 (ir_c rfl) c2 (by decide) (by decide) rfl (by decide) ?_
    refine GO.aload_n dX11_count_195 rfl rfl ?_
    refine GO.getR h_x fl_RX11_85 rfl rfl dX11_count_196 (fun hv64 h63 => ?_)
    refine GO.getI h63 fl_RX11_199_k30 rfl rfl dX11_count_199 (fun l65 u66 => ?_)
    exact GO.reti rfl rfl dX11_count_202 ⟨rfl, rfl, _, rfl, vi_ir, trivial⟩
  ·
    refine GO.tableAt (n := 16) (tgt := 203) dX11_count_1 (ir_c rfl) c2 (by decide) (by decide) rfl (by decide) ?_
    refine GO.aload_n dX11_count_203 rfl rfl ?_
    refine GO.getR h_x fl_RX11_91 rfl rfl dX11_count_204 (fun hv68 h67 => ?_)
    refine GO.getI h67 fl_RX11_199_k31 rfl rfl dX11_count_207 (fun l69 u70 => ?_)
    exact GO.reti rfl rfl dX11_count_210 ⟨rfl, rfl, _, rfl, vi_ir, trivial⟩

set_option maxHeartbeats 1000000 in
theorem t_X12_in {K : Kmap} {V : Vmap} {p0 : Int} {p1 : Int} {p2 : Int} (r_p0 : ir p0) (r_p1 : ir p1) (r_p2 : ir p2) : MC mX12_in K V [ti p0, ti p1, ti p2] (IP K V (fun X => (X = 0 ∨ X = 1) ∧ (X ≠ 0 → p0 ≥ p1 ∧ p0 ≤ p2) ∧ (X = 0 → (p0 < p1 ∨ p0 > p2)) ∧ (X ≠ 0 ↔ p1 ≤ p0 ∧ p0 ≤ p2))) := by
  refine MC.start 0 (by decide +kernel) rfl rfl rfl (ls0 := [some (ti p0), some (ti p1), some (ti p2)]) rfl ?_
  refine GO.iload_n dX12_in_0 rfl rfl ?_
  refine GO.iload_n dX12_in_1 rfl rfl ?_
  refine GO.icmp_lt (tgt := 14) dX12_in_2 (by decide) r_p0 r_p1 (fun c1 => ?_) (fun c1 => ?_)
  ·
    refine GO.iconst dX12_in_14 ?_
    exact GO.retz rfl rfl dX12_in_15 (Or.inl rfl) ⟨rfl, rfl, _, rfl, (ir_c rfl), ⟨Or.inl rfl, fun h => absurd rfl h, fun h => by omega, (by constructor <;> intro _ <;> omega)⟩⟩
  ·
    refine GO.iload_n dX12_in_5 rfl rfl ?_
    refine GO.iload_n dX12_in_6 rfl rfl ?_
    refine GO.icmp_gt (tgt := 14) dX12_in_7 (by decide) r_p0 r_p2 (fun c2 => ?_) (fun c2 => ?_)
    ·
      refine GO.iconst dX12_in_14 ?_
      exact GO.retz rfl rfl dX12_in_15 (Or.inl rfl) ⟨rfl, rfl, _, rfl, (ir_c rfl), ⟨Or.inl rfl, fun h => absurd rfl h, fun h => by omega, (by constructor <;> intro _ <;> omega)⟩⟩
    ·
      refine GO.iconst dX12_in_10 ?_
      refine GO.goto (tgt := 15) dX12_in_11 (by decide) ?_
      exact GO.retz rfl rfl dX12_in_15 (Or.inr rfl) ⟨rfl, rfl, _, rfl, (ir_c rfl), ⟨Or.inr rfl, fun h => by omega, fun h => absurd h (by decide), (by constructor <;> intro _ <;> omega)⟩⟩

set_option maxHeartbeats 1000000 in
theorem t_X12_size {K : Kmap} {V : Vmap} {p0 : Int} (r_p0 : ir p0) (q_0 : p0 ≥ (-3600)) (q_1 : p0 ≤ 3600) : MC mX12_size K V [ti p0] (IP K V (fun X => 0 ≤ X ∧ X ≤ 3600)) := by
  refine MC.start 0 (by decide +kernel) rfl rfl rfl (ls0 := [some (ti p0)]) rfl ?_
  refine GO.iload_n dX12_size_0 rfl rfl ?_
  refine GO.if_ge (tgt := 9) dX12_size_1 (by decide) r_p0 (fun c1 => ?_) (fun c1 => ?_)
  ·
    refine GO.iload_n dX12_size_9 rfl rfl ?_
    have q2 : -2147483648 ≤ p0 ∧ p0 ≤ 2147483647 := r_p0
    exact GO.reti rfl rfl dX12_size_10 ⟨rfl, rfl, _, rfl, r_p0, ⟨by omega, by omega⟩⟩
  ·
    refine GO.iload_n dX12_size_4 rfl rfl ?_
    refine GO.ineg dX12_size_5 ?_
    refine GO.goto (tgt := 10) dX12_size_6 (by decide) ?_
    have q3 : -2147483648 ≤ p0 ∧ p0 ≤ 2147483647 := r_p0
    exact GO.reti rfl rfl dX12_size_10 ⟨rfl, rfl, _, rfl, ⟨by omega, by omega⟩, ⟨by omega, by omega⟩⟩

set_option maxHeartbeats 1000000 in
theorem t_X12_begins {K : Kmap} {V : Vmap} {x : Nat} {p0 : Int} {p1 : Int} (h_x : K x = some (0, 11)) (r_p0 : ir p0) (r_p1 : ir p1) (q_0 : p0 ≥ 4) (q_1 : p0 ≤ 12) (q_2 : p1 ≥ 4) (q_3 : p1 ≤ 12) : MC mX12_begins K V [.ref x, ti p0, ti p1] (VS K (fun V1 => (True) ∧ (MBG V1 x p0 p1))) := by
  refine MC.start 1 (by decide +kernel) rfl rfl rfl (ls0 := [some (.ref x), some (ti p0), some (ti p1), none]) rfl ?_
  refine GO.useWT (fun hW1 => ?_)
  have ak2 := hW1.arr h_x 5 9 (by decide) rfl (by decide)
  have ak3 := hW1.arr h_x 6 10 (by decide) rfl (by decide)
  have ak4 := hW1.arr h_x 7 11 (by decide) rfl (by decide)
  have ak5 := hW1.arr h_x 8 12 (by decide) rfl (by decide)
  refine GO.aload_n dX12_begins_0 rfl rfl ?_
  refine GO.iload_n dX12_begins_1 rfl rfl ?_
  have q7 : -2147483648 ≤ p0 ∧ p0 ≤ 2147483647 := r_p0
  refine GO.putI h_x fp_RX12_365 rfl (by decide +kernel) r_p0 (by omega) (by omega) dX12_begins_2 (fun V8 e6 => ?_)
  have ak9 := tk_fld e6 ak2 h_x (by decide) (rfl : ar 5 V x = ar 5 V x)
  have ak10 := tk_fld e6 ak3 h_x (by decide) (rfl : ar 6 V x = ar 6 V x)
  have ak11 := tk_fld e6 ak4 h_x (by decide) (rfl : ar 7 V x = ar 7 V x)
  have ak12 := tk_fld e6 ak5 h_x (by decide) (rfl : ar 8 V x = ar 8 V x)
  refine GO.aload_n dX12_begins_5 rfl rfl ?_
  refine GO.iload_n dX12_begins_6 rfl rfl ?_
  have q14 : -2147483648 ≤ p1 ∧ p1 ≤ 2147483647 := r_p1
  refine GO.putI h_x fp_RX12_368 rfl (by decide +kernel) r_p1 (by omega) (by omega) dX12_begins_7 (fun V15 e13 => ?_)
  have ak16 := tk_fld e13 ak9.1 h_x (by decide) ak9.2
  have ak17 := tk_fld e13 ak10.1 h_x (by decide) ak10.2
  have ak18 := tk_fld e13 ak11.1 h_x (by decide) ak11.2
  have ak19 := tk_fld e13 ak12.1 h_x (by decide) ak12.2
  refine GO.iconst dX12_begins_10 ?_
  refine GO.istore_n (ls1 := [some (.ref x), some (ti p0), some (ti p1), some (ti 0)]) dX12_begins_11 rfl rfl rfl ?_
  have e22 : vi V8 x 0 = p0 := upd2_int e6 r_p0
  have e21 : vi V15 x 0 = vi V8 x 0 := vi_up e13 (Or.inr (by decide))
  have e23 : vi V15 x 1 = p1 := upd2_int e13 r_p1
  refine GO.loop1 (fun i20 W => 0 ≤ i20 ∧ i20 ≤ 144 ∧ (vi W x 0 = p0 ∧ vi W x 1 = p1) ∧ (MBL W x i20) ∧ True) (fun i20 => [some (.ref x), some (ti p0), some (ti p1), some (ti i20)]) (fun i20 W => (2147483647 - i20).toNat) 0 ⟨by omega, by omega, by omega, (by first | exact MBL.beg), trivial⟩ rfl (fun i20 Wi20 hp322 ih321 => ?_)
  obtain ⟨l_i20, u_i20, n_i20, hmb, -⟩ := hp322
  have r_i20 : ir i20 := ⟨by omega, by omega⟩
  show GO mX12_begins K V (VS K (fun V1 => (True) ∧ (MBG V1 x p0 p1))) K Wi20 0 0 12 [some (.ref x), some (ti p0), some (ti p1), some (ti i20)] []
  refine GO.useWT (fun hW323 => ?_)
  have ak324 := hW323.arr h_x 5 9 (by decide) rfl (by decide)
  have ak325 := hW323.arr h_x 6 10 (by decide) rfl (by decide)
  have ak326 := hW323.arr h_x 7 11 (by decide) rfl (by decide)
  have ak327 := hW323.arr h_x 8 12 (by decide) rfl (by decide)
  refine GO.iload_n dX12_begins_12 rfl rfl ?_
  refine GO.sipush dX12_begins_13 rfl ?_
  refine GO.icmp_ge (tgt := 53) dX12_begins_16 (by decide) r_i20 (ir_c rfl) (fun c328 => ?_) (fun c328 => ?_)
  ·
    exact GO.retv rfl rfl dX12_begins_53 ⟨rfl, rfl, ⟨trivial, MBG.mk hmb (by omega) (by omega) (by omega)⟩⟩
  ·
    refine GO.aload_n dX12_begins_19 rfl rfl ?_
    refine GO.getA (n := 144) h_x fl_RX12_16 rfl rfl rfl rfl dX12_begins_20 (fun hv330 h329 => ?_)
    refine GO.iload_n dX12_begins_23 rfl rfl ?_
    refine GO.iconst dX12_begins_24 ?_
    refine GO.iast (t := 9) rfl rfl (by decide +kernel) h329 r_i20 (by omega) (by omega) (ir_c rfl) (by decide) (by decide) dX12_begins_25 (fun V332 e331 => ?_)
    have ak333 := tk_put e331 ak324 h_x (vq_of hv330) (ir_c rfl) (rfl : ar 5 Wi20 x = ar 5 Wi20 x)
    have ak334 := tk_oth e331 ak325 h_x h329 (by decide) (by decide) (rfl : ar 6 Wi20 x = ar 6 Wi20 x)
    have ak335 := tk_oth e331 ak326 h_x h329 (by decide) (by decide) (rfl : ar 7 Wi20 x = ar 7 Wi20 x)
    have ak336 := tk_oth e331 ak327 h_x h329 (by decide) (by decide) (rfl : ar 8 Wi20 x = ar 8 Wi20 x)
    refine GO.aload_n dX12_begins_26 rfl rfl ?_
    refine GO.getA (n := 144) h_x fl_RX12_20 rfl rfl rfl rfl dX12_begins_27 (fun hv338 h337 => ?_)
    refine GO.iload_n dX12_begins_30 rfl rfl ?_
    refine GO.iconst dX12_begins_31 ?_
    refine GO.iast (t := 10) rfl rfl (by decide +kernel) h337 r_i20 (by omega) (by omega) (ir_c rfl) (by decide) (by decide) dX12_begins_32 (fun V340 e339 => ?_)
    have ak341 := tk_oth e339 ak333.1 h_x h337 (by decide) (by decide) ak333.2
    have ak342 := tk_put e339 ak334.1 h_x (vq_of hv338) (ir_c rfl) ak334.2
    have ak343 := tk_oth e339 ak335.1 h_x h337 (by decide) (by decide) ak335.2
    have ak344 := tk_oth e339 ak336.1 h_x h337 (by decide) (by decide) ak336.2
    refine GO.aload_n dX12_begins_33 rfl rfl ?_
    refine GO.getA (n := 144) h_x fl_RX12_23 rfl rfl rfl rfl dX12_begins_34 (fun hv346 h345 => ?_)
    refine GO.iload_n dX12_begins_37 rfl rfl ?_
    refine GO.iconst dX12_begins_38 ?_
    refine GO.iast (t := 11) rfl rfl (by decide +kernel) h345 r_i20 (by omega) (by omega) (ir_c rfl) (by decide) (by decide) dX12_begins_39 (fun V348 e347 => ?_)
    have ak349 := tk_oth e347 ak341.1 h_x h345 (by decide) (by decide) ak341.2
    have ak350 := tk_oth e347 ak342.1 h_x h345 (by decide) (by decide) ak342.2
    have ak351 := tk_put e347 ak343.1 h_x (vq_of hv346) (ir_c rfl) ak343.2
    have ak352 := tk_oth e347 ak344.1 h_x h345 (by decide) (by decide) ak344.2
    refine GO.aload_n dX12_begins_40 rfl rfl ?_
    refine GO.getA (n := 144) h_x fl_RX12_26 rfl rfl rfl rfl dX12_begins_41 (fun hv354 h353 => ?_)
    refine GO.iload_n dX12_begins_44 rfl rfl ?_
    refine GO.iconst dX12_begins_45 ?_
    refine GO.iast (t := 12) rfl rfl (by decide +kernel) h353 r_i20 (by omega) (by omega) (ir_c rfl) (by decide) (by decide) dX12_begins_46 (fun V356 e355 => ?_)
    have ak357 := tk_oth e355 ak349.1 h_x h353 (by decide) (by decide) ak349.2
    have ak358 := tk_oth e355 ak350.1 h_x h353 (by decide) (by decide) ak350.2
    have ak359 := tk_oth e355 ak351.1 h_x h353 (by decide) (by decide) ak351.2
    have ak360 := tk_put e355 ak352.1 h_x (vq_of hv354) (ir_c rfl) ak352.2
    refine GO.iinc (X := i20) (n := 1) (Y := i20 + 1) (ls1 := [some (.ref x), some (ti p0), some (ti p1), some (ti (i20 + 1))]) dX12_begins_47 rfl rfl rfl rfl ?_
    refine GO.goto (tgt := 12) dX12_begins_50 (by decide) ?_
    have e364 : vi V332 x 0 = vi Wi20 x 0 := vi_up e331 (Or.inl (K_ne h_x h329 (by decide)))
    have e363 : vi V340 x 0 = vi V332 x 0 := vi_up e339 (Or.inl (K_ne h_x h337 (by decide)))
    have e362 : vi V348 x 0 = vi V340 x 0 := vi_up e347 (Or.inl (K_ne h_x h345 (by decide)))
    have e361 : vi V356 x 0 = vi V348 x 0 := vi_up e355 (Or.inl (K_ne h_x h353 (by decide)))
    have q365 : -2147483648 ≤ vi Wi20 x 0 ∧ vi Wi20 x 0 ≤ 2147483647 := vi_ir
    have e369 : vi V332 x 1 = vi Wi20 x 1 := vi_up e331 (Or.inl (K_ne h_x h329 (by decide)))
    have e368 : vi V340 x 1 = vi V332 x 1 := vi_up e339 (Or.inl (K_ne h_x h337 (by decide)))
    have e367 : vi V348 x 1 = vi V340 x 1 := vi_up e347 (Or.inl (K_ne h_x h345 (by decide)))
    have e366 : vi V356 x 1 = vi V348 x 1 := vi_up e355 (Or.inl (K_ne h_x h353 (by decide)))
    have q370 : -2147483648 ≤ vi Wi20 x 1 ∧ vi Wi20 x 1 ≤ 2147483647 := vi_ir
    exact ih321 (i20 + 1) V356 ⟨by omega, by omega, by omega, (by first | exact MBL.beg | exact MBL.step hmb ak357.2 ak358.2 ak359.2 ak360.2 (by omega) (by omega) (by omega) (by omega) (by omega)), trivial⟩ (by show (2147483647 - (i20 + 1)).toNat < (2147483647 - i20).toNat; omega)

set_option maxHeartbeats 1000000 in
theorem t_X12_isCell {K : Kmap} {V : Vmap} {x : Nat} {p0 : Int} (h_x : K x = some (0, 11)) (r_p0 : ir p0) : MC mX12_isCell K V [.ref x, ti p0] (IP K V (fun X => (X = 0 ∨ X = 1) ∧ (X ≠ 0 → p0 ≥ 0 ∧ p0 ≤ 143) ∧ (X = 0 → True) ∧ (X ≠ 0 ↔ (0 ≤ p0 ∧ p0 < (vi V x 0) * (vi V x 1))))) := by
  refine MC.start 0 (by decide +kernel) rfl rfl rfl (ls0 := [some (.ref x), some (ti p0)]) rfl ?_
  refine GO.iload_n dX12_isCell_0 rfl rfl ?_
  refine GO.if_lt (tgt := 21) dX12_isCell_1 (by decide) r_p0 (fun c1 => ?_) (fun c1 => ?_)
  ·
    refine GO.iconst dX12_isCell_21 ?_
    exact GO.retz rfl rfl dX12_isCell_22 (Or.inl rfl) ⟨rfl, rfl, _, rfl, (ir_c rfl), ⟨Or.inl rfl, fun h => absurd rfl h, fun _ => trivial, (by constructor <;> intro _ <;> omega)⟩⟩
  ·
    refine GO.iload_n dX12_isCell_4 rfl rfl ?_
    refine GO.aload_n dX12_isCell_5 rfl rfl ?_
    refine GO.getI h_x fl_RX12_365 rfl rfl dX12_isCell_6 (fun l2 u3 => ?_)
    refine GO.aload_n dX12_isCell_9 rfl rfl ?_
    refine GO.getI h_x fl_RX12_368 rfl rfl dX12_isCell_10 (fun l4 u5 => ?_)
    refine GO.imul dX12_isCell_13 ?_
    have m6 := mul_rng (a := vi V x 0) (b := vi V x 1) (A := 12) (B := 12) (by omega) (by omega) (by omega) (by omega)
    have m7 := mul_low (a := vi V x 0) (b := vi V x 1) (m := 4) (n := 4) (by omega) (by omega) (by omega) (by omega)
    refine GO.icmp_ge (tgt := 21) dX12_isCell_14 (by decide) r_p0 ⟨by omega, by omega⟩ (fun c8 => ?_) (fun c8 => ?_)
    ·
      refine GO.iconst dX12_isCell_21 ?_
      exact GO.retz rfl rfl dX12_isCell_22 (Or.inl rfl) ⟨rfl, rfl, _, rfl, (ir_c rfl), ⟨Or.inl rfl, fun h => absurd rfl h, fun _ => trivial, (by constructor <;> intro _ <;> omega)⟩⟩
    ·
      refine GO.iconst dX12_isCell_17 ?_
      refine GO.goto (tgt := 22) dX12_isCell_18 (by decide) ?_
      exact GO.retz rfl rfl dX12_isCell_22 (Or.inr rfl) ⟨rfl, rfl, _, rfl, (ir_c rfl), ⟨Or.inr rfl, fun h => by omega, fun _ => trivial, (by constructor <;> intro _ <;> omega)⟩⟩

set_option maxHeartbeats 1000000 in
theorem t_X12_isDay {K : Kmap} {V : Vmap} {p0 : Int} (r_p0 : ir p0) : MC mX12_isDay K V [ti p0] (IP K V (fun X => (X = 0 ∨ X = 1) ∧ (X ≠ 0 → p0 ≥ 0 ∧ p0 ≤ 3599) ∧ (X = 0 → (p0 < 0 ∨ p0 > 3599)))) := by
  refine MC.start 0 (by decide +kernel) rfl rfl rfl (ls0 := [some (ti p0)]) rfl ?_
  refine GO.iload_n dX12_isDay_0 rfl rfl ?_
  refine GO.if_lt (tgt := 15) dX12_isDay_1 (by decide) r_p0 (fun c1 => ?_) (fun c1 => ?_)
  ·
    refine GO.iconst dX12_isDay_15 ?_
    exact GO.retz rfl rfl dX12_isDay_16 (Or.inl rfl) ⟨rfl, rfl, _, rfl, (ir_c rfl), ⟨Or.inl rfl, fun h => absurd rfl h, fun h => by omega⟩⟩
  ·
    refine GO.iload_n dX12_isDay_4 rfl rfl ?_
    refine GO.sipush dX12_isDay_5 rfl ?_
    refine GO.icmp_gt (tgt := 15) dX12_isDay_8 (by decide) r_p0 (ir_c rfl) (fun c2 => ?_) (fun c2 => ?_)
    ·
      refine GO.iconst dX12_isDay_15 ?_
      exact GO.retz rfl rfl dX12_isDay_16 (Or.inl rfl) ⟨rfl, rfl, _, rfl, (ir_c rfl), ⟨Or.inl rfl, fun h => absurd rfl h, fun h => by omega⟩⟩
    ·
      refine GO.iconst dX12_isDay_11 ?_
      refine GO.goto (tgt := 16) dX12_isDay_12 (by decide) ?_
      exact GO.retz rfl rfl dX12_isDay_16 (Or.inr rfl) ⟨rfl, rfl, _, rfl, (ir_c rfl), ⟨Or.inr rfl, fun h => by omega, fun h => absurd h (by decide)⟩⟩

set_option maxHeartbeats 1000000 in
theorem t_X12_ice {K : Kmap} {V : Vmap} {x : Nat} {p0 : Int} {p1 : Int} (h_x : K x = some (0, 11)) (r_p0 : ir p0) (r_p1 : ir p1) : MC mX12_ice K V [.ref x, ti p0, ti p1] (IS K (fun X V1 => (X = 0 ∨ X = 1) ∧ (X ≠ 0 → True) ∧ (X = 0 → True) ∧ (MIC V V1 x p0 p1 X))) := by
  refine MC.start 0 (by decide +kernel) rfl rfl rfl (ls0 := [some (.ref x), some (ti p0), some (ti p1)]) rfl ?_
  refine GO.iload_n dX12_ice_0 rfl rfl ?_
  refine GO.iconst dX12_ice_1 ?_
  refine GO.bipush dX12_ice_2 rfl ?_
  refine GO.callS (N := mX12_in) dX12_ice_4 gS_RX12_371 (t_X12_in r_p0 (ir_c rfl) (ir_c rfl)) rfl [] rfl rfl (Nat.le_of_ble_eq_true rfl) rfl (k_ip fun X1 r2 h3 => ?_)
  have raw_in := h3.2.2.2
  have rw4 := h3.2.2.2
  refine GO.if_eq (tgt := 34) dX12_ice_7 (by decide) r2 (fun c4 => ?_) (fun c4 => ?_)
  ·
    have q5 := h3.2.2.1 (by omega)
    refine GO.iconst dX12_ice_34 ?_
    exact GO.retz rfl rfl dX12_ice_35 (Or.inl rfl) ⟨rfl, _, rfl, (ir_c rfl), ⟨Or.inl rfl, fun _ => trivial, fun _ => trivial, (by first | exact MIC.no (by unfold ICD; omega) rfl)⟩⟩
  ·
    have q6 := h3.2.1 (by omega)
    refine GO.iload_n dX12_ice_10 rfl rfl ?_
    refine GO.iconst dX12_ice_11 ?_
    refine GO.bipush dX12_ice_12 rfl ?_
    refine GO.callS (N := mX12_in) dX12_ice_14 gS_RX12_371 (t_X12_in r_p1 (ir_c rfl) (ir_c rfl)) rfl [] rfl rfl (Nat.le_of_ble_eq_true rfl) rfl (k_ip fun X7 r8 h9 => ?_)
    have raw_in := h9.2.2.2
    have rw14 := h9.2.2.2
    refine GO.if_eq (tgt := 34) dX12_ice_17 (by decide) r8 (fun c10 => ?_) (fun c10 => ?_)
    ·
      have q11 := h9.2.2.1 (by omega)
      refine GO.iconst dX12_ice_34 ?_
      exact GO.retz rfl rfl dX12_ice_35 (Or.inl rfl) ⟨rfl, _, rfl, (ir_c rfl), ⟨Or.inl rfl, fun _ => trivial, fun _ => trivial, (by first | exact MIC.no (by unfold ICD; omega) rfl)⟩⟩
    ·
      have q12 := h9.2.1 (by omega)
      refine GO.aload_n dX12_ice_20 rfl rfl ?_
      refine GO.getI h_x fl_RX12_375 rfl rfl dX12_ice_21 (fun l13 u14 => ?_)
      refine GO.if_gt (tgt := 34) dX12_ice_24 (by decide) vi_ir (fun c15 => ?_) (fun c15 => ?_)
      ·
        refine GO.iconst dX12_ice_34 ?_
        exact GO.retz rfl rfl dX12_ice_35 (Or.inl rfl) ⟨rfl, _, rfl, (ir_c rfl), ⟨Or.inl rfl, fun _ => trivial, fun _ => trivial, (by first | exact MIC.no (by unfold ICD; omega) rfl)⟩⟩
      ·
        refine GO.aload_n dX12_ice_27 rfl rfl ?_
        refine GO.getI h_x fl_RX12_378 rfl rfl dX12_ice_28 (fun l16 u17 => ?_)
        refine GO.if_le (tgt := 36) dX12_ice_31 (by decide) vi_ir (fun c18 => ?_) (fun c18 => ?_)
        ·
          refine GO.aload_n dX12_ice_36 rfl rfl ?_
          refine GO.iload_n dX12_ice_37 rfl rfl ?_
          refine GO.iload_n dX12_ice_38 rfl rfl ?_
          have q19 : -2147483648 ≤ p0 ∧ p0 ≤ 2147483647 := r_p0
          have q20 : -2147483648 ≤ p1 ∧ p1 ≤ 2147483647 := r_p1
          refine GO.callV (ci := 11) (N := mX12_begins) dX12_ice_39 (RX12, TX12, 151) rfl gV_RX12_361 h_x (t_X12_begins h_x r_p0 r_p1 (by omega) (by omega) (by omega) (by omega)) rfl [] rfl rfl (Nat.le_of_ble_eq_true rfl) rfl (k_vs fun V23 h22 hF21 => ?_)
          have raw_begins := h22.2
          have rw39 := h22.2
          refine GO.iconst dX12_ice_42 ?_
          exact GO.retz rfl rfl dX12_ice_43 (Or.inr rfl) ⟨rfl, _, rfl, (ir_c rfl), ⟨Or.inr rfl, fun _ => trivial, fun _ => trivial, (by first | exact MIC.no (by unfold ICD; omega) rfl | exact MIC.ok (by unfold ICD; omega) rfl rw39)⟩⟩
        ·
          refine GO.iconst dX12_ice_34 ?_
          exact GO.retz rfl rfl dX12_ice_35 (Or.inl rfl) ⟨rfl, _, rfl, (ir_c rfl), ⟨Or.inl rfl, fun _ => trivial, fun _ => trivial, (by first | exact MIC.no (by unfold ICD; omega) rfl)⟩⟩

set_option maxHeartbeats 1000000 in
theorem t_X12_cell {K : Kmap} {V : Vmap} {x : Nat} {p0 : Int} {p1 : Int} {p2 : Int} {p3 : Int} {p4 : Int} (h_x : K x = some (0, 11)) (r_p0 : ir p0) (r_p1 : ir p1) (r_p2 : ir p2) (r_p3 : ir p3) (r_p4 : ir p4) : MC mX12_cell K V [.ref x, ti p0, ti p1, ti p2, ti p3, ti p4] (IS K (fun X V1 => (X = 0 ∨ X = 1) ∧ (X ≠ 0 → True) ∧ (X = 0 → True) ∧ (MCE V V1 x p0 p1 p2 p3 p4 X))) := by
  refine MC.start 0 (by decide +kernel) rfl rfl rfl (ls0 := [some (.ref x), some (ti p0), some (ti p1), some (ti p2), some (ti p3), some (ti p4)]) rfl ?_
  refine GO.useWT (fun hW1 => ?_)
  have ak2 := hW1.arr h_x 5 9 (by decide) rfl (by decide)
  have ak3 := hW1.arr h_x 6 10 (by decide) rfl (by decide)
  have ak4 := hW1.arr h_x 7 11 (by decide) rfl (by decide)
  have ak5 := hW1.arr h_x 8 12 (by decide) rfl (by decide)
  refine GO.aload_n dX12_cell_0 rfl rfl ?_
  refine GO.iload_n dX12_cell_1 rfl rfl ?_
  refine GO.callV (ci := 11) (N := mX12_isCell) dX12_cell_2 (RX12, TX12, 151) rfl gV_RX12_381 h_x (t_X12_isCell h_x r_p0) rfl [] rfl rfl (Nat.le_of_ble_eq_true rfl) rfl (k_ip fun X6 r7 h8 => ?_)
  have raw_isCell := h8.2.2.2
  have rw2 := h8.2.2.2
  refine GO.if_eq (tgt := 38) dX12_cell_5 (by decide) r7 (fun c9 => ?_) (fun c9 => ?_)
  ·
    refine GO.iconst dX12_cell_38 ?_
    exact GO.retz rfl rfl dX12_cell_39 (Or.inl rfl) ⟨rfl, _, rfl, (ir_c rfl), ⟨Or.inl rfl, fun _ => trivial, fun _ => trivial, (by first | exact MCE.no (fun g => absurd (rw2.mpr g.1) (by omega)) rfl | exact MCE.no (fun g => by have h9 := g.2; omega) rfl | exact MCE.ok ⟨rw2.mp (by omega), by omega, by omega, by omega, by omega, by omega⟩ rfl (by omega) (by omega) (rfl : ar 5 V x = ar 5 V x) (rfl : ar 6 V x = ar 6 V x) (rfl : ar 7 V x = ar 7 V x) (rfl : ar 8 V x = ar 8 V x))⟩⟩
  ·
    have q10 := h8.2.1 (by omega)
    refine GO.iload_n dX12_cell_8 rfl rfl ?_
    refine GO.iconst dX12_cell_9 ?_
    refine GO.bipush dX12_cell_10 rfl ?_
    refine GO.callS (N := mX12_in) dX12_cell_12 gS_RX12_371 (t_X12_in r_p1 (ir_c rfl) (ir_c rfl)) rfl [] rfl rfl (Nat.le_of_ble_eq_true rfl) rfl (k_ip fun X11 r12 h13 => ?_)
    have raw_in := h13.2.2.2
    have rw12 := h13.2.2.2
    refine GO.if_eq (tgt := 38) dX12_cell_15 (by decide) r12 (fun c14 => ?_) (fun c14 => ?_)
    ·
      have q15 := h13.2.2.1 (by omega)
      refine GO.iconst dX12_cell_38 ?_
      exact GO.retz rfl rfl dX12_cell_39 (Or.inl rfl) ⟨rfl, _, rfl, (ir_c rfl), ⟨Or.inl rfl, fun _ => trivial, fun _ => trivial, (by first | exact MCE.no (fun g => absurd (rw2.mpr g.1) (by omega)) rfl | exact MCE.no (fun g => by have h9 := g.2; omega) rfl | exact MCE.ok ⟨rw2.mp (by omega), by omega, by omega, by omega, by omega, by omega⟩ rfl (by omega) (by omega) (rfl : ar 5 V x = ar 5 V x) (rfl : ar 6 V x = ar 6 V x) (rfl : ar 7 V x = ar 7 V x) (rfl : ar 8 V x = ar 8 V x))⟩⟩
    ·
      have q16 := h13.2.1 (by omega)
      refine GO.iload_n dX12_cell_18 rfl rfl ?_
      refine GO.iconst dX12_cell_19 ?_
      refine GO.iconst dX12_cell_20 ?_
      refine GO.callS (N := mX12_in) dX12_cell_21 gS_RX12_371 (t_X12_in r_p2 (ir_c rfl) (ir_c rfl)) rfl [] rfl rfl (Nat.le_of_ble_eq_true rfl) rfl (k_ip fun X17 r18 h19 => ?_)
      have raw_in := h19.2.2.2
      have rw21 := h19.2.2.2
      refine GO.if_eq (tgt := 38) dX12_cell_24 (by decide) r18 (fun c20 => ?_) (fun c20 => ?_)
      ·
        have q21 := h19.2.2.1 (by omega)
        refine GO.iconst dX12_cell_38 ?_
        exact GO.retz rfl rfl dX12_cell_39 (Or.inl rfl) ⟨rfl, _, rfl, (ir_c rfl), ⟨Or.inl rfl, fun _ => trivial, fun _ => trivial, (by first | exact MCE.no (fun g => absurd (rw2.mpr g.1) (by omega)) rfl | exact MCE.no (fun g => by have h9 := g.2; omega) rfl | exact MCE.ok ⟨rw2.mp (by omega), by omega, by omega, by omega, by omega, by omega⟩ rfl (by omega) (by omega) (rfl : ar 5 V x = ar 5 V x) (rfl : ar 6 V x = ar 6 V x) (rfl : ar 7 V x = ar 7 V x) (rfl : ar 8 V x = ar 8 V x))⟩⟩
      ·
        have q22 := h19.2.1 (by omega)
        refine GO.iload dX12_cell_27 rfl ?_
        refine GO.iconst dX12_cell_29 ?_
        refine GO.bipush dX12_cell_30 rfl ?_
        refine GO.callS (N := mX12_in) dX12_cell_32 gS_RX12_371 (t_X12_in r_p3 (ir_c rfl) (ir_c rfl)) rfl [] rfl rfl (Nat.le_of_ble_eq_true rfl) rfl (k_ip fun X23 r24 h25 => ?_)
        have raw_in := h25.2.2.2
        have rw32 := h25.2.2.2
        refine GO.if_ne (tgt := 40) dX12_cell_35 (by decide) r24 (fun c26 => ?_) (fun c26 => ?_)
        ·
          have q27 := h25.2.1 (by omega)
          refine GO.iload dX12_cell_40 rfl ?_
          refine GO.iconst dX12_cell_42 ?_
          refine GO.icmp_ne (tgt := 54) dX12_cell_43 (by decide) r_p3 (ir_c rfl) (fun c28 => ?_) (fun c28 => ?_)
          ·
            refine GO.iload dX12_cell_54 rfl ?_
            refine GO.bipush dX12_cell_56 rfl ?_
            refine GO.sipush dX12_cell_58 rfl ?_
            refine GO.callS (N := mX12_in) dX12_cell_61 gS_RX12_371 (t_X12_in r_p4 (ir_c rfl) (ir_c rfl)) rfl [] rfl rfl (Nat.le_of_ble_eq_true rfl) rfl (k_ip fun X29 r30 h31 => ?_)
            have raw_in := h31.2.2.2
            have rw61 := h31.2.2.2
            refine GO.if_ne (tgt := 69) dX12_cell_64 (by decide) r30 (fun c32 => ?_) (fun c32 => ?_)
            ·
              have q33 := h31.2.1 (by omega)
              refine GO.aload_n dX12_cell_69 rfl rfl ?_
              refine GO.getA (n := 144) h_x fl_RX12_16 rfl rfl rfl rfl dX12_cell_70 (fun hv35 h34 => ?_)
              refine GO.iload_n dX12_cell_73 rfl rfl ?_
              refine GO.iload_n dX12_cell_74 rfl rfl ?_
              have q36 : -2147483648 ≤ p0 ∧ p0 ≤ 2147483647 := r_p0
              have q38 : -2147483648 ≤ p1 ∧ p1 ≤ 2147483647 := r_p1
              refine GO.iast (t := 9) rfl rfl (by decide +kernel) h34 r_p0 (by omega) (by omega) r_p1 (by omega) (by omega) dX12_cell_75 (fun V39 e37 => ?_)
              have ak40 := tk_put e37 ak2 h_x (vq_of hv35) r_p1 (rfl : ar 5 V x = ar 5 V x)
              have ak41 := tk_oth e37 ak3 h_x h34 (by decide) (by decide) (rfl : ar 6 V x = ar 6 V x)
              have ak42 := tk_oth e37 ak4 h_x h34 (by decide) (by decide) (rfl : ar 7 V x = ar 7 V x)
              have ak43 := tk_oth e37 ak5 h_x h34 (by decide) (by decide) (rfl : ar 8 V x = ar 8 V x)
              refine GO.aload_n dX12_cell_76 rfl rfl ?_
              refine GO.getA (n := 144) h_x fl_RX12_20 rfl rfl rfl rfl dX12_cell_77 (fun hv45 h44 => ?_)
              refine GO.iload_n dX12_cell_80 rfl rfl ?_
              refine GO.iload_n dX12_cell_81 rfl rfl ?_
              have q47 : -2147483648 ≤ p2 ∧ p2 ≤ 2147483647 := r_p2
              refine GO.iast (t := 10) rfl rfl (by decide +kernel) h44 r_p0 (by omega) (by omega) r_p2 (by omega) (by omega) dX12_cell_82 (fun V48 e46 => ?_)
              have ak49 := tk_oth e46 ak40.1 h_x h44 (by decide) (by decide) ak40.2
              have ak50 := tk_put e46 ak41.1 h_x (vq_of hv45) r_p2 ak41.2
              have ak51 := tk_oth e46 ak42.1 h_x h44 (by decide) (by decide) ak42.2
              have ak52 := tk_oth e46 ak43.1 h_x h44 (by decide) (by decide) ak43.2
              refine GO.aload_n dX12_cell_83 rfl rfl ?_
              refine GO.getA (n := 144) h_x fl_RX12_23 rfl rfl rfl rfl dX12_cell_84 (fun hv54 h53 => ?_)
              refine GO.iload_n dX12_cell_87 rfl rfl ?_
              refine GO.iload dX12_cell_88 rfl ?_
              have q56 : -2147483648 ≤ p3 ∧ p3 ≤ 2147483647 := r_p3
              refine GO.iast (t := 11) rfl rfl (by decide +kernel) h53 r_p0 (by omega) (by omega) r_p3 (by omega) (by omega) dX12_cell_90 (fun V57 e55 => ?_)
              have ak58 := tk_oth e55 ak49.1 h_x h53 (by decide) (by decide) ak49.2
              have ak59 := tk_oth e55 ak50.1 h_x h53 (by decide) (by decide) ak50.2
              have ak60 := tk_put e55 ak51.1 h_x (vq_of hv54) r_p3 ak51.2
              have ak61 := tk_oth e55 ak52.1 h_x h53 (by decide) (by decide) ak52.2
              refine GO.aload_n dX12_cell_91 rfl rfl ?_
              refine GO.getA (n := 144) h_x fl_RX12_26 rfl rfl rfl rfl dX12_cell_92 (fun hv63 h62 => ?_)
              refine GO.iload_n dX12_cell_95 rfl rfl ?_
              refine GO.iload dX12_cell_96 rfl ?_
              have q65 : -2147483648 ≤ p4 ∧ p4 ≤ 2147483647 := r_p4
              refine GO.iast (t := 12) rfl rfl (by decide +kernel) h62 r_p0 (by omega) (by omega) r_p4 (by omega) (by omega) dX12_cell_98 (fun V66 e64 => ?_)
              have ak67 := tk_oth e64 ak58.1 h_x h62 (by decide) (by decide) ak58.2
              have ak68 := tk_oth e64 ak59.1 h_x h62 (by decide) (by decide) ak59.2
              have ak69 := tk_oth e64 ak60.1 h_x h62 (by decide) (by decide) ak60.2
              have ak70 := tk_put e64 ak61.1 h_x (vq_of hv63) r_p4 ak61.2
              refine GO.iconst dX12_cell_99 ?_
              have e74 : vi V39 x 0 = vi V x 0 := vi_up e37 (Or.inl (K_ne h_x h34 (by decide)))
              have e73 : vi V48 x 0 = vi V39 x 0 := vi_up e46 (Or.inl (K_ne h_x h44 (by decide)))
              have e72 : vi V57 x 0 = vi V48 x 0 := vi_up e55 (Or.inl (K_ne h_x h53 (by decide)))
              have e71 : vi V66 x 0 = vi V57 x 0 := vi_up e64 (Or.inl (K_ne h_x h62 (by decide)))
              have e78 : vi V39 x 1 = vi V x 1 := vi_up e37 (Or.inl (K_ne h_x h34 (by decide)))
              have e77 : vi V48 x 1 = vi V39 x 1 := vi_up e46 (Or.inl (K_ne h_x h44 (by decide)))
              have e76 : vi V57 x 1 = vi V48 x 1 := vi_up e55 (Or.inl (K_ne h_x h53 (by decide)))
              have e75 : vi V66 x 1 = vi V57 x 1 := vi_up e64 (Or.inl (K_ne h_x h62 (by decide)))
              exact GO.retz rfl rfl dX12_cell_100 (Or.inr rfl) ⟨rfl, _, rfl, (ir_c rfl), ⟨Or.inr rfl, fun _ => trivial, fun _ => trivial, (by first | exact MCE.no (fun g => absurd (rw2.mpr g.1) (by omega)) rfl | exact MCE.no (fun g => by have h9 := g.2; omega) rfl | exact MCE.ok ⟨rw2.mp (by omega), by omega, by omega, by omega, by omega, by omega⟩ rfl (by omega) (by omega) ak67.2 ak68.2 ak69.2 ak70.2)⟩⟩
            ·
              have q79 := h31.2.2.1 (by omega)
              refine GO.iconst dX12_cell_67 ?_
              exact GO.retz rfl rfl dX12_cell_68 (Or.inl rfl) ⟨rfl, _, rfl, (ir_c rfl), ⟨Or.inl rfl, fun _ => trivial, fun _ => trivial, (by first | exact MCE.no (fun g => absurd (rw2.mpr g.1) (by omega)) rfl | exact MCE.no (fun g => by have h9 := g.2; omega) rfl | exact MCE.ok ⟨rw2.mp (by omega), by omega, by omega, by omega, by omega, by omega⟩ rfl (by omega) (by omega) (rfl : ar 5 V x = ar 5 V x) (rfl : ar 6 V x = ar 6 V x) (rfl : ar 7 V x = ar 7 V x) (rfl : ar 8 V x = ar 8 V x))⟩⟩
          ·
            refine GO.iload dX12_cell_46 rfl ?_
            refine GO.if_eq (tgt := 69) dX12_cell_48 (by decide) r_p4 (fun c80 => ?_) (fun c80 => ?_)
            ·
              refine GO.aload_n dX12_cell_69 rfl rfl ?_
              refine GO.getA (n := 144) h_x fl_RX12_16 rfl rfl rfl rfl dX12_cell_70 (fun hv82 h81 => ?_)
              refine GO.iload_n dX12_cell_73 rfl rfl ?_
              refine GO.iload_n dX12_cell_74 rfl rfl ?_
              have q83 : -2147483648 ≤ p0 ∧ p0 ≤ 2147483647 := r_p0
              have q85 : -2147483648 ≤ p1 ∧ p1 ≤ 2147483647 := r_p1
              refine GO.iast (t := 9) rfl rfl (by decide +kernel) h81 r_p0 (by omega) (by omega) r_p1 (by omega) (by omega) dX12_cell_75 (fun V86 e84 => ?_)
              have ak87 := tk_put e84 ak2 h_x (vq_of hv82) r_p1 (rfl : ar 5 V x = ar 5 V x)
              have ak88 := tk_oth e84 ak3 h_x h81 (by decide) (by decide) (rfl : ar 6 V x = ar 6 V x)
              have ak89 := tk_oth e84 ak4 h_x h81 (by decide) (by decide) (rfl : ar 7 V x = ar 7 V x)
              have ak90 := tk_oth e84 ak5 h_x h81 (by decide) (by decide) (rfl : ar 8 V x = ar 8 V x)
              refine GO.aload_n dX12_cell_76 rfl rfl ?_
              refine GO.getA (n := 144) h_x fl_RX12_20 rfl rfl rfl rfl dX12_cell_77 (fun hv92 h91 => ?_)
              refine GO.iload_n dX12_cell_80 rfl rfl ?_
              refine GO.iload_n dX12_cell_81 rfl rfl ?_
              have q94 : -2147483648 ≤ p2 ∧ p2 ≤ 2147483647 := r_p2
              refine GO.iast (t := 10) rfl rfl (by decide +kernel) h91 r_p0 (by omega) (by omega) r_p2 (by omega) (by omega) dX12_cell_82 (fun V95 e93 => ?_)
              have ak96 := tk_oth e93 ak87.1 h_x h91 (by decide) (by decide) ak87.2
              have ak97 := tk_put e93 ak88.1 h_x (vq_of hv92) r_p2 ak88.2
              have ak98 := tk_oth e93 ak89.1 h_x h91 (by decide) (by decide) ak89.2
              have ak99 := tk_oth e93 ak90.1 h_x h91 (by decide) (by decide) ak90.2
              refine GO.aload_n dX12_cell_83 rfl rfl ?_
              refine GO.getA (n := 144) h_x fl_RX12_23 rfl rfl rfl rfl dX12_cell_84 (fun hv101 h100 => ?_)
              refine GO.iload_n dX12_cell_87 rfl rfl ?_
              refine GO.iload dX12_cell_88 rfl ?_
              have q103 : -2147483648 ≤ p3 ∧ p3 ≤ 2147483647 := r_p3
              refine GO.iast (t := 11) rfl rfl (by decide +kernel) h100 r_p0 (by omega) (by omega) r_p3 (by omega) (by omega) dX12_cell_90 (fun V104 e102 => ?_)
              have ak105 := tk_oth e102 ak96.1 h_x h100 (by decide) (by decide) ak96.2
              have ak106 := tk_oth e102 ak97.1 h_x h100 (by decide) (by decide) ak97.2
              have ak107 := tk_put e102 ak98.1 h_x (vq_of hv101) r_p3 ak98.2
              have ak108 := tk_oth e102 ak99.1 h_x h100 (by decide) (by decide) ak99.2
              refine GO.aload_n dX12_cell_91 rfl rfl ?_
              refine GO.getA (n := 144) h_x fl_RX12_26 rfl rfl rfl rfl dX12_cell_92 (fun hv110 h109 => ?_)
              refine GO.iload_n dX12_cell_95 rfl rfl ?_
              refine GO.iload dX12_cell_96 rfl ?_
              have q112 : -2147483648 ≤ p4 ∧ p4 ≤ 2147483647 := r_p4
              refine GO.iast (t := 12) rfl rfl (by decide +kernel) h109 r_p0 (by omega) (by omega) r_p4 (by omega) (by omega) dX12_cell_98 (fun V113 e111 => ?_)
              have ak114 := tk_oth e111 ak105.1 h_x h109 (by decide) (by decide) ak105.2
              have ak115 := tk_oth e111 ak106.1 h_x h109 (by decide) (by decide) ak106.2
              have ak116 := tk_oth e111 ak107.1 h_x h109 (by decide) (by decide) ak107.2
              have ak117 := tk_put e111 ak108.1 h_x (vq_of hv110) r_p4 ak108.2
              refine GO.iconst dX12_cell_99 ?_
              have e121 : vi V86 x 0 = vi V x 0 := vi_up e84 (Or.inl (K_ne h_x h81 (by decide)))
              have e120 : vi V95 x 0 = vi V86 x 0 := vi_up e93 (Or.inl (K_ne h_x h91 (by decide)))
              have e119 : vi V104 x 0 = vi V95 x 0 := vi_up e102 (Or.inl (K_ne h_x h100 (by decide)))
              have e118 : vi V113 x 0 = vi V104 x 0 := vi_up e111 (Or.inl (K_ne h_x h109 (by decide)))
              have e125 : vi V86 x 1 = vi V x 1 := vi_up e84 (Or.inl (K_ne h_x h81 (by decide)))
              have e124 : vi V95 x 1 = vi V86 x 1 := vi_up e93 (Or.inl (K_ne h_x h91 (by decide)))
              have e123 : vi V104 x 1 = vi V95 x 1 := vi_up e102 (Or.inl (K_ne h_x h100 (by decide)))
              have e122 : vi V113 x 1 = vi V104 x 1 := vi_up e111 (Or.inl (K_ne h_x h109 (by decide)))
              exact GO.retz rfl rfl dX12_cell_100 (Or.inr rfl) ⟨rfl, _, rfl, (ir_c rfl), ⟨Or.inr rfl, fun _ => trivial, fun _ => trivial, (by first | exact MCE.no (fun g => absurd (rw2.mpr g.1) (by omega)) rfl | exact MCE.no (fun g => by have h9 := g.2; omega) rfl | exact MCE.ok ⟨rw2.mp (by omega), by omega, by omega, by omega, by omega, by omega⟩ rfl (by omega) (by omega) ak114.2 ak115.2 ak116.2 ak117.2)⟩⟩
            ·
              refine GO.goto (tgt := 67) dX12_cell_51 (by decide) ?_
              refine GO.iconst dX12_cell_67 ?_
              exact GO.retz rfl rfl dX12_cell_68 (Or.inl rfl) ⟨rfl, _, rfl, (ir_c rfl), ⟨Or.inl rfl, fun _ => trivial, fun _ => trivial, (by first | exact MCE.no (fun g => absurd (rw2.mpr g.1) (by omega)) rfl | exact MCE.no (fun g => by have h9 := g.2; omega) rfl | exact MCE.ok ⟨rw2.mp (by omega), by omega, by omega, by omega, by omega, by omega⟩ rfl (by omega) (by omega) (rfl : ar 5 V x = ar 5 V x) (rfl : ar 6 V x = ar 6 V x) (rfl : ar 7 V x = ar 7 V x) (rfl : ar 8 V x = ar 8 V x))⟩⟩
        ·
          have q126 := h25.2.2.1 (by omega)
          refine GO.iconst dX12_cell_38 ?_
          exact GO.retz rfl rfl dX12_cell_39 (Or.inl rfl) ⟨rfl, _, rfl, (ir_c rfl), ⟨Or.inl rfl, fun _ => trivial, fun _ => trivial, (by first | exact MCE.no (fun g => absurd (rw2.mpr g.1) (by omega)) rfl | exact MCE.no (fun g => by have h9 := g.2; omega) rfl | exact MCE.ok ⟨rw2.mp (by omega), by omega, by omega, by omega, by omega, by omega⟩ rfl (by omega) (by omega) (rfl : ar 5 V x = ar 5 V x) (rfl : ar 6 V x = ar 6 V x) (rfl : ar 7 V x = ar 7 V x) (rfl : ar 8 V x = ar 8 V x))⟩⟩
