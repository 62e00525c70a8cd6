def mX11_sum : MRec := (RX11, cX11_sum, 3, (some .long), yX11_sum, 1, 24, 0, 0, 0)
def mX11_decidesFrom : MRec := (RX11, cX11_decidesFrom, 3, (some .int), yX11_decidesFrom, 1, 22, 0, 0, 0)
def mX11_sledgesOnWay : MRec := (RX11, cX11_sledgesOnWay, 3, (some .int), yX11_sledgesOnWay, 1, 24, 0, 0, 0)
def mX11_count : MRec := (RX11, cX11_count, 2, (some .int), yX11_count, 2, 46, 0, 0, 0)
def mX12_in : MRec := (RX12, cX12_in, 3, (some .boolean), yX12_in, 0, 0, 0, 0, 0)
def mX12_size : MRec := (RX12, cX12_size, 1, (some .int), yX12_size, 0, 0, 0, 0, 0)
def mX12_begins : MRec := (RX12, cX12_begins, 4, (none : Option Jvm.ClassFile.FieldType), yX12_begins, 0, 0, 0, 0, 29140033383385936063791928602352783599636102585784086660770863519892919988668547989504)
def mX12_isCell : MRec := (RX12, cX12_isCell, 2, (some .boolean), yX12_isCell, 0, 0, 0, 0, 0)
def mX12_isDay : MRec := (RX12, cX12_isDay, 1, (some .boolean), yX12_isDay, 0, 0, 0, 0, 0)
def mX12_ice : MRec := (RX12, cX12_ice, 3, (some .boolean), yX12_ice, 1, 23, 0, 0, 29140033383385936063791928602352783599636102585784086660770863519892919988668547989504)
def mX12_cell : MRec := (RX12, cX12_cell, 6, (some .boolean), yX12_cell, 1, 22, 0, 0, 29140033383385936063791928602352783599636102585782092818777186146083564278078127472640)
def mX12_dark : MRec := (RX12, cX12_dark, 3, (some .boolean), yX12_dark, 1, 22, 0, 0, 15950735949418990474845684723364134912)
def mX12_isDark : MRec := (RX12, cX12_isDark, 2, (some .boolean), yX12_isDark, 1, 22, 0, 0, 0)
def mX12_far : MRec := (RX12, cX12_far, 5, (some .int), yX12_far, 1, 20, 0, 0, 0)
def mX12_columnStep : MRec := (RX12, cX12_columnStep, 1, (some .int), yX12_columnStep, 1, 22, 0, 0, 0)
def mX12_rowStep : MRec := (RX12, cX12_rowStep, 1, (some .int), yX12_rowStep, 1, 22, 0, 0, 0)
set_option maxHeartbeats 1000000 in
theorem t_X11_sum {K : Kmap} {V : Vmap} {x : Nat} {p0 : Int} (h_x : K x = some (0, 10)) (r_p0 : ir p0) : MC mX11_sum K V [.ref x, ti p0] (JP K V) := by
  refine MC.start 1 (by decide +kernel) rfl rfl rfl (ls0 := [some (.ref x), some (ti p0), none]) rfl ?_
  refine GO.iload_n dX11_sum_0 rfl rfl ?_
  have hj10 : GO mX11_sum K V (JP K V) K V 0 0 20 [some (.ref x), some (ti p0), none] [] := by
    skip
    refine GO.iload_n dX11_sum_20 rfl rfl ?_
    refine GO.bipush dX11_sum_21 rfl ?_
    refine GO.bipush dX11_sum_23 rfl ?_
    refine GO.callS (N := mX11_between) dX11_sum_25 gS_RX11_112 (t_X11_between r_p0 (ir_c rfl) (ir_c rfl)) rfl [] rfl rfl (Nat.le_of_ble_eq_true rfl) rfl (k_ip fun X11 r12 h13 => ?_)
    refine GO.if_eq (tgt := 56) dX11_sum_28 (by decide) r12 (fun c14 => ?_) (fun c14 => ?_)
    ·
      have q15 := h13.2.2 (by omega)
      refine GO.iload_n dX11_sum_56 rfl rfl ?_
      refine GO.bipush dX11_sum_57 rfl ?_
      refine GO.icmp_lt (tgt := 92) dX11_sum_59 (by decide) r_p0 (ir_c rfl) (fun c16 => ?_) (fun c16 => ?_)
      ·
        refine GO.ldc2 dX11_sum_92 gw_1459 ?_
        refine GO.anyL (fun z17 => ?_)
        exact GO.retl rfl rfl dX11_sum_95 ⟨rfl, rfl, _, rfl⟩
      ·
        refine GO.aload_n dX11_sum_62 rfl rfl ?_
        refine GO.getR h_x fl_RX11_79 rfl rfl dX11_sum_63 (fun hv19 h18 => ?_)
        refine GO.iload_n dX11_sum_66 rfl rfl ?_
        refine GO.bipush dX11_sum_67 rfl ?_
        refine GO.isub dX11_sum_69 ?_
        have q20 : -2147483648 ≤ p0 ∧ p0 ≤ 2147483647 := r_p0
        refine GO.callV (ci := 7) (N := mX8_has) dX11_sum_70 (RX8, TX8, 4) rfl gV_RX11_431 h18 (t_X8_has h18 ⟨by omega, by omega⟩) rfl [] rfl rfl (Nat.le_of_ble_eq_true rfl) rfl (k_ip fun X21 r22 h23 => ?_)
        refine GO.if_eq (tgt := 92) dX11_sum_73 (by decide) r22 (fun c24 => ?_) (fun c24 => ?_)
        ·
          refine GO.ldc2 dX11_sum_92 gw_1459 ?_
          refine GO.anyL (fun z25 => ?_)
          exact GO.retl rfl rfl dX11_sum_95 ⟨rfl, rfl, _, rfl⟩
        ·
          refine GO.aload_n dX11_sum_76 rfl rfl ?_
          refine GO.getRaw h_x fl_RX11_79 hv19 dX11_sum_77 ?_
          refine GO.iload_n dX11_sum_80 rfl rfl ?_
          refine GO.bipush dX11_sum_81 rfl ?_
          refine GO.isub dX11_sum_83 ?_
          refine GO.iconst dX11_sum_84 ?_
          refine GO.callV (ci := 7) (N := mX8_get) dX11_sum_85 (RX8, TX8, 4) rfl gV_RX11_209 h18 (t_X8_get h18 ⟨by omega, by omega⟩ (ir_c rfl)) rfl [] rfl rfl (Nat.le_of_ble_eq_true rfl) rfl (k_ip fun X28 r29 h30 => ?_)
          refine GO.i2l dX11_sum_88 ?_
          refine GO.anyL (fun z31 => ?_)
          refine GO.goto (tgt := 95) dX11_sum_89 (by decide) ?_
          exact GO.retl rfl rfl dX11_sum_95 ⟨rfl, rfl, _, rfl⟩
    ·
      have q32 := h13.2.1 (by omega)
      refine GO.aload_n dX11_sum_31 rfl rfl ?_
      refine GO.iload_n dX11_sum_32 rfl rfl ?_
      refine GO.bipush dX11_sum_33 rfl ?_
      refine GO.isub dX11_sum_35 ?_
      have q33 : -2147483648 ≤ p0 ∧ p0 ≤ 2147483647 := r_p0
      refine GO.callV (ci := 10) (N := mX11_partyOf) dX11_sum_36 (RX11, TX11, 20) rfl gV_RX11_151 h_x (t_X11_partyOf h_x ⟨by omega, by omega⟩) rfl [] rfl rfl (Nat.le_of_ble_eq_true rfl) rfl (k_rp (fun h36 => ?_) (fun o34 h35 h36 => ?_))
      ·
        refine GO.astore_nN (ls1 := [some (.ref x), some (ti p0), some (.null)]) dX11_sum_39 rfl rfl rfl ?_
        refine GO.aload_nN dX11_sum_40 rfl rfl ?_
        refine GO.ifnonnullN dX11_sum_41 ?_
        refine GO.ldc2 dX11_sum_44 gw_1459 ?_
        refine GO.anyL (fun z37 => ?_)
        refine GO.goto (tgt := 55) dX11_sum_47 (by decide) ?_
        exact GO.retl rfl rfl dX11_sum_55 ⟨rfl, rfl, _, rfl⟩
      ·
        refine GO.astore_n (ls1 := [some (.ref x), some (ti p0), some (.ref o34)]) dX11_sum_39 rfl rfl rfl ?_
        refine GO.aload_n dX11_sum_40 rfl rfl ?_
        refine GO.ifnonnull (tgt := 50) dX11_sum_41 (by decide) ?_
        refine GO.aload_n dX11_sum_50 rfl rfl ?_
        refine GO.getI h35 fl_RX11_464 rfl rfl dX11_sum_51 (fun _ _ => ?_)
        refine GO.i2l dX11_sum_54 ?_
        refine GO.anyL (fun z38 => ?_)
        exact GO.retl rfl rfl dX11_sum_55 ⟨rfl, rfl, _, rfl⟩
  refine GO.if_lt (tgt := 20) dX11_sum_1 (by decide) r_p0 (fun c39 => ?_) (fun c39 => ?_)
  ·
    exact hj10 
  ·
    refine GO.iload_n dX11_sum_4 rfl rfl ?_
    refine GO.aload_n dX11_sum_5 rfl rfl ?_
    refine GO.getA (n := 8) h_x fl_RX11_98 rfl rfl rfl rfl dX11_sum_6 (fun hv41 h40 => ?_)
    refine GO.alen h40 dX11_sum_9 (fun h42 => ?_)
    refine GO.icmp_ge (tgt := 20) dX11_sum_10 (by decide) r_p0 ⟨by omega, by omega⟩ (fun c43 => ?_) (fun c43 => ?_)
    ·
      exact hj10 
    ·
      refine GO.aload_n dX11_sum_13 rfl rfl ?_
      refine GO.getRaw h_x fl_RX11_98 hv41 dX11_sum_14 ?_
      refine GO.iload_n dX11_sum_17 rfl rfl ?_
      have q46 : -2147483648 ≤ p0 ∧ p0 ≤ 2147483647 := r_p0
      refine GO.lald h40 r_p0 (by omega) (by omega) dX11_sum_18 ?_
      refine GO.anyL (fun z47 => ?_)
      exact GO.retl rfl rfl dX11_sum_19 ⟨rfl, rfl, _, rfl⟩

set_option maxHeartbeats 1000000 in
theorem t_X11_decidesFrom {K : Kmap} {V : Vmap} {x : Nat} {p0 : Int} (h_x : K x = some (0, 10)) (r_p0 : ir p0) : MC mX11_decidesFrom K V [.ref x, ti p0] (IP K V (fun X => True)) := by
  refine MC.start 1 (by decide +kernel) rfl rfl rfl (ls0 := [some (.ref x), some (ti p0), none]) rfl ?_
  refine GO.iload_n dX11_decidesFrom_0 rfl rfl ?_
  refine GO.bipush dX11_decidesFrom_1 rfl ?_
  refine GO.bipush dX11_decidesFrom_3 rfl ?_
  refine GO.callS (N := mX11_between) dX11_decidesFrom_5 gS_RX11_112 (t_X11_between r_p0 (ir_c rfl) (ir_c rfl)) rfl [] rfl rfl (Nat.le_of_ble_eq_true rfl) rfl (k_ip fun X1 r2 h3 => ?_)
  refine GO.if_eq (tgt := 22) dX11_decidesFrom_8 (by decide) r2 (fun c4 => ?_) (fun c4 => ?_)
  ·
    have q5 := h3.2.2 (by omega)
    refine GO.null dX11_decidesFrom_22 ?_
    refine GO.astore_nN (ls1 := [some (.ref x), some (ti p0), some (.null)]) dX11_decidesFrom_23 rfl rfl rfl ?_
    refine GO.aload_nN dX11_decidesFrom_24 rfl rfl ?_
    refine GO.ifnonnullN dX11_decidesFrom_25 ?_
    refine GO.iconst dX11_decidesFrom_28 ?_
    refine GO.goto (tgt := 36) dX11_decidesFrom_29 (by decide) ?_
    exact GO.reti rfl rfl dX11_decidesFrom_36 ⟨rfl, rfl, _, rfl, (ir_c rfl), trivial⟩
  ·
    have q6 := h3.2.1 (by omega)
    refine GO.aload_n dX11_decidesFrom_11 rfl rfl ?_
    refine GO.iload_n dX11_decidesFrom_12 rfl rfl ?_
    refine GO.bipush dX11_decidesFrom_13 rfl ?_
    refine GO.isub dX11_decidesFrom_15 ?_
    have q7 : -2147483648 ≤ p0 ∧ p0 ≤ 2147483647 := r_p0
    refine GO.callV (ci := 10) (N := mX11_partyOf) dX11_decidesFrom_16 (RX11, TX11, 20) rfl gV_RX11_151 h_x (t_X11_partyOf h_x ⟨by omega, by omega⟩) rfl [] rfl rfl (Nat.le_of_ble_eq_true rfl) rfl (k_rp (fun h10 => ?_) (fun o8 h9 h10 => ?_))
    ·
      refine GO.goto (tgt := 23) dX11_decidesFrom_19 (by decide) ?_
      refine GO.astore_nN (ls1 := [some (.ref x), some (ti p0), some (.null)]) dX11_decidesFrom_23 rfl rfl rfl ?_
      refine GO.aload_nN dX11_decidesFrom_24 rfl rfl ?_
      refine GO.ifnonnullN dX11_decidesFrom_25 ?_
      refine GO.iconst dX11_decidesFrom_28 ?_
      refine GO.goto (tgt := 36) dX11_decidesFrom_29 (by decide) ?_
      exact GO.reti rfl rfl dX11_decidesFrom_36 ⟨rfl, rfl, _, rfl, (ir_c rfl), trivial⟩
    ·
      refine GO.goto (tgt := 23) dX11_decidesFrom_19 (by decide) ?_
      refine GO.astore_n (ls1 := [some (.ref x), some (ti p0), some (.ref o8)]) dX11_decidesFrom_23 rfl rfl rfl ?_
      refine GO.aload_n dX11_decidesFrom_24 rfl rfl ?_
      refine GO.ifnonnull (tgt := 32) dX11_decidesFrom_25 (by decide) ?_
      refine GO.aload_n dX11_decidesFrom_32 rfl rfl ?_
      refine GO.getI h9 fl_RX11_341 rfl rfl dX11_decidesFrom_33 (fun _ _ => ?_)
      have q11 : -2147483648 ≤ vi V o8 0 ∧ vi V o8 0 ≤ 2147483647 := vi_ir
      exact GO.reti rfl rfl dX11_decidesFrom_36 ⟨rfl, rfl, _, rfl, vi_ir, trivial⟩

set_option maxHeartbeats 1000000 in
theorem t_X11_sledgesOnWay {K : Kmap} {V : Vmap} {x : Nat} (h_x : K x = some (0, 10)) : MC mX11_sledgesOnWay K V [.ref x] (IP K V (fun X => True)) := by
  refine MC.start 2 (by decide +kernel) rfl rfl rfl (ls0 := [some (.ref x), none, none]) rfl ?_
  refine GO.iconst dX11_sledgesOnWay_0 ?_
  refine GO.istore_n (ls1 := [some (.ref x), some (ti 0), none]) dX11_sledgesOnWay_1 rfl rfl rfl ?_
  refine GO.iconst dX11_sledgesOnWay_2 ?_
  refine GO.istore_n (ls1 := [some (.ref x), some (ti 0), some (ti 0)]) dX11_sledgesOnWay_3 rfl rfl rfl ?_
  refine GO.loop2 (fun i1 i2 W => (-2147483648) ≤ i1 ∧ i1 ≤ 2147483647 ∧ 0 ≤ i2 ∧ i2 ≤ 2147483647 ∧ V = W) (fun i1 i2 => [some (.ref x), some (ti i1), some (ti i2)]) (fun i1 i2 W => (2147483647 - i2).toNat) 0 0 ⟨by omega, by omega, by omega, by omega, rfl⟩ rfl (fun i1 i2 V493 hp495 ih494 => ?_)
  obtain ⟨l_i1, u_i1, l_i2, u_i2, rfl⟩ := hp495
  have r_i1 : ir i1 := ⟨by omega, by omega⟩
  have r_i2 : ir i2 := ⟨by omega, by omega⟩
  show GO mX11_sledgesOnWay K V (IP K V (fun X => True)) K V 0 0 4 [some (.ref x), some (ti i1), some (ti i2)] []
  refine GO.iload_n dX11_sledgesOnWay_4 rfl rfl ?_
  refine GO.aload_n dX11_sledgesOnWay_5 rfl rfl ?_
  refine GO.getR h_x fl_RX11_72 rfl rfl dX11_sledgesOnWay_6 (fun hv497 h496 => ?_)
  refine GO.getI h496 fl_RX11_199 rfl rfl dX11_sledgesOnWay_9 (fun _ _ => ?_)
  refine GO.icmp_ge (tgt := 33) dX11_sledgesOnWay_12 (by decide) r_i2 vi_ir (fun c498 => ?_) (fun c498 => ?_)
  ·
    refine GO.iload_n dX11_sledgesOnWay_33 rfl rfl ?_
    exact GO.reti rfl rfl dX11_sledgesOnWay_34 ⟨rfl, rfl, _, rfl, r_i1, trivial⟩
  ·
    refine GO.iload_n dX11_sledgesOnWay_15 rfl rfl ?_
    refine GO.aload_n dX11_sledgesOnWay_16 rfl rfl ?_
    refine GO.getRaw h_x fl_RX11_72 hv497 dX11_sledgesOnWay_17 ?_
    refine GO.iload_n dX11_sledgesOnWay_20 rfl rfl ?_
    refine GO.iconst dX11_sledgesOnWay_21 ?_
    refine GO.callV (ci := 7) (N := mX8_get) dX11_sledgesOnWay_22 (RX8, TX8, 4) rfl gV_RX11_209 h496 (t_X8_get h496 r_i2 (ir_c rfl)) rfl [ti i1] rfl rfl (Nat.le_of_ble_eq_true rfl) rfl (k_ip fun X501 r502 h503 => ?_)
    refine GO.iadd dX11_sledgesOnWay_25 ?_
    refine GO.norm (fun z504 r505 _ => ?_)
    refine GO.istore_n (ls1 := [some (.ref x), some (ti z504), some (ti i2)]) dX11_sledgesOnWay_26 rfl rfl rfl ?_
    refine GO.iinc (X := i2) (n := 1) (Y := i2 + 1) (ls1 := [some (.ref x), some (ti z504), some (ti (i2 + 1))]) dX11_sledgesOnWay_27 rfl rfl rfl rfl ?_
    refine GO.goto (tgt := 4) dX11_sledgesOnWay_30 (by decide) ?_
    have q506 : -2147483648 ≤ vi V (vq V x 11) 3 ∧ vi V (vq V x 11) 3 ≤ 2147483647 := vi_ir
    have q507 : -2147483648 ≤ z504 ∧ z504 ≤ 2147483647 := r505
    exact ih494 z504 (i2 + 1) V ⟨by omega, by omega, by omega, by omega, rfl⟩ (by show (2147483647 - (i2 + 1)).toNat < (2147483647 - i2).toNat; omega)

set_option maxHeartbeats 1000000 in
theorem t_X11_count {K : Kmap} {V : Vmap} {x : Nat} {p0 : Int} (h_x : K x = some (0, 10)) (r_p0 : ir p0) : MC mX11_count K V [.ref x, ti p0] (IP K V (fun X => True)) := by
  refine MC.start 0 (by decide +kernel) rfl rfl rfl (ls0 := [some (.ref x), some (ti p0)]) rfl ?_
  refine GO.iload_n dX11_count_0 rfl rfl ?_
  have q1 : -2147483648 ≤ p0 ∧ p0 ≤ 2147483647 := r_p0
  rcases (show (p0 < 0 ∨ 16 < p0) ∨ p0 = 0 ∨ p0 = 1 ∨ p0 = 2 ∨ p0 = 3 ∨ p0 = 4 ∨ p0 = 5 ∨ p0 = 6 ∨ p0 = 7 ∨ p0 = 8 ∨ p0 = 9 ∨ p0 = 10 ∨ p0 = 11 ∨ p0 = 12 ∨ p0 = 13 ∨ p0 = 14 ∨ p0 = 15 ∨ p0 = 16 by omega) with c2 | c2 | c2 | c2 | c2 | c2 | c2 | c2 | c2 | c2 | c2 | c2 | c2 | c2 | c2 | c2 | c2 | c2
  ·
    refine GO.tableOut (tgt := 211) dX11_count_1 r_p0 c2 (by decide) ?_
    refine GO.aload_n dX11_count_211 rfl rfl ?_
    refine GO.iload_n dX11_count_212 rfl rfl ?_
    refine GO.callV (ci := 10) (N := mX11_decidesFrom) dX11_count_213 (RX11, TX11, 20) rfl gV_RX11_647 h_x (t_X11_decidesFrom h_x r_p0) rfl [] rfl rfl (Nat.le_of_ble_eq_true rfl) rfl (k_ip fun X3 r4 h5 => ?_)
    have q6 : -2147483648 ≤ X3 ∧ X3 ≤ 2147483647 := r4
    exact GO.reti rfl rfl dX11_count_216 ⟨rfl, rfl, _, rfl, r4, trivial⟩
  ·
    refine GO.tableAt (n := 0) (tgt := 84) dX11_count_1 (ir_c rfl) c2 (by decide) (by decide) rfl (by decide) ?_
    refine GO.aload_n dX11_count_84 rfl rfl ?_
    refine GO.getR h_x fl_RX11_12 rfl rfl dX11_count_85 (fun hv8 h7 => ?_)
    refine GO.getI h7 fl_RX11_145 rfl rfl dX11_count_88 (fun _ _ => ?_)
    have q9 : -2147483648 ≤ vi V (vq V x 0) 0 ∧ vi V (vq V x 0) 0 ≤ 2147483647 := vi_ir
    exact GO.reti rfl rfl dX11_count_91 ⟨rfl, rfl, _, rfl, vi_ir, trivial⟩
  ·
    refine GO.tableAt (n := 1) (tgt := 92) dX11_count_1 (ir_c rfl) c2 (by decide) (by decide) rfl (by decide) ?_
    refine GO.aload_n dX11_count_92 rfl rfl ?_
    refine GO.getR h_x fl_RX11_12 rfl rfl dX11_count_93 (fun hv11 h10 => ?_)
    refine GO.getI h10 fl_RX11_639 rfl rfl dX11_count_96 (fun _ _ => ?_)
    have q12 : -2147483648 ≤ vi V (vq V x 0) 3 ∧ vi V (vq V x 0) 3 ≤ 2147483647 := vi_ir
    exact GO.reti rfl rfl dX11_count_99 ⟨rfl, rfl, _, rfl, vi_ir, trivial⟩
  ·
    refine GO.tableAt (n := 2) (tgt := 100) dX11_count_1 (ir_c rfl) c2 (by decide) (by decide) rfl (by decide) ?_
    refine GO.aload_n dX11_count_100 rfl rfl ?_
    refine GO.getR h_x fl_RX11_12 rfl rfl dX11_count_101 (fun hv14 h13 => ?_)
    refine GO.getI h13 fl_RX11_642 rfl rfl dX11_count_104 (fun _ _ => ?_)
    have q15 : -2147483648 ≤ vi V (vq V x 0) 4 ∧ vi V (vq V x 0) 4 ≤ 2147483647 := vi_ir
    exact GO.reti rfl rfl dX11_count_107 ⟨rfl, rfl, _, rfl, vi_ir, trivial⟩
  ·
    refine GO.tableAt (n := 3) (tgt := 108) dX11_count_1 (ir_c rfl) c2 (by decide) (by decide) rfl (by decide) ?_
    refine GO.aload_n dX11_count_108 rfl rfl ?_
    refine GO.getI h_x fl_RX11_36 rfl rfl dX11_count_109 (fun l16 u17 => ?_)
    exact GO.reti rfl rfl dX11_count_112 ⟨rfl, rfl, _, rfl, vi_ir, trivial⟩
  ·
    refine GO.tableAt (n := 4) (tgt := 113) dX11_count_1 (ir_c rfl) c2 (by decide) (by decide) rfl (by decide) ?_
    refine GO.aload_n dX11_count_113 rfl rfl ?_
    refine GO.getI h_x fl_RX11_46 rfl rfl dX11_count_114 (fun l18 u19 => ?_)
    exact GO.reti rfl rfl dX11_count_117 ⟨rfl, rfl, _, rfl, vi_ir, trivial⟩
  ·
    refine GO.tableAt (n := 5) (tgt := 118) dX11_count_1 (ir_c rfl) c2 (by decide) (by decide) rfl (by decide) ?_
    refine GO.aload_n dX11_count_118 rfl rfl ?_
    refine GO.getR h_x fl_RX11_19 rfl rfl dX11_count_119 (fun hv21 h20 => ?_)
    refine GO.getI h20 fl_RX11_216 rfl rfl dX11_count_122 (fun l22 u23 => ?_)
    exact GO.reti rfl rfl dX11_count_125 ⟨rfl, rfl, _, rfl, vi_ir, trivial⟩
  ·
    refine GO.tableAt (n := 6) (tgt := 126) dX11_count_1 (ir_c rfl) c2 (by decide) (by decide) rfl (by decide) ?_
    refine GO.aload_n dX11_count_126 rfl rfl ?_
    refine GO.getR h_x fl_RX11_19 rfl rfl dX11_count_127 (fun hv25 h24 => ?_)
    refine GO.getR h24 fl_RX11_262 rfl rfl dX11_count_130 (fun hv27 h26 => ?_)
    refine GO.getI h26 fl_RX11_199 rfl rfl dX11_count_133 (fun _ _ => ?_)
    have q28 : -2147483648 ≤ vi V (vq V (vq V x 1) 2) 3 ∧ vi V (vq V (vq V x 1) 2) 3 ≤ 2147483647 := vi_ir
    exact GO.reti rfl rfl dX11_count_136 ⟨rfl, rfl, _, rfl, vi_ir, trivial⟩
  ·
    refine GO.tableAt (n := 7) (tgt := 137) dX11_count_1 (ir_c rfl) c2 (by decide) (by decide) rfl (by decide) ?_
    refine GO.aload_n dX11_count_137 rfl rfl ?_
    refine GO.getI h_x fl_RX11_55 rfl rfl dX11_count_138 (fun l29 u30 => ?_)
    exact GO.reti rfl rfl dX11_count_141 ⟨rfl, rfl, _, rfl, vi_ir, trivial⟩
  ·
    refine GO.tableAt (n := 8) (tgt := 142) dX11_count_1 (ir_c rfl) c2 (by decide) (by decide) rfl (by decide) ?_
    refine GO.aload_n dX11_count_142 rfl rfl ?_
    refine GO.getI h_x fl_RX11_64 rfl rfl dX11_count_143 (fun l31 u32 => ?_)
    exact GO.reti rfl rfl dX11_count_146 ⟨rfl, rfl, _, rfl, vi_ir, trivial⟩
  ·
    refine GO.tableAt (n := 9) (tgt := 147) dX11_count_1 (ir_c rfl) c2 (by decide) (by decide) rfl (by decide) ?_
    refine GO.aload_n dX11_count_147 rfl rfl ?_
    refine GO.callV (ci := 10) (N := mX11_sledgesOnWay) dX11_count_148 (RX11, TX11, 20) rfl gV_RX11_644 h_x (t_X11_sledgesOnWay h_x) rfl [] rfl rfl (Nat.le_of_ble_eq_true rfl) rfl (k_ip fun X33 r34 h35 => ?_)
    have q36 : -2147483648 ≤ X33 ∧ X33 ≤ 2147483647 := r34
    exact GO.reti rfl rfl dX11_count_151 ⟨rfl, rfl, _, rfl, r34, trivial⟩
  ·
    refine GO.tableAt (n := 10) (tgt := 152) dX11_count_1 (ir_c rfl) c2 (by decide) (by decide) rfl (by decide) ?_
    refine GO.aload_n dX11_count_152 rfl rfl ?_
    refine GO.getR h_x fl_RX11_76 rfl rfl dX11_count_153 (fun hv38 h37 => ?_)
    refine GO.getI h37 fl_RX11_199 rfl rfl dX11_count_156 (fun _ _ => ?_)
    have q39 : -2147483648 ≤ vi V (vq V x 12) 3 ∧ vi V (vq V x 12) 3 ≤ 2147483647 := vi_ir
    exact GO.reti rfl rfl dX11_count_159 ⟨rfl, rfl, _, rfl, vi_ir, trivial⟩
  ·
    refine GO.tableAt (n := 11) (tgt := 160) dX11_count_1 (ir_c rfl) c2 (by decide) (by decide) rfl (by decide) ?_
    refine GO.aload_n dX11_count_160 rfl rfl ?_
    refine GO.getR h_x fl_RX11_79 rfl rfl dX11_count_161 (fun hv41 h40 => ?_)
    refine GO.getI h40 fl_RX11_199 rfl rfl dX11_count_164 (fun _ _ => ?_)
    have q42 : -2147483648 ≤ vi V (vq V x 13) 3 ∧ vi V (vq V x 13) 3 ≤ 2147483647 := vi_ir
    exact GO.reti rfl rfl dX11_count_167 ⟨rfl, rfl, _, rfl, vi_ir, trivial⟩
  ·
    refine GO.tableAt (n := 12) (tgt := 168) dX11_count_1 (ir_c rfl) c2 (by decide) (by decide) rfl (by decide) ?_
    refine GO.aload_n dX11_count_168 rfl rfl ?_
    refine GO.getR h_x fl_RX11_82 rfl rfl dX11_count_169 (fun hv44 h43 => ?_)
    refine GO.getI h43 fl_RX11_199 rfl rfl dX11_count_172 (fun _ _ => ?_)
    have q45 : -2147483648 ≤ vi V (vq V x 14) 3 ∧ vi V (vq V x 14) 3 ≤ 2147483647 := vi_ir
    exact GO.reti rfl rfl dX11_count_175 ⟨rfl, rfl, _, rfl, vi_ir, trivial⟩
  ·
    refine GO.tableAt (n := 13) (tgt := 176) dX11_count_1 (ir_c rfl) c2 (by decide) (by decide) rfl (by decide) ?_
    refine GO.aload_n dX11_count_176 rfl rfl ?_
    refine GO.getR h_x fl_RX11_88 rfl rfl dX11_count_177 (fun hv47 h46 => ?_)
    refine GO.getI h46 fl_RX11_199 rfl rfl dX11_count_180 (fun _ _ => ?_)
    have q48 : -2147483648 ≤ vi V (vq V x 16) 3 ∧ vi V (vq V x 16) 3 ≤ 2147483647 := vi_ir
    exact GO.reti rfl rfl dX11_count_183 ⟨rfl, rfl, _, rfl, vi_ir, trivial⟩
  ·
    refine GO.tableAt (n := 14) (tgt := 184) dX11_count_1 (ir_c rfl) c2 (by decide) (by decide) rfl (by decide) ?_
    refine GO.aload_n dX11_count_184 rfl rfl ?_
    refine GO.getR h_x fl_RX11_26 rfl rfl dX11_count_185 (fun hv50 h49 => ?_)
    refine GO.getR h49 fl_RX11_593 rfl rfl dX11_count_188 (fun hv52 h51 => ?_)
    refine GO.getI h51 fl_RX11_199_k24 rfl rfl dX11_count_191 (fun l53 u54 => ?_)
    exact GO.reti rfl rfl dX11_count_194 ⟨rfl, rfl, _, rfl, vi_ir, trivial⟩
  ·
    refine GO.tableAt (n := 15) (tgt := 195) dX11_count_1 (ir_c rfl) c2 (by decide) (by decide) rfl (by decide) ?_
    refine GO.aload_n dX11_count_195 rfl rfl ?_
    refine GO.getR h_x fl_RX11_85 rfl rfl dX11_count_196 (fun hv56 h55 => ?_)
    refine GO.getI h55 fl_RX11_199 rfl rfl dX11_count_199 (fun _ _ => ?_)
    have q57 : -2147483648 ≤ vi V (vq V x 15) 3 ∧ vi V (vq V x 15) 3 ≤ 2147483647 := vi_ir
    exact GO.reti rfl rfl dX11_count_202 ⟨rfl, rfl, _, rfl, vi_ir, trivial⟩
  ·
    refine GO.tableAt (n := 16) (tgt := 203) dX11_count_1 (ir_c rfl) c2 (by decide) (by decide) rfl (by decide) ?_
    refine GO.aload_n dX11_count_203 rfl rfl ?_
    refine GO.getR h_x fl_RX11_91 rfl rfl dX11_count_204 (fun hv59 h58 => ?_)
    refine GO.getI h58 fl_RX11_199 rfl rfl dX11_count_207 (fun _ _ => ?_)
    have q60 : -2147483648 ≤ vi V (vq V x 17) 3 ∧ vi V (vq V x 17) 3 ≤ 2147483647 := vi_ir
    exact GO.reti rfl rfl dX11_count_210 ⟨rfl, rfl, _, rfl, vi_ir, trivial⟩

set_option maxHeartbeats 1000000 in
theorem t_X12_in {K : Kmap} {V : Vmap} {p0 : Int} {p1 : Int} {p2 : Int} (r_p0 : ir p0) (r_p1 : ir p1) (r_p2 : ir p2) : MC mX12_in K V [ti p0, ti p1, ti p2] (IP K V (fun X => (X = 0 ∨ X = 1) ∧ (X ≠ 0 → p0 ≥ p1 ∧ p0 ≤ p2) ∧ (X = 0 → (p0 < p1 ∨ p0 > p2)))) := by
  refine MC.start 0 (by decide +kernel) rfl rfl rfl (ls0 := [some (ti p0), some (ti p1), some (ti p2)]) rfl ?_
  refine GO.iload_n dX12_in_0 rfl rfl ?_
  refine GO.iload_n dX12_in_1 rfl rfl ?_
  refine GO.icmp_lt (tgt := 14) dX12_in_2 (by decide) r_p0 r_p1 (fun c1 => ?_) (fun c1 => ?_)
  ·
    refine GO.iconst dX12_in_14 ?_
    exact GO.retz rfl rfl dX12_in_15 (Or.inl rfl) ⟨rfl, rfl, _, rfl, (ir_c rfl), ⟨Or.inl rfl, fun h => absurd rfl h, fun h => by omega⟩⟩
  ·
    refine GO.iload_n dX12_in_5 rfl rfl ?_
    refine GO.iload_n dX12_in_6 rfl rfl ?_
    refine GO.icmp_gt (tgt := 14) dX12_in_7 (by decide) r_p0 r_p2 (fun c2 => ?_) (fun c2 => ?_)
    ·
      refine GO.iconst dX12_in_14 ?_
      exact GO.retz rfl rfl dX12_in_15 (Or.inl rfl) ⟨rfl, rfl, _, rfl, (ir_c rfl), ⟨Or.inl rfl, fun h => absurd rfl h, fun h => by omega⟩⟩
    ·
      refine GO.iconst dX12_in_10 ?_
      refine GO.goto (tgt := 15) dX12_in_11 (by decide) ?_
      exact GO.retz rfl rfl dX12_in_15 (Or.inr rfl) ⟨rfl, rfl, _, rfl, (ir_c rfl), ⟨Or.inr rfl, fun h => by omega, fun h => absurd h (by decide)⟩⟩

set_option maxHeartbeats 1000000 in
theorem t_X12_size {K : Kmap} {V : Vmap} {p0 : Int} (r_p0 : ir p0) (q_0 : p0 ≥ (-3600)) (q_1 : p0 ≤ 3600) : MC mX12_size K V [ti p0] (IP K V (fun X => 0 ≤ X ∧ X ≤ 3600)) := by
  refine MC.start 0 (by decide +kernel) rfl rfl rfl (ls0 := [some (ti p0)]) rfl ?_
  refine GO.iload_n dX12_size_0 rfl rfl ?_
  refine GO.if_ge (tgt := 9) dX12_size_1 (by decide) r_p0 (fun c1 => ?_) (fun c1 => ?_)
  ·
    refine GO.iload_n dX12_size_9 rfl rfl ?_
    have q2 : -2147483648 ≤ p0 ∧ p0 ≤ 2147483647 := r_p0
    exact GO.reti rfl rfl dX12_size_10 ⟨rfl, rfl, _, rfl, r_p0, ⟨by omega, by omega⟩⟩
  ·
    refine GO.iload_n dX12_size_4 rfl rfl ?_
    refine GO.ineg dX12_size_5 ?_
    refine GO.goto (tgt := 10) dX12_size_6 (by decide) ?_
    have q3 : -2147483648 ≤ p0 ∧ p0 ≤ 2147483647 := r_p0
    exact GO.reti rfl rfl dX12_size_10 ⟨rfl, rfl, _, rfl, ⟨by omega, by omega⟩, ⟨by omega, by omega⟩⟩

set_option maxHeartbeats 1000000 in
theorem t_X12_begins {K : Kmap} {V : Vmap} {x : Nat} {p0 : Int} {p1 : Int} (h_x : K x = some (0, 11)) (r_p0 : ir p0) (r_p1 : ir p1) (q_0 : p0 ≥ 4) (q_1 : p0 ≤ 12) (q_2 : p1 ≥ 4) (q_3 : p1 ≤ 12) : MC mX12_begins K V [.ref x, ti p0, ti p1] (VS K (fun V1 => (True))) := by
  refine MC.start 1 (by decide +kernel) rfl rfl rfl (ls0 := [some (.ref x), some (ti p0), some (ti p1), none]) rfl ?_
  refine GO.aload_n dX12_begins_0 rfl rfl ?_
  refine GO.iload_n dX12_begins_1 rfl rfl ?_
  have q2 : -2147483648 ≤ p0 ∧ p0 ≤ 2147483647 := r_p0
  refine GO.putI h_x fp_RX12_365 rfl (by decide +kernel) r_p0 (by omega) (by omega) dX12_begins_2 (fun V3 e1 => ?_)
  refine GO.aload_n dX12_begins_5 rfl rfl ?_
  refine GO.iload_n dX12_begins_6 rfl rfl ?_
  have q5 : -2147483648 ≤ p1 ∧ p1 ≤ 2147483647 := r_p1
  refine GO.putI h_x fp_RX12_368 rfl (by decide +kernel) r_p1 (by omega) (by omega) dX12_begins_7 (fun V6 e4 => ?_)
  refine GO.iconst dX12_begins_10 ?_
  refine GO.istore_n (ls1 := [some (.ref x), some (ti p0), some (ti p1), some (ti 0)]) dX12_begins_11 rfl rfl rfl ?_
  refine GO.loop1 (fun i7 W => 0 ≤ i7 ∧ i7 ≤ 144 ∧ True) (fun i7 => [some (.ref x), some (ti p0), some (ti p1), some (ti i7)]) (fun i7 W => (2147483647 - i7).toNat) 0 ⟨by omega, by omega, trivial⟩ rfl (fun i7 Wi7 hp162 ih161 => ?_)
  obtain ⟨l_i7, u_i7, -⟩ := hp162
  have r_i7 : ir i7 := ⟨by omega, by omega⟩
  show GO mX12_begins K V (VS K (fun V1 => (True))) K Wi7 0 0 12 [some (.ref x), some (ti p0), some (ti p1), some (ti i7)] []
  refine GO.iload_n dX12_begins_12 rfl rfl ?_
  refine GO.sipush dX12_begins_13 rfl ?_
  refine GO.icmp_ge (tgt := 53) dX12_begins_16 (by decide) r_i7 (ir_c rfl) (fun c163 => ?_) (fun c163 => ?_)
  ·
    exact GO.retv rfl rfl dX12_begins_53 ⟨rfl, rfl, trivial⟩
  ·
    refine GO.aload_n dX12_begins_19 rfl rfl ?_
    refine GO.getA (n := 144) h_x fl_RX12_16 rfl rfl rfl rfl dX12_begins_20 (fun hv165 h164 => ?_)
    refine GO.iload_n dX12_begins_23 rfl rfl ?_
    refine GO.iconst dX12_begins_24 ?_
    refine GO.iast (t := 9) rfl rfl (by decide +kernel) h164 r_i7 (by omega) (by omega) (ir_c rfl) (by decide) (by decide) dX12_begins_25 (fun V167 e166 => ?_)
    refine GO.aload_n dX12_begins_26 rfl rfl ?_
    refine GO.getA (n := 144) h_x fl_RX12_20 rfl rfl rfl rfl dX12_begins_27 (fun hv169 h168 => ?_)
    refine GO.iload_n dX12_begins_30 rfl rfl ?_
    refine GO.iconst dX12_begins_31 ?_
    refine GO.iast (t := 10) rfl rfl (by decide +kernel) h168 r_i7 (by omega) (by omega) (ir_c rfl) (by decide) (by decide) dX12_begins_32 (fun V171 e170 => ?_)
    refine GO.aload_n dX12_begins_33 rfl rfl ?_
    refine GO.getA (n := 144) h_x fl_RX12_23 rfl rfl rfl rfl dX12_begins_34 (fun hv173 h172 => ?_)
    refine GO.iload_n dX12_begins_37 rfl rfl ?_
    refine GO.iconst dX12_begins_38 ?_
    refine GO.iast (t := 11) rfl rfl (by decide +kernel) h172 r_i7 (by omega) (by omega) (ir_c rfl) (by decide) (by decide) dX12_begins_39 (fun V175 e174 => ?_)
    refine GO.aload_n dX12_begins_40 rfl rfl ?_
    refine GO.getA (n := 144) h_x fl_RX12_26 rfl rfl rfl rfl dX12_begins_41 (fun hv177 h176 => ?_)
    refine GO.iload_n dX12_begins_44 rfl rfl ?_
    refine GO.iconst dX12_begins_45 ?_
    refine GO.iast (t := 12) rfl rfl (by decide +kernel) h176 r_i7 (by omega) (by omega) (ir_c rfl) (by decide) (by decide) dX12_begins_46 (fun V179 e178 => ?_)
    refine GO.iinc (X := i7) (n := 1) (Y := i7 + 1) (ls1 := [some (.ref x), some (ti p0), some (ti p1), some (ti (i7 + 1))]) dX12_begins_47 rfl rfl rfl rfl ?_
    refine GO.goto (tgt := 12) dX12_begins_50 (by decide) ?_
    exact ih161 (i7 + 1) V179 ⟨by omega, by omega, trivial⟩ (by show (2147483647 - (i7 + 1)).toNat < (2147483647 - i7).toNat; omega)

set_option maxHeartbeats 1000000 in
theorem t_X12_isCell {K : Kmap} {V : Vmap} {x : Nat} {p0 : Int} (h_x : K x = some (0, 11)) (r_p0 : ir p0) : MC mX12_isCell K V [.ref x, ti p0] (IP K V (fun X => (X = 0 ∨ X = 1) ∧ (X ≠ 0 → p0 ≥ 0 ∧ p0 ≤ 143) ∧ (X = 0 → True))) := by
  refine MC.start 0 (by decide +kernel) rfl rfl rfl (ls0 := [some (.ref x), some (ti p0)]) rfl ?_
  refine GO.iload_n dX12_isCell_0 rfl rfl ?_
  refine GO.if_lt (tgt := 21) dX12_isCell_1 (by decide) r_p0 (fun c1 => ?_) (fun c1 => ?_)
  ·
    refine GO.iconst dX12_isCell_21 ?_
    exact GO.retz rfl rfl dX12_isCell_22 (Or.inl rfl) ⟨rfl, rfl, _, rfl, (ir_c rfl), ⟨Or.inl rfl, fun h => absurd rfl h, fun _ => trivial⟩⟩
  ·
    refine GO.iload_n dX12_isCell_4 rfl rfl ?_
    refine GO.aload_n dX12_isCell_5 rfl rfl ?_
    refine GO.getI h_x fl_RX12_365 rfl rfl dX12_isCell_6 (fun l2 u3 => ?_)
    refine GO.aload_n dX12_isCell_9 rfl rfl ?_
    refine GO.getI h_x fl_RX12_368 rfl rfl dX12_isCell_10 (fun l4 u5 => ?_)
    refine GO.imul dX12_isCell_13 ?_
    have m6 := mul_rng (a := vi V x 0) (b := vi V x 1) (A := 12) (B := 12) (by omega) (by omega) (by omega) (by omega)
    have m7 := mul_low (a := vi V x 0) (b := vi V x 1) (m := 4) (n := 4) (by omega) (by omega) (by omega) (by omega)
    refine GO.icmp_ge (tgt := 21) dX12_isCell_14 (by decide) r_p0 ⟨by omega, by omega⟩ (fun c8 => ?_) (fun c8 => ?_)
    ·
      refine GO.iconst dX12_isCell_21 ?_
      exact GO.retz rfl rfl dX12_isCell_22 (Or.inl rfl) ⟨rfl, rfl, _, rfl, (ir_c rfl), ⟨Or.inl rfl, fun h => absurd rfl h, fun _ => trivial⟩⟩
    ·
      refine GO.iconst dX12_isCell_17 ?_
      refine GO.goto (tgt := 22) dX12_isCell_18 (by decide) ?_
      exact GO.retz rfl rfl dX12_isCell_22 (Or.inr rfl) ⟨rfl, rfl, _, rfl, (ir_c rfl), ⟨Or.inr rfl, fun h => by omega, fun _ => trivial⟩⟩

set_option maxHeartbeats 1000000 in
theorem t_X12_isDay {K : Kmap} {V : Vmap} {p0 : Int} (r_p0 : ir p0) : MC mX12_isDay K V [ti p0] (IP K V (fun X => (X = 0 ∨ X = 1) ∧ (X ≠ 0 → p0 ≥ 0 ∧ p0 ≤ 3599) ∧ (X = 0 → True))) := by
  refine MC.start 0 (by decide +kernel) rfl rfl rfl (ls0 := [some (ti p0)]) rfl ?_
  refine GO.iload_n dX12_isDay_0 rfl rfl ?_
  refine GO.if_lt (tgt := 15) dX12_isDay_1 (by decide) r_p0 (fun c1 => ?_) (fun c1 => ?_)
  ·
    refine GO.iconst dX12_isDay_15 ?_
    exact GO.retz rfl rfl dX12_isDay_16 (Or.inl rfl) ⟨rfl, rfl, _, rfl, (ir_c rfl), ⟨Or.inl rfl, fun h => absurd rfl h, fun _ => trivial⟩⟩
  ·
    refine GO.iload_n dX12_isDay_4 rfl rfl ?_
    refine GO.sipush dX12_isDay_5 rfl ?_
    refine GO.icmp_gt (tgt := 15) dX12_isDay_8 (by decide) r_p0 (ir_c rfl) (fun c2 => ?_) (fun c2 => ?_)
    ·
      refine GO.iconst dX12_isDay_15 ?_
      exact GO.retz rfl rfl dX12_isDay_16 (Or.inl rfl) ⟨rfl, rfl, _, rfl, (ir_c rfl), ⟨Or.inl rfl, fun h => absurd rfl h, fun _ => trivial⟩⟩
    ·
      refine GO.iconst dX12_isDay_11 ?_
      refine GO.goto (tgt := 16) dX12_isDay_12 (by decide) ?_
      exact GO.retz rfl rfl dX12_isDay_16 (Or.inr rfl) ⟨rfl, rfl, _, rfl, (ir_c rfl), ⟨Or.inr rfl, fun h => by omega, fun _ => trivial⟩⟩

set_option maxHeartbeats 1000000 in
theorem t_X12_ice {K : Kmap} {V : Vmap} {x : Nat} {p0 : Int} {p1 : Int} (h_x : K x = some (0, 11)) (r_p0 : ir p0) (r_p1 : ir p1) : MC mX12_ice K V [.ref x, ti p0, ti p1] (IS K (fun X V1 => (X = 0 ∨ X = 1) ∧ (X ≠ 0 → True) ∧ (X = 0 → True))) := by
  refine MC.start 0 (by decide +kernel) rfl rfl rfl (ls0 := [some (.ref x), some (ti p0), some (ti p1)]) rfl ?_
  refine GO.iload_n dX12_ice_0 rfl rfl ?_
  refine GO.iconst dX12_ice_1 ?_
  refine GO.bipush dX12_ice_2 rfl ?_
  refine GO.callS (N := mX12_in) dX12_ice_4 gS_RX12_371 (t_X12_in r_p0 (ir_c rfl) (ir_c rfl)) rfl [] rfl rfl (Nat.le_of_ble_eq_true rfl) rfl (k_ip fun X1 r2 h3 => ?_)
  refine GO.if_eq (tgt := 34) dX12_ice_7 (by decide) r2 (fun c4 => ?_) (fun c4 => ?_)
  ·
    have q5 := h3.2.2 (by omega)
    refine GO.iconst dX12_ice_34 ?_
    exact GO.retz rfl rfl dX12_ice_35 (Or.inl rfl) ⟨rfl, _, rfl, (ir_c rfl), ⟨Or.inl rfl, fun _ => trivial, fun _ => trivial⟩⟩
  ·
    have q6 := h3.2.1 (by omega)
    refine GO.iload_n dX12_ice_10 rfl rfl ?_
    refine GO.iconst dX12_ice_11 ?_
    refine GO.bipush dX12_ice_12 rfl ?_
    refine GO.callS (N := mX12_in) dX12_ice_14 gS_RX12_371 (t_X12_in r_p1 (ir_c rfl) (ir_c rfl)) rfl [] rfl rfl (Nat.le_of_ble_eq_true rfl) rfl (k_ip fun X7 r8 h9 => ?_)
    refine GO.if_eq (tgt := 34) dX12_ice_17 (by decide) r8 (fun c10 => ?_) (fun c10 => ?_)
    ·
      have q11 := h9.2.2 (by omega)
      refine GO.iconst dX12_ice_34 ?_
      exact GO.retz rfl rfl dX12_ice_35 (Or.inl rfl) ⟨rfl, _, rfl, (ir_c rfl), ⟨Or.inl rfl, fun _ => trivial, fun _ => trivial⟩⟩
    ·
      have q12 := h9.2.1 (by omega)
      refine GO.aload_n dX12_ice_20 rfl rfl ?_
      refine GO.getI h_x fl_RX12_375 rfl rfl dX12_ice_21 (fun l13 u14 => ?_)
      refine GO.if_gt (tgt := 34) dX12_ice_24 (by decide) vi_ir (fun c15 => ?_) (fun c15 => ?_)
      ·
        refine GO.iconst dX12_ice_34 ?_
        exact GO.retz rfl rfl dX12_ice_35 (Or.inl rfl) ⟨rfl, _, rfl, (ir_c rfl), ⟨Or.inl rfl, fun _ => trivial, fun _ => trivial⟩⟩
      ·
        refine GO.aload_n dX12_ice_27 rfl rfl ?_
        refine GO.getI h_x fl_RX12_378 rfl rfl dX12_ice_28 (fun l16 u17 => ?_)
        refine GO.if_le (tgt := 36) dX12_ice_31 (by decide) vi_ir (fun c18 => ?_) (fun c18 => ?_)
        ·
          refine GO.aload_n dX12_ice_36 rfl rfl ?_
          refine GO.iload_n dX12_ice_37 rfl rfl ?_
          refine GO.iload_n dX12_ice_38 rfl rfl ?_
          have q19 : -2147483648 ≤ p0 ∧ p0 ≤ 2147483647 := r_p0
          have q20 : -2147483648 ≤ p1 ∧ p1 ≤ 2147483647 := r_p1
          refine GO.callV (ci := 11) (N := mX12_begins) dX12_ice_39 (RX12, TX12, 151) rfl gV_RX12_361 h_x (t_X12_begins h_x r_p0 r_p1 (by omega) (by omega) (by omega) (by omega)) rfl [] rfl rfl (Nat.le_of_ble_eq_true rfl) rfl (k_vs fun V23 h22 hF21 => ?_)
          refine GO.iconst dX12_ice_42 ?_
          exact GO.retz rfl rfl dX12_ice_43 (Or.inr rfl) ⟨rfl, _, rfl, (ir_c rfl), ⟨Or.inr rfl, fun _ => trivial, fun _ => trivial⟩⟩
        ·
          refine GO.iconst dX12_ice_34 ?_
          exact GO.retz rfl rfl dX12_ice_35 (Or.inl rfl) ⟨rfl, _, rfl, (ir_c rfl), ⟨Or.inl rfl, fun _ => trivial, fun _ => trivial⟩⟩

set_option maxHeartbeats 1000000 in
theorem t_X12_cell {K : Kmap} {V : Vmap} {x : Nat} {p0 : Int} {p1 : Int} {p2 : Int} {p3 : Int} {p4 : Int} (h_x : K x = some (0, 11)) (r_p0 : ir p0) (r_p1 : ir p1) (r_p2 : ir p2) (r_p3 : ir p3) (r_p4 : ir p4) : MC mX12_cell K V [.ref x, ti p0, ti p1, ti p2, ti p3, ti p4] (IS K (fun X V1 => (X = 0 ∨ X = 1) ∧ (X ≠ 0 → True) ∧ (X = 0 → True))) := by
  refine MC.start 0 (by decide +kernel) rfl rfl rfl (ls0 := [some (.ref x), some (ti p0), some (ti p1), some (ti p2), some (ti p3), some (ti p4)]) rfl ?_
  refine GO.aload_n dX12_cell_0 rfl rfl ?_
  refine GO.iload_n dX12_cell_1 rfl rfl ?_
  refine GO.callV (ci := 11) (N := mX12_isCell) dX12_cell_2 (RX12, TX12, 151) rfl gV_RX12_381 h_x (t_X12_isCell h_x r_p0) rfl [] rfl rfl (Nat.le_of_ble_eq_true rfl) rfl (k_ip fun X1 r2 h3 => ?_)
  refine GO.if_eq (tgt := 38) dX12_cell_5 (by decide) r2 (fun c4 => ?_) (fun c4 => ?_)
  ·
    refine GO.iconst dX12_cell_38 ?_
    exact GO.retz rfl rfl dX12_cell_39 (Or.inl rfl) ⟨rfl, _, rfl, (ir_c rfl), ⟨Or.inl rfl, fun _ => trivial, fun _ => trivial⟩⟩
  ·
    have q5 := h3.2.1 (by omega)
    refine GO.iload_n dX12_cell_8 rfl rfl ?_
    refine GO.iconst dX12_cell_9 ?_
    refine GO.bipush dX12_cell_10 rfl ?_
    refine GO.callS (N := mX12_in) dX12_cell_12 gS_RX12_371 (t_X12_in r_p1 (ir_c rfl) (ir_c rfl)) rfl [] rfl rfl (Nat.le_of_ble_eq_true rfl) rfl (k_ip fun X6 r7 h8 => ?_)
    refine GO.if_eq (tgt := 38) dX12_cell_15 (by decide) r7 (fun c9 => ?_) (fun c9 => ?_)
    ·
      have q10 := h8.2.2 (by omega)
      refine GO.iconst dX12_cell_38 ?_
      exact GO.retz rfl rfl dX12_cell_39 (Or.inl rfl) ⟨rfl, _, rfl, (ir_c rfl), ⟨Or.inl rfl, fun _ => trivial, fun _ => trivial⟩⟩
    ·
      have q11 := h8.2.1 (by omega)
      refine GO.iload_n dX12_cell_18 rfl rfl ?_
      refine GO.iconst dX12_cell_19 ?_
      refine GO.iconst dX12_cell_20 ?_
      refine GO.callS (N := mX12_in) dX12_cell_21 gS_RX12_371 (t_X12_in r_p2 (ir_c rfl) (ir_c rfl)) rfl [] rfl rfl (Nat.le_of_ble_eq_true rfl) rfl (k_ip fun X12 r13 h14 => ?_)
      refine GO.if_eq (tgt := 38) dX12_cell_24 (by decide) r13 (fun c15 => ?_) (fun c15 => ?_)
      ·
        have q16 := h14.2.2 (by omega)
        refine GO.iconst dX12_cell_38 ?_
        exact GO.retz rfl rfl dX12_cell_39 (Or.inl rfl) ⟨rfl, _, rfl, (ir_c rfl), ⟨Or.inl rfl, fun _ => trivial, fun _ => trivial⟩⟩
      ·
        have q17 := h14.2.1 (by omega)
        refine GO.iload dX12_cell_27 rfl ?_
        refine GO.iconst dX12_cell_29 ?_
        refine GO.bipush dX12_cell_30 rfl ?_
        refine GO.callS (N := mX12_in) dX12_cell_32 gS_RX12_371 (t_X12_in r_p3 (ir_c rfl) (ir_c rfl)) rfl [] rfl rfl (Nat.le_of_ble_eq_true rfl) rfl (k_ip fun X18 r19 h20 => ?_)
        refine GO.if_ne (tgt := 40) dX12_cell_35 (by decide) r19 (fun c21 => ?_) (fun c21 => ?_)
        ·
          have q22 := h20.2.1 (by omega)
          refine GO.iload dX12_cell_40 rfl ?_
          refine GO.iconst dX12_cell_42 ?_
          have hj31 : ∀ (l32 : 0 ≤ p4), ∀ (u33 : p4 ≤ 3600), GO mX12_cell K V (IS K (fun X V1 => (X = 0 ∨ X = 1) ∧ (X ≠ 0 → True) ∧ (X = 0 → True))) K V 0 0 69 [some (.ref x), some (ti p0), some (ti p1), some (ti p2), some (ti p3), some (ti p4)] [] := by
            intro l32 u33
            refine GO.aload_n dX12_cell_69 rfl rfl ?_
            refine GO.getA (n := 144) h_x fl_RX12_16 rfl rfl rfl rfl dX12_cell_70 (fun hv35 h34 => ?_)
            refine GO.iload_n dX12_cell_73 rfl rfl ?_
            refine GO.iload_n dX12_cell_74 rfl rfl ?_
            have q36 : -2147483648 ≤ p0 ∧ p0 ≤ 2147483647 := r_p0
            have q38 : -2147483648 ≤ p1 ∧ p1 ≤ 2147483647 := r_p1
            refine GO.iast (t := 9) rfl rfl (by decide +kernel) h34 r_p0 (by omega) (by omega) r_p1 (by omega) (by omega) dX12_cell_75 (fun V39 e37 => ?_)
            refine GO.aload_n dX12_cell_76 rfl rfl ?_
            refine GO.getA (n := 144) h_x fl_RX12_20 rfl rfl rfl rfl dX12_cell_77 (fun hv41 h40 => ?_)
            refine GO.iload_n dX12_cell_80 rfl rfl ?_
            refine GO.iload_n dX12_cell_81 rfl rfl ?_
            have q43 : -2147483648 ≤ p2 ∧ p2 ≤ 2147483647 := r_p2
            refine GO.iast (t := 10) rfl rfl (by decide +kernel) h40 r_p0 (by omega) (by omega) r_p2 (by omega) (by omega) dX12_cell_82 (fun V44 e42 => ?_)
            refine GO.aload_n dX12_cell_83 rfl rfl ?_
            refine GO.getA (n := 144) h_x fl_RX12_23 rfl rfl rfl rfl dX12_cell_84 (fun hv46 h45 => ?_)
            refine GO.iload_n dX12_cell_87 rfl rfl ?_
            refine GO.iload dX12_cell_88 rfl ?_
            have q48 : -2147483648 ≤ p3 ∧ p3 ≤ 2147483647 := r_p3
            refine GO.iast (t := 11) rfl rfl (by decide +kernel) h45 r_p0 (by omega) (by omega) r_p3 (by omega) (by omega) dX12_cell_90 (fun V49 e47 => ?_)
            refine GO.aload_n dX12_cell_91 rfl rfl ?_
            refine GO.getA (n := 144) h_x fl_RX12_26 rfl rfl rfl rfl dX12_cell_92 (fun hv51 h50 => ?_)
            refine GO.iload_n dX12_cell_95 rfl rfl ?_
            refine GO.iload dX12_cell_96 rfl ?_
            have q53 : -2147483648 ≤ p4 ∧ p4 ≤ 2147483647 := r_p4
            refine GO.iast (t := 12) rfl rfl (by decide +kernel) h50 r_p0 (by omega) (by omega) r_p4 (by omega) (by omega) dX12_cell_98 (fun V54 e52 => ?_)
            refine GO.iconst dX12_cell_99 ?_
            exact GO.retz rfl rfl dX12_cell_100 (Or.inr rfl) ⟨rfl, _, rfl, (ir_c rfl), ⟨Or.inr rfl, fun _ => trivial, fun _ => trivial⟩⟩
          refine GO.icmp_ne (tgt := 54) dX12_cell_43 (by decide) r_p3 (ir_c rfl) (fun c55 => ?_) (fun c55 => ?_)
          ·
            refine GO.iload dX12_cell_54 rfl ?_
            refine GO.bipush dX12_cell_56 rfl ?_
            refine GO.sipush dX12_cell_58 rfl ?_
            refine GO.callS (N := mX12_in) dX12_cell_61 gS_RX12_371 (t_X12_in r_p4 (ir_c rfl) (ir_c rfl)) rfl [] rfl rfl (Nat.le_of_ble_eq_true rfl) rfl (k_ip fun X56 r57 h58 => ?_)
            refine GO.if_ne (tgt := 69) dX12_cell_64 (by decide) r57 (fun c59 => ?_) (fun c59 => ?_)
            ·
              have q60 := h58.2.1 (by omega)
              have q61 : -2147483648 ≤ p4 ∧ p4 ≤ 2147483647 := r_p4
              exact hj31  (by omega) (by omega)
            ·
              have q62 := h58.2.2 (by omega)
              refine GO.iconst dX12_cell_67 ?_
              exact GO.retz rfl rfl dX12_cell_68 (Or.inl rfl) ⟨rfl, _, rfl, (ir_c rfl), ⟨Or.inl rfl, fun _ => trivial, fun _ => trivial⟩⟩
          ·
            refine GO.iload dX12_cell_46 rfl ?_
            refine GO.if_eq (tgt := 69) dX12_cell_48 (by decide) r_p4 (fun c63 => ?_) (fun c63 => ?_)
            ·
              have q64 : -2147483648 ≤ p4 ∧ p4 ≤ 2147483647 := r_p4
              exact hj31  (by omega) (by omega)
            ·
              refine GO.goto (tgt := 67) dX12_cell_51 (by decide) ?_
              refine GO.iconst dX12_cell_67 ?_
              exact GO.retz rfl rfl dX12_cell_68 (Or.inl rfl) ⟨rfl, _, rfl, (ir_c rfl), ⟨Or.inl rfl, fun _ => trivial, fun _ => trivial⟩⟩
        ·
          have q65 := h20.2.2 (by omega)
          refine GO.iconst dX12_cell_38 ?_
          exact GO.retz rfl rfl dX12_cell_39 (Or.inl rfl) ⟨rfl, _, rfl, (ir_c rfl), ⟨Or.inl rfl, fun _ => trivial, fun _ => trivial⟩⟩

set_option maxHeartbeats 1000000 in
theorem t_X12_dark {K : Kmap} {V : Vmap} {x : Nat} {p0 : Int} {p1 : Int} (h_x : K x = some (0, 11)) (r_p0 : ir p0) (r_p1 : ir p1) : MC mX12_dark K V [.ref x, ti p0, ti p1] (IS K (fun X V1 => (X = 0 ∨ X = 1) ∧ (X ≠ 0 → p0 ≥ 0 ∧ p0 ≤ 359 ∧ p1 ≥ p0 ∧ p1 ≤ 359) ∧ (X = 0 → (p0 < 0 ∨ p0 > 359 ∨ p1 < p0 ∨ p1 > 359)))) := by
  refine MC.start 0 (by decide +kernel) rfl rfl rfl (ls0 := [some (.ref x), some (ti p0), some (ti p1)]) rfl ?_
  refine GO.iload_n dX12_dark_0 rfl rfl ?_
  refine GO.iconst dX12_dark_1 ?_
  refine GO.sipush dX12_dark_2 rfl ?_
  refine GO.callS (N := mX12_in) dX12_dark_5 gS_RX12_371 (t_X12_in r_p0 (ir_c rfl) (ir_c rfl)) rfl [] rfl rfl (Nat.le_of_ble_eq_true rfl) rfl (k_ip fun X1 r2 h3 => ?_)
  refine GO.if_eq (tgt := 22) dX12_dark_8 (by decide) r2 (fun c4 => ?_) (fun c4 => ?_)
  ·
    have q5 := h3.2.2 (by omega)
    refine GO.iconst dX12_dark_22 ?_
    exact GO.retz rfl rfl dX12_dark_23 (Or.inl rfl) ⟨rfl, _, rfl, (ir_c rfl), ⟨Or.inl rfl, fun h => absurd rfl h, fun h => by omega⟩⟩
  ·
    have q6 := h3.2.1 (by omega)
    refine GO.iload_n dX12_dark_11 rfl rfl ?_
    refine GO.iload_n dX12_dark_12 rfl rfl ?_
    refine GO.sipush dX12_dark_13 rfl ?_
    refine GO.callS (N := mX12_in) dX12_dark_16 gS_RX12_371 (t_X12_in r_p1 r_p0 (ir_c rfl)) rfl [] rfl rfl (Nat.le_of_ble_eq_true rfl) rfl (k_ip fun X7 r8 h9 => ?_)
    refine GO.if_ne (tgt := 24) dX12_dark_19 (by decide) r8 (fun c10 => ?_) (fun c10 => ?_)
    ·
      have q11 := h9.2.1 (by omega)
      refine GO.aload_n dX12_dark_24 rfl rfl ?_
      refine GO.iload_n dX12_dark_25 rfl rfl ?_
      refine GO.putI h_x fp_RX12_7 rfl (by decide +kernel) r_p0 (r_p0).1 (r_p0).2 dX12_dark_26 (fun V13 e12 => ?_)
      refine GO.aload_n dX12_dark_29 rfl rfl ?_
      refine GO.iload_n dX12_dark_30 rfl rfl ?_
      refine GO.putI h_x fp_RX12_13 rfl (by decide +kernel) r_p1 (r_p1).1 (r_p1).2 dX12_dark_31 (fun V15 e14 => ?_)
      refine GO.iconst dX12_dark_34 ?_
      exact GO.retz rfl rfl dX12_dark_35 (Or.inr rfl) ⟨rfl, _, rfl, (ir_c rfl), ⟨Or.inr rfl, fun h => by omega, fun h => absurd h (by decide)⟩⟩
    ·
      have q16 := h9.2.2 (by omega)
      refine GO.iconst dX12_dark_22 ?_
      exact GO.retz rfl rfl dX12_dark_23 (Or.inl rfl) ⟨rfl, _, rfl, (ir_c rfl), ⟨Or.inl rfl, fun h => absurd rfl h, fun h => by omega⟩⟩

set_option maxHeartbeats 1000000 in
theorem t_X12_isDark {K : Kmap} {V : Vmap} {x : Nat} {p0 : Int} (h_x : K x = some (0, 11)) (r_p0 : ir p0) : MC mX12_isDark K V [.ref x, ti p0] (IP K V (fun X => (X = 0 ∨ X = 1) ∧ (X ≠ 0 → True) ∧ (X = 0 → True))) := by
  refine MC.start 0 (by decide +kernel) rfl rfl rfl (ls0 := [some (.ref x), some (ti p0)]) rfl ?_
  refine GO.iload_n dX12_isDark_0 rfl rfl ?_
  refine GO.sipush dX12_isDark_1 rfl ?_
  refine GO.irem dX12_isDark_4 (ir_c rfl) (by omega) ?_
  refine GO.aload_n dX12_isDark_5 rfl rfl ?_
  refine GO.getI h_x fl_RX12_7 rfl rfl dX12_isDark_6 (fun _ _ => ?_)
  refine GO.aload_n dX12_isDark_9 rfl rfl ?_
  refine GO.getI h_x fl_RX12_13 rfl rfl dX12_isDark_10 (fun _ _ => ?_)
  refine GO.callS (N := mX12_in) dX12_isDark_13 gS_RX12_371 (t_X12_in wrem_ir vi_ir vi_ir) rfl [] rfl rfl (Nat.le_of_ble_eq_true rfl) rfl (k_ip fun X1 r2 h3 => ?_)
  exact GO.retz rfl rfl dX12_isDark_16 (by omega) ⟨rfl, rfl, _, rfl, r2, ⟨by omega, fun _ => trivial, fun _ => trivial⟩⟩

set_option maxHeartbeats 1000000 in
theorem t_X12_far {K : Kmap} {V : Vmap} {x : Nat} {p0 : Int} {p1 : Int} (h_x : K x = some (0, 11)) (r_p0 : ir p0) (r_p1 : ir p1) (q_0 : p0 ≥ 0) (q_1 : p0 ≤ 143) (q_2 : p1 ≥ 0) (q_3 : p1 ≤ 143) : MC mX12_far K V [.ref x, ti p0, ti p1] (IP K V (fun X => 0 ≤ X ∧ X ≤ 3600)) := by
  refine MC.start 2 (by decide +kernel) rfl rfl rfl (ls0 := [some (.ref x), some (ti p0), some (ti p1), none, none]) rfl ?_
  refine GO.iload_n dX12_far_0 rfl rfl ?_
  refine GO.aload_n dX12_far_1 rfl rfl ?_
  refine GO.getI h_x fl_RX12_365 rfl rfl dX12_far_2 (fun l1 u2 => ?_)
  have q3 : -2147483648 ≤ p0 ∧ p0 ≤ 2147483647 := r_p0
  refine GO.idivP dX12_far_5 r_p0 vi_ir (by omega) (by omega) ?_
  have m4 := div_rng (a := p0) (b := vi V x 0) (by omega) (by omega)
  refine GO.iload_n dX12_far_6 rfl rfl ?_
  refine GO.aload_n dX12_far_7 rfl rfl ?_
  refine GO.getI h_x fl_RX12_365 rfl rfl dX12_far_8 (fun l5 u6 => ?_)
  have q7 : -2147483648 ≤ p1 ∧ p1 ≤ 2147483647 := r_p1
  refine GO.idivP dX12_far_11 r_p1 vi_ir (by omega) (by omega) ?_
  have m8 := div_rng (a := p1) (b := vi V x 0) (by omega) (by omega)
  refine GO.isub dX12_far_12 ?_
  refine GO.callS (N := mX12_size) dX12_far_13 gS_RX12_385 (t_X12_size ⟨by omega, by omega⟩ (by omega) (by omega)) rfl [] rfl rfl (Nat.le_of_ble_eq_true rfl) rfl (k_ip fun X9 r10 h11 => ?_)
  refine GO.istore_n (ls1 := [some (.ref x), some (ti p0), some (ti p1), some (ti X9), none]) dX12_far_16 rfl rfl rfl ?_
  refine GO.iload_n dX12_far_17 rfl rfl ?_
  refine GO.aload_n dX12_far_18 rfl rfl ?_
  refine GO.getI h_x fl_RX12_365 rfl rfl dX12_far_19 (fun l12 u13 => ?_)
  refine GO.iremP dX12_far_22 r_p0 vi_ir (by omega) (by omega) ?_
  have m14 := rem_rng (a := p0) (b := vi V x 0) (by omega)
  refine GO.iload_n dX12_far_23 rfl rfl ?_
  refine GO.aload_n dX12_far_24 rfl rfl ?_
  refine GO.getI h_x fl_RX12_365 rfl rfl dX12_far_25 (fun l15 u16 => ?_)
  refine GO.iremP dX12_far_28 r_p1 vi_ir (by omega) (by omega) ?_
  have m17 := rem_rng (a := p1) (b := vi V x 0) (by omega)
  refine GO.isub dX12_far_29 ?_
  refine GO.callS (N := mX12_size) dX12_far_30 gS_RX12_385 (t_X12_size ⟨by omega, by omega⟩ (by omega) (by omega)) rfl [] rfl rfl (Nat.le_of_ble_eq_true rfl) rfl (k_ip fun X18 r19 h20 => ?_)
  refine GO.istore (ls1 := [some (.ref x), some (ti p0), some (ti p1), some (ti X9), some (ti X18)]) dX12_far_33 rfl rfl ?_
  refine GO.iload_n dX12_far_35 rfl rfl ?_
  refine GO.iload dX12_far_36 rfl ?_
  refine GO.icmp_le (tgt := 45) dX12_far_38 (by decide) r10 r19 (fun c21 => ?_) (fun c21 => ?_)
  ·
    refine GO.iload dX12_far_45 rfl ?_
    exact GO.reti rfl rfl dX12_far_47 ⟨rfl, rfl, _, rfl, r19, ⟨by omega, by omega⟩⟩
  ·
    refine GO.iload_n dX12_far_41 rfl rfl ?_
    refine GO.goto (tgt := 47) dX12_far_42 (by decide) ?_
    exact GO.reti rfl rfl dX12_far_47 ⟨rfl, rfl, _, rfl, r10, ⟨by omega, by omega⟩⟩

set_option maxHeartbeats 1000000 in
theorem t_X12_columnStep {K : Kmap} {V : Vmap} {p0 : Int} (r_p0 : ir p0) : MC mX12_columnStep K V [ti p0] (IP K V (fun X => (-1) ≤ X ∧ X ≤ 1)) := by
  refine MC.start 0 (by decide +kernel) rfl rfl rfl (ls0 := [some (ti p0)]) rfl ?_
  refine GO.iload_n dX12_columnStep_0 rfl rfl ?_
  refine GO.iconst dX12_columnStep_1 ?_
  refine GO.iconst dX12_columnStep_2 ?_
  refine GO.callS (N := mX12_in) dX12_columnStep_3 gS_RX12_371 (t_X12_in r_p0 (ir_c rfl) (ir_c rfl)) rfl [] rfl rfl (Nat.le_of_ble_eq_true rfl) rfl (k_ip fun X1 r2 h3 => ?_)
  refine GO.if_eq (tgt := 13) dX12_columnStep_6 (by decide) r2 (fun c4 => ?_) (fun c4 => ?_)
  ·
    have q5 := h3.2.2 (by omega)
    refine GO.iload_n dX12_columnStep_13 rfl rfl ?_
    refine GO.iconst dX12_columnStep_14 ?_
    refine GO.icmp_lt (tgt := 22) dX12_columnStep_15 (by decide) r_p0 (ir_c rfl) (fun c6 => ?_) (fun c6 => ?_)
    ·
      refine GO.iconst dX12_columnStep_22 ?_
      exact GO.reti rfl rfl dX12_columnStep_23 ⟨rfl, rfl, _, rfl, (ir_c rfl), ⟨by omega, by omega⟩⟩
    ·
      refine GO.iconst dX12_columnStep_18 ?_
      refine GO.goto (tgt := 23) dX12_columnStep_19 (by decide) ?_
      exact GO.reti rfl rfl dX12_columnStep_23 ⟨rfl, rfl, _, rfl, (ir_c rfl), ⟨by omega, by omega⟩⟩
  ·
    have q7 := h3.2.1 (by omega)
    refine GO.iconst dX12_columnStep_9 ?_
    refine GO.goto (tgt := 23) dX12_columnStep_10 (by decide) ?_
    exact GO.reti rfl rfl dX12_columnStep_23 ⟨rfl, rfl, _, rfl, (ir_c rfl), ⟨by omega, by omega⟩⟩

set_option maxHeartbeats 1000000 in
theorem t_X12_rowStep {K : Kmap} {V : Vmap} {p0 : Int} (r_p0 : ir p0) : MC mX12_rowStep K V [ti p0] (IP K V (fun X => (-1) ≤ X ∧ X ≤ 1)) := by
  refine MC.start 0 (by decide +kernel) rfl rfl rfl (ls0 := [some (ti p0)]) rfl ?_
  refine GO.iload_n dX12_rowStep_0 rfl rfl ?_
  refine GO.if_eq (tgt := 15) dX12_rowStep_1 (by decide) r_p0 (fun c1 => ?_) (fun c1 => ?_)
  ·
    refine GO.iconst dX12_rowStep_15 ?_
    refine GO.goto (tgt := 33) dX12_rowStep_16 (by decide) ?_
    exact GO.reti rfl rfl dX12_rowStep_33 ⟨rfl, rfl, _, rfl, (ir_c rfl), ⟨by omega, by omega⟩⟩
  ·
    refine GO.iload_n dX12_rowStep_4 rfl rfl ?_
    refine GO.iconst dX12_rowStep_5 ?_
    refine GO.icmp_eq (tgt := 15) dX12_rowStep_6 (by decide) r_p0 (ir_c rfl) (fun c2 => ?_) (fun c2 => ?_)
    ·
      refine GO.iconst dX12_rowStep_15 ?_
      refine GO.goto (tgt := 33) dX12_rowStep_16 (by decide) ?_
      exact GO.reti rfl rfl dX12_rowStep_33 ⟨rfl, rfl, _, rfl, (ir_c rfl), ⟨by omega, by omega⟩⟩
    ·
      refine GO.iload_n dX12_rowStep_9 rfl rfl ?_
      refine GO.bipush dX12_rowStep_10 rfl ?_
      refine GO.icmp_ne (tgt := 19) dX12_rowStep_12 (by decide) r_p0 (ir_c rfl) (fun c3 => ?_) (fun c3 => ?_)
      ·
        refine GO.iload_n dX12_rowStep_19 rfl rfl ?_
        refine GO.iconst dX12_rowStep_20 ?_
        refine GO.iconst dX12_rowStep_21 ?_
        refine GO.callS (N := mX12_in) dX12_rowStep_22 gS_RX12_371 (t_X12_in r_p0 (ir_c rfl) (ir_c rfl)) rfl [] rfl rfl (Nat.le_of_ble_eq_true rfl) rfl (k_ip fun X4 r5 h6 => ?_)
        refine GO.if_eq (tgt := 32) dX12_rowStep_25 (by decide) r5 (fun c7 => ?_) (fun c7 => ?_)
        ·
          have q8 := h6.2.2 (by omega)
          refine GO.iconst dX12_rowStep_32 ?_
          exact GO.reti rfl rfl dX12_rowStep_33 ⟨rfl, rfl, _, rfl, (ir_c rfl), ⟨by omega, by omega⟩⟩
        ·
          have q9 := h6.2.1 (by omega)
          refine GO.iconst dX12_rowStep_28 ?_
          refine GO.goto (tgt := 33) dX12_rowStep_29 (by decide) ?_
          exact GO.reti rfl rfl dX12_rowStep_33 ⟨rfl, rfl, _, rfl, (ir_c rfl), ⟨by omega, by omega⟩⟩
      ·
        refine GO.iconst dX12_rowStep_15 ?_
        refine GO.goto (tgt := 33) dX12_rowStep_16 (by decide) ?_
        exact GO.reti rfl rfl dX12_rowStep_33 ⟨rfl, rfl, _, rfl, (ir_c rfl), ⟨by omega, by omega⟩⟩
