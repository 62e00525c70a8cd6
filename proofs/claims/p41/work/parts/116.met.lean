def mX12_dark : MRec := (RX12, cX12_dark, 3, (some .boolean), yX12_dark, 1, 22, 0, 0, 15950735949418990474845684723364134912)
def mX12_isDark : MRec := (RX12, cX12_isDark, 2, (some .boolean), yX12_isDark, 1, 22, 0, 0, 0)
def mX12_far : MRec := (RX12, cX12_far, 5, (some .int), yX12_far, 1, 20, 0, 0, 0)
def mX12_columnStep : MRec := (RX12, cX12_columnStep, 1, (some .int), yX12_columnStep, 1, 22, 0, 0, 0)
def mX12_rowStep : MRec := (RX12, cX12_rowStep, 1, (some .int), yX12_rowStep, 1, 22, 0, 0, 0)
def mX12_moved : MRec := (RX12, cX12_moved, 6, (some .int), yX12_moved, 1, 22, 0, 0, 0)
def mX12_isLand : MRec := (RX12, cX12_isLand, 2, (some .boolean), yX12_isLand, 0, 0, 0, 0, 0)
def mX12_isNearSea : MRec := (RX12, cX12_isNearSea, 3, (some .boolean), yX12_isNearSea, 2, 44, 0, 0, 0)
def mX12_party : MRec := (RX12, cX12_party, 2, (some .int), yX12_party, 0, 0, 0, 0, 31082702275611665134711390509176302506278509425174514706949937019285843170715104182272)
def mX12_isParty : MRec := (RX12, cX12_isParty, 2, (some .boolean), yX12_isParty, 0, 0, 0, 0, 0)
def mX12_isPlace : MRec := (RX12, cX12_isPlace, 3, (some .boolean), yX12_isPlace, 0, 0, 0, 0, 0)
def mX12_isStation : MRec := (RX12, cX12_isStation, 2, (some .boolean), yX12_isStation, 1, 22, 0, 0, 0)
def mX12_stands : MRec := (RX12, cX12_stands, 2, (some .boolean), yX12_stands, 2, 43, 0, 0, 0)
def mX12_decidesOn : MRec := (RX12, cX12_decidesOn, 3, (some .boolean), yX12_decidesOn, 0, 0, 0, 0, 0)
def mX12_decides : MRec := (RX12, cX12_decides, 3, (some .int), yX12_decides, 1, 22, 0, 0, 0)
def mX12_place : MRec := (RX12, cX12_place, 6, (some .int), yX12_place, 0, 0, 0, 0, 7832840973454139613947270408312428231582184375058907114421149512994188827162264201068544)
def mX12_isRectangle : MRec := (RX12, cX12_isRectangle, 3, (some .boolean), yX12_isRectangle, 1, 21, 0, 0, 0)
def mX12_isIn : MRec := (RX12, cX12_isIn, 3, (some .boolean), yX12_isIn, 1, 22, 0, 0, 0)
set_option maxHeartbeats 1000000 in
theorem t_X12_dark {K : Kmap} {V : Vmap} {x : Nat} {p0 : Int} {p1 : Int} (h_x : K x = some (0, 11)) (r_p0 : ir p0) (r_p1 : ir p1) : MC mX12_dark K V [.ref x, ti p0, ti p1] (IS K (fun X V1 => (X = 0 ∨ X = 1) ∧ (X ≠ 0 → p0 ≥ 0 ∧ p0 ≤ 359 ∧ p1 ≥ p0 ∧ p1 ≤ 359) ∧ (X = 0 → (p0 < 0 ∨ p0 > 359 ∨ p1 < p0 ∨ p1 > 359)))) := by
  refine MC.start 0 (by decide +kernel) rfl rfl rfl (ls0 := [some (.ref x), some (ti p0), some (ti p1)]) rfl ?_
  refine GO.iload_n dX12_dark_0 rfl rfl ?_
  refine GO.iconst dX12_dark_1 ?_
  refine GO.sipush dX12_dark_2 rfl ?_
  refine GO.callS (N := mX12_in) dX12_dark_5 gS_RX12_371 (t_X12_in r_p0 (ir_c rfl) (ir_c rfl)) rfl [] rfl rfl (Nat.le_of_ble_eq_true rfl) rfl (k_ip fun X1 r2 h3 => ?_)
  have raw_in := h3.2.2.2
  have rw5 := h3.2.2.2
  refine GO.if_eq (tgt := 22) dX12_dark_8 (by decide) r2 (fun c4 => ?_) (fun c4 => ?_)
  ·
    have q5 := h3.2.2.1 (by omega)
    refine GO.iconst dX12_dark_22 ?_
    exact GO.retz rfl rfl dX12_dark_23 (Or.inl rfl) ⟨rfl, _, rfl, (ir_c rfl), ⟨Or.inl rfl, fun h => absurd rfl h, fun h => by omega⟩⟩
  ·
    have q6 := h3.2.1 (by omega)
    refine GO.iload_n dX12_dark_11 rfl rfl ?_
    refine GO.iload_n dX12_dark_12 rfl rfl ?_
    refine GO.sipush dX12_dark_13 rfl ?_
    refine GO.callS (N := mX12_in) dX12_dark_16 gS_RX12_371 (t_X12_in r_p1 r_p0 (ir_c rfl)) rfl [] rfl rfl (Nat.le_of_ble_eq_true rfl) rfl (k_ip fun X7 r8 h9 => ?_)
    have raw_in := h9.2.2.2
    have rw16 := h9.2.2.2
    refine GO.if_ne (tgt := 24) dX12_dark_19 (by decide) r8 (fun c10 => ?_) (fun c10 => ?_)
    ·
      have q11 := h9.2.1 (by omega)
      refine GO.aload_n dX12_dark_24 rfl rfl ?_
      refine GO.iload_n dX12_dark_25 rfl rfl ?_
      refine GO.putI h_x fp_RX12_7 rfl (by decide +kernel) r_p0 (r_p0).1 (r_p0).2 dX12_dark_26 (fun V13 e12 => ?_)
      refine GO.aload_n dX12_dark_29 rfl rfl ?_
      refine GO.iload_n dX12_dark_30 rfl rfl ?_
      refine GO.putI h_x fp_RX12_13 rfl (by decide +kernel) r_p1 (r_p1).1 (r_p1).2 dX12_dark_31 (fun V15 e14 => ?_)
      refine GO.iconst dX12_dark_34 ?_
      exact GO.retz rfl rfl dX12_dark_35 (Or.inr rfl) ⟨rfl, _, rfl, (ir_c rfl), ⟨Or.inr rfl, fun h => by omega, fun h => absurd h (by decide)⟩⟩
    ·
      have q16 := h9.2.2.1 (by omega)
      refine GO.iconst dX12_dark_22 ?_
      exact GO.retz rfl rfl dX12_dark_23 (Or.inl rfl) ⟨rfl, _, rfl, (ir_c rfl), ⟨Or.inl rfl, fun h => absurd rfl h, fun h => by omega⟩⟩

set_option maxHeartbeats 1000000 in
theorem t_X12_isDark {K : Kmap} {V : Vmap} {x : Nat} {p0 : Int} (h_x : K x = some (0, 11)) (r_p0 : ir p0) : MC mX12_isDark K V [.ref x, ti p0] (IP K V (fun X => (X = 0 ∨ X = 1) ∧ (X ≠ 0 → True) ∧ (X = 0 → True))) := by
  refine MC.start 0 (by decide +kernel) rfl rfl rfl (ls0 := [some (.ref x), some (ti p0)]) rfl ?_
  refine GO.iload_n dX12_isDark_0 rfl rfl ?_
  refine GO.sipush dX12_isDark_1 rfl ?_
  refine GO.irem dX12_isDark_4 (ir_c rfl) (by omega) ?_
  refine GO.aload_n dX12_isDark_5 rfl rfl ?_
  refine GO.getI h_x fl_RX12_7 rfl rfl dX12_isDark_6 (fun _ _ => ?_)
  refine GO.aload_n dX12_isDark_9 rfl rfl ?_
  refine GO.getI h_x fl_RX12_13 rfl rfl dX12_isDark_10 (fun _ _ => ?_)
  refine GO.callS (N := mX12_in) dX12_isDark_13 gS_RX12_371 (t_X12_in wrem_ir vi_ir vi_ir) rfl [] rfl rfl (Nat.le_of_ble_eq_true rfl) rfl (k_ip fun X1 r2 h3 => ?_)
  have raw_in := h3.2.2.2
  have rw13 := h3.2.2.2
  exact GO.retz rfl rfl dX12_isDark_16 (by omega) ⟨rfl, rfl, _, rfl, r2, ⟨by omega, fun _ => trivial, fun _ => trivial⟩⟩

set_option maxHeartbeats 1000000 in
theorem t_X12_far {K : Kmap} {V : Vmap} {x : Nat} {p0 : Int} {p1 : Int} (h_x : K x = some (0, 11)) (r_p0 : ir p0) (r_p1 : ir p1) (q_0 : p0 ≥ 0) (q_1 : p0 ≤ 143) (q_2 : p1 ≥ 0) (q_3 : p1 ≤ 143) : MC mX12_far K V [.ref x, ti p0, ti p1] (IP K V (fun X => 0 ≤ X ∧ X ≤ 3600)) := by
  refine MC.start 2 (by decide +kernel) rfl rfl rfl (ls0 := [some (.ref x), some (ti p0), some (ti p1), none, none]) rfl ?_
  refine GO.iload_n dX12_far_0 rfl rfl ?_
  refine GO.aload_n dX12_far_1 rfl rfl ?_
  refine GO.getI h_x fl_RX12_365 rfl rfl dX12_far_2 (fun l1 u2 => ?_)
  have q3 : -2147483648 ≤ p0 ∧ p0 ≤ 2147483647 := r_p0
  refine GO.idivP dX12_far_5 r_p0 vi_ir (by omega) (by omega) ?_
  have m4 := div_rng (a := p0) (b := vi V x 0) (by omega) (by omega)
  refine GO.iload_n dX12_far_6 rfl rfl ?_
  refine GO.aload_n dX12_far_7 rfl rfl ?_
  refine GO.getI h_x fl_RX12_365 rfl rfl dX12_far_8 (fun l5 u6 => ?_)
  have q7 : -2147483648 ≤ p1 ∧ p1 ≤ 2147483647 := r_p1
  refine GO.idivP dX12_far_11 r_p1 vi_ir (by omega) (by omega) ?_
  have m8 := div_rng (a := p1) (b := vi V x 0) (by omega) (by omega)
  refine GO.isub dX12_far_12 ?_
  refine GO.callS (N := mX12_size) dX12_far_13 gS_RX12_385 (t_X12_size ⟨by omega, by omega⟩ (by omega) (by omega)) rfl [] rfl rfl (Nat.le_of_ble_eq_true rfl) rfl (k_ip fun X9 r10 h11 => ?_)
  refine GO.istore_n (ls1 := [some (.ref x), some (ti p0), some (ti p1), some (ti X9), none]) dX12_far_16 rfl rfl rfl ?_
  refine GO.iload_n dX12_far_17 rfl rfl ?_
  refine GO.aload_n dX12_far_18 rfl rfl ?_
  refine GO.getI h_x fl_RX12_365 rfl rfl dX12_far_19 (fun l12 u13 => ?_)
  refine GO.iremP dX12_far_22 r_p0 vi_ir (by omega) (by omega) ?_
  have m14 := rem_rng (a := p0) (b := vi V x 0) (by omega)
  refine GO.iload_n dX12_far_23 rfl rfl ?_
  refine GO.aload_n dX12_far_24 rfl rfl ?_
  refine GO.getI h_x fl_RX12_365 rfl rfl dX12_far_25 (fun l15 u16 => ?_)
  refine GO.iremP dX12_far_28 r_p1 vi_ir (by omega) (by omega) ?_
  have m17 := rem_rng (a := p1) (b := vi V x 0) (by omega)
  refine GO.isub dX12_far_29 ?_
  refine GO.callS (N := mX12_size) dX12_far_30 gS_RX12_385 (t_X12_size ⟨by omega, by omega⟩ (by omega) (by omega)) rfl [] rfl rfl (Nat.le_of_ble_eq_true rfl) rfl (k_ip fun X18 r19 h20 => ?_)
  refine GO.istore (ls1 := [some (.ref x), some (ti p0), some (ti p1), some (ti X9), some (ti X18)]) dX12_far_33 rfl rfl ?_
  refine GO.iload_n dX12_far_35 rfl rfl ?_
  refine GO.iload dX12_far_36 rfl ?_
  refine GO.icmp_le (tgt := 45) dX12_far_38 (by decide) r10 r19 (fun c21 => ?_) (fun c21 => ?_)
  ·
    refine GO.iload dX12_far_45 rfl ?_
    exact GO.reti rfl rfl dX12_far_47 ⟨rfl, rfl, _, rfl, r19, ⟨by omega, by omega⟩⟩
  ·
    refine GO.iload_n dX12_far_41 rfl rfl ?_
    refine GO.goto (tgt := 47) dX12_far_42 (by decide) ?_
    exact GO.reti rfl rfl dX12_far_47 ⟨rfl, rfl, _, rfl, r10, ⟨by omega, by omega⟩⟩

set_option maxHeartbeats 1000000 in
theorem t_X12_columnStep {K : Kmap} {V : Vmap} {p0 : Int} (r_p0 : ir p0) : MC mX12_columnStep K V [ti p0] (IP K V (fun X => (X ≥ (-1) ∧ X ≤ 1) ∧ (0 ≤ p0 → p0 ≤ 7 → X = csv p0))) := by
  refine MC.start 0 (by decide +kernel) rfl rfl rfl (ls0 := [some (ti p0)]) rfl ?_
  refine GO.iload_n dX12_columnStep_0 rfl rfl ?_
  refine GO.iconst dX12_columnStep_1 ?_
  refine GO.iconst dX12_columnStep_2 ?_
  refine GO.callS (N := mX12_in) dX12_columnStep_3 gS_RX12_371 (t_X12_in r_p0 (ir_c rfl) (ir_c rfl)) rfl [] rfl rfl (Nat.le_of_ble_eq_true rfl) rfl (k_ip fun X1 r2 h3 => ?_)
  have raw_in := h3.2.2.2
  have rw3 := h3.2.2.2
  refine GO.if_eq (tgt := 13) dX12_columnStep_6 (by decide) r2 (fun c4 => ?_) (fun c4 => ?_)
  ·
    have q5 := h3.2.2.1 (by omega)
    refine GO.iload_n dX12_columnStep_13 rfl rfl ?_
    refine GO.iconst dX12_columnStep_14 ?_
    refine GO.icmp_lt (tgt := 22) dX12_columnStep_15 (by decide) r_p0 (ir_c rfl) (fun c6 => ?_) (fun c6 => ?_)
    ·
      refine GO.iconst dX12_columnStep_22 ?_
      exact GO.reti rfl rfl dX12_columnStep_23 ⟨rfl, rfl, _, rfl, (ir_c rfl), ⟨(by first | exact trivial | omega), fun h0 h7 => cst_mk h0 h7 (by omega)⟩⟩
    ·
      refine GO.iconst dX12_columnStep_18 ?_
      refine GO.goto (tgt := 23) dX12_columnStep_19 (by decide) ?_
      exact GO.reti rfl rfl dX12_columnStep_23 ⟨rfl, rfl, _, rfl, (ir_c rfl), ⟨(by first | exact trivial | omega), fun h0 h7 => cst_mk h0 h7 (by omega)⟩⟩
  ·
    have q7 := h3.2.1 (by omega)
    refine GO.iconst dX12_columnStep_9 ?_
    refine GO.goto (tgt := 23) dX12_columnStep_10 (by decide) ?_
    exact GO.reti rfl rfl dX12_columnStep_23 ⟨rfl, rfl, _, rfl, (ir_c rfl), ⟨(by first | exact trivial | omega), fun h0 h7 => cst_mk h0 h7 (by omega)⟩⟩

set_option maxHeartbeats 1000000 in
theorem t_X12_rowStep {K : Kmap} {V : Vmap} {p0 : Int} (r_p0 : ir p0) : MC mX12_rowStep K V [ti p0] (IP K V (fun X => (X ≥ (-1) ∧ X ≤ 1) ∧ (0 ≤ p0 → p0 ≤ 7 → X = rsv p0))) := by
  refine MC.start 0 (by decide +kernel) rfl rfl rfl (ls0 := [some (ti p0)]) rfl ?_
  refine GO.iload_n dX12_rowStep_0 rfl rfl ?_
  refine GO.if_eq (tgt := 15) dX12_rowStep_1 (by decide) r_p0 (fun c1 => ?_) (fun c1 => ?_)
  ·
    refine GO.iconst dX12_rowStep_15 ?_
    refine GO.goto (tgt := 33) dX12_rowStep_16 (by decide) ?_
    exact GO.reti rfl rfl dX12_rowStep_33 ⟨rfl, rfl, _, rfl, (ir_c rfl), ⟨(by first | exact trivial | omega), fun h0 h7 => rst_mk h0 h7 (by omega)⟩⟩
  ·
    refine GO.iload_n dX12_rowStep_4 rfl rfl ?_
    refine GO.iconst dX12_rowStep_5 ?_
    refine GO.icmp_eq (tgt := 15) dX12_rowStep_6 (by decide) r_p0 (ir_c rfl) (fun c2 => ?_) (fun c2 => ?_)
    ·
      refine GO.iconst dX12_rowStep_15 ?_
      refine GO.goto (tgt := 33) dX12_rowStep_16 (by decide) ?_
      exact GO.reti rfl rfl dX12_rowStep_33 ⟨rfl, rfl, _, rfl, (ir_c rfl), ⟨(by first | exact trivial | omega), fun h0 h7 => rst_mk h0 h7 (by omega)⟩⟩
    ·
      refine GO.iload_n dX12_rowStep_9 rfl rfl ?_
      refine GO.bipush dX12_rowStep_10 rfl ?_
      refine GO.icmp_ne (tgt := 19) dX12_rowStep_12 (by decide) r_p0 (ir_c rfl) (fun c3 => ?_) (fun c3 => ?_)
      ·
        refine GO.iload_n dX12_rowStep_19 rfl rfl ?_
        refine GO.iconst dX12_rowStep_20 ?_
        refine GO.iconst dX12_rowStep_21 ?_
        refine GO.callS (N := mX12_in) dX12_rowStep_22 gS_RX12_371 (t_X12_in r_p0 (ir_c rfl) (ir_c rfl)) rfl [] rfl rfl (Nat.le_of_ble_eq_true rfl) rfl (k_ip fun X4 r5 h6 => ?_)
        have raw_in := h6.2.2.2
        have rw22 := h6.2.2.2
        refine GO.if_eq (tgt := 32) dX12_rowStep_25 (by decide) r5 (fun c7 => ?_) (fun c7 => ?_)
        ·
          have q8 := h6.2.2.1 (by omega)
          refine GO.iconst dX12_rowStep_32 ?_
          exact GO.reti rfl rfl dX12_rowStep_33 ⟨rfl, rfl, _, rfl, (ir_c rfl), ⟨(by first | exact trivial | omega), fun h0 h7 => rst_mk h0 h7 (by omega)⟩⟩
        ·
          have q9 := h6.2.1 (by omega)
          refine GO.iconst dX12_rowStep_28 ?_
          refine GO.goto (tgt := 33) dX12_rowStep_29 (by decide) ?_
          exact GO.reti rfl rfl dX12_rowStep_33 ⟨rfl, rfl, _, rfl, (ir_c rfl), ⟨(by first | exact trivial | omega), fun h0 h7 => rst_mk h0 h7 (by omega)⟩⟩
      ·
        refine GO.iconst dX12_rowStep_15 ?_
        refine GO.goto (tgt := 33) dX12_rowStep_16 (by decide) ?_
        exact GO.reti rfl rfl dX12_rowStep_33 ⟨rfl, rfl, _, rfl, (ir_c rfl), ⟨(by first | exact trivial | omega), fun h0 h7 => rst_mk h0 h7 (by omega)⟩⟩

set_option maxHeartbeats 1000000 in
theorem t_X12_moved {K : Kmap} {V : Vmap} {x : Nat} {p0 : Int} {p1 : Int} {p2 : Int} (h_x : K x = some (0, 11)) (r_p0 : ir p0) (r_p1 : ir p1) (r_p2 : ir p2) (q_0 : p0 ≥ 0) (q_1 : p0 ≤ 143) (q_2 : p1 ≥ (-1)) (q_3 : p1 ≤ 1) (q_4 : p2 ≥ (-1)) (q_5 : p2 ≤ 1) : MC mX12_moved K V [.ref x, ti p0, ti p1, ti p2] (IP K V (fun X => (X ≥ (-1) ∧ X ≤ 143) ∧ (MOV (vi V x 0) (vi V x 1) p0 p1 p2 X))) := by
  refine MC.start 2 (by decide +kernel) rfl rfl rfl (ls0 := [some (.ref x), some (ti p0), some (ti p1), some (ti p2), none, none]) rfl ?_
  refine GO.iload_n dX12_moved_0 rfl rfl ?_
  refine GO.aload_n dX12_moved_1 rfl rfl ?_
  refine GO.getI h_x fl_RX12_365 rfl rfl dX12_moved_2 (fun l1 u2 => ?_)
  have q3 : -2147483648 ≤ p0 ∧ p0 ≤ 2147483647 := r_p0
  refine GO.iremP dX12_moved_5 r_p0 vi_ir (by omega) (by omega) ?_
  have m4 := rem_rng (a := p0) (b := vi V x 0) (by omega)
  refine GO.iload_n dX12_moved_6 rfl rfl ?_
  refine GO.iadd dX12_moved_7 ?_
  refine GO.name (fun z5 hz6 => ?_)
  refine GO.istore (ls1 := [some (.ref x), some (ti p0), some (ti p1), some (ti p2), some (ti z5), none]) dX12_moved_8 rfl rfl ?_
  refine GO.iload_n dX12_moved_10 rfl rfl ?_
  refine GO.aload_n dX12_moved_11 rfl rfl ?_
  refine GO.getI h_x fl_RX12_365 rfl rfl dX12_moved_12 (fun l7 u8 => ?_)
  have q9 : -2147483648 ≤ p1 ∧ p1 ≤ 2147483647 := r_p1
  refine GO.idivP dX12_moved_15 r_p0 vi_ir (by omega) (by omega) ?_
  have m10 := div_rng (a := p0) (b := vi V x 0) (by omega) (by omega)
  refine GO.iload_n dX12_moved_16 rfl rfl ?_
  refine GO.iadd dX12_moved_17 ?_
  refine GO.name (fun z11 hz12 => ?_)
  refine GO.istore (ls1 := [some (.ref x), some (ti p0), some (ti p1), some (ti p2), some (ti z5), some (ti z11)]) dX12_moved_18 rfl rfl ?_
  refine GO.iload dX12_moved_20 rfl ?_
  refine GO.iconst dX12_moved_22 ?_
  refine GO.aload_n dX12_moved_23 rfl rfl ?_
  refine GO.getI h_x fl_RX12_365 rfl rfl dX12_moved_24 (fun l13 u14 => ?_)
  refine GO.iconst dX12_moved_27 ?_
  refine GO.isub dX12_moved_28 ?_
  refine GO.callS (N := mX12_in) dX12_moved_29 gS_RX12_371 (t_X12_in ⟨by omega, by omega⟩ (ir_c rfl) ⟨by omega, by omega⟩) rfl [] rfl rfl (Nat.le_of_ble_eq_true rfl) rfl (k_ip fun X15 r16 h17 => ?_)
  have raw_in := h17.2.2.2
  have rw29 := h17.2.2.2
  refine GO.if_eq (tgt := 63) dX12_moved_32 (by decide) r16 (fun c18 => ?_) (fun c18 => ?_)
  ·
    have q19 := h17.2.2.1 (by omega)
    refine GO.iconst dX12_moved_63 ?_
    exact GO.reti rfl rfl dX12_moved_64 ⟨rfl, rfl, _, rfl, (ir_c rfl), ⟨(by first | exact trivial | omega), (by first | exact MOV.in (by assumption) (by assumption) ⟨by omega, by omega, by omega, by omega⟩ (by omega) | exact MOV.out (by assumption) (by assumption) (by omega) rfl)⟩⟩
  ·
    have q20 := h17.2.1 (by omega)
    refine GO.iload dX12_moved_35 rfl ?_
    refine GO.iconst dX12_moved_37 ?_
    refine GO.aload_n dX12_moved_38 rfl rfl ?_
    refine GO.getI h_x fl_RX12_368 rfl rfl dX12_moved_39 (fun l21 u22 => ?_)
    refine GO.iconst dX12_moved_42 ?_
    refine GO.isub dX12_moved_43 ?_
    have q23 : -2147483648 ≤ p2 ∧ p2 ≤ 2147483647 := r_p2
    refine GO.callS (N := mX12_in) dX12_moved_44 gS_RX12_371 (t_X12_in ⟨by omega, by omega⟩ (ir_c rfl) ⟨by omega, by omega⟩) rfl [] rfl rfl (Nat.le_of_ble_eq_true rfl) rfl (k_ip fun X24 r25 h26 => ?_)
    have raw_in := h26.2.2.2
    have rw44 := h26.2.2.2
    refine GO.if_eq (tgt := 63) dX12_moved_47 (by decide) r25 (fun c27 => ?_) (fun c27 => ?_)
    ·
      have q28 := h26.2.2.1 (by omega)
      refine GO.iconst dX12_moved_63 ?_
      exact GO.reti rfl rfl dX12_moved_64 ⟨rfl, rfl, _, rfl, (ir_c rfl), ⟨(by first | exact trivial | omega), (by first | exact MOV.in (by assumption) (by assumption) ⟨by omega, by omega, by omega, by omega⟩ (by omega) | exact MOV.out (by assumption) (by assumption) (by omega) rfl)⟩⟩
    ·
      have q29 := h26.2.1 (by omega)
      refine GO.aload_n dX12_moved_50 rfl rfl ?_
      refine GO.getI h_x fl_RX12_365 rfl rfl dX12_moved_51 (fun l30 u31 => ?_)
      refine GO.iload dX12_moved_54 rfl ?_
      refine GO.imul dX12_moved_56 ?_
      have m32 := mul_rng (a := vi V x 0) (b := z11) (A := 12) (B := 11) (by omega) (by omega) (by omega) (by omega)
      refine GO.iload dX12_moved_57 rfl ?_
      refine GO.iadd dX12_moved_59 ?_
      refine GO.goto (tgt := 64) dX12_moved_60 (by decide) ?_
      exact GO.reti rfl rfl dX12_moved_64 ⟨rfl, rfl, _, rfl, ⟨by omega, by omega⟩, ⟨(by first | exact trivial | omega), (by first | exact MOV.in (by assumption) (by assumption) ⟨by omega, by omega, by omega, by omega⟩ (by omega) | exact MOV.out (by assumption) (by assumption) (by omega) rfl)⟩⟩

set_option maxHeartbeats 1000000 in
theorem t_X12_isLand {K : Kmap} {V : Vmap} {x : Nat} {p0 : Int} (h_x : K x = some (0, 11)) (r_p0 : ir p0) (q_0 : p0 ≥ 0) (q_1 : p0 ≤ 143) : MC mX12_isLand K V [.ref x, ti p0] (IP K V (fun X => (X = 0 ∨ X = 1) ∧ (X ≠ 0 → True) ∧ (X = 0 → True) ∧ (X ≠ 0 ↔ ((rgv V (vq V x 6) 144) p0 = 0 ∨ (rgv V (vq V x 6) 144) p0 = 1)))) := by
  refine MC.start 0 (by decide +kernel) rfl rfl rfl (ls0 := [some (.ref x), some (ti p0)]) rfl ?_
  refine GO.aload_n dX12_isLand_0 rfl rfl ?_
  refine GO.getA (n := 144) h_x fl_RX12_20 rfl rfl rfl rfl dX12_isLand_1 (fun hv2 h1 => ?_)
  refine GO.iload_n dX12_isLand_4 rfl rfl ?_
  have q3 : -2147483648 ≤ p0 ∧ p0 ≤ 2147483647 := r_p0
  refine GO.iald (t := 10) rfl rfl h1 r_p0 (by omega) (by omega) dX12_isLand_5 (fun l4 u5 => ?_)
  refine GO.iconst dX12_isLand_6 ?_
  refine GO.icmp_ge (tgt := 14) dX12_isLand_7 (by decide) vi_ir (ir_c rfl) (fun c6 => ?_) (fun c6 => ?_)
  ·
    refine GO.iconst dX12_isLand_14 ?_
    exact GO.retz rfl rfl dX12_isLand_15 (Or.inl rfl) ⟨rfl, rfl, _, rfl, (ir_c rfl), ⟨Or.inl rfl, fun _ => trivial, fun _ => trivial, ILD.mk (by omega) (by omega) (by constructor <;> intro _ <;> omega)⟩⟩
  ·
    refine GO.iconst dX12_isLand_10 ?_
    refine GO.goto (tgt := 15) dX12_isLand_11 (by decide) ?_
    exact GO.retz rfl rfl dX12_isLand_15 (Or.inr rfl) ⟨rfl, rfl, _, rfl, (ir_c rfl), ⟨Or.inr rfl, fun _ => trivial, fun _ => trivial, ILD.mk (by omega) (by omega) (by constructor <;> intro _ <;> omega)⟩⟩

set_option maxHeartbeats 1000000 in
theorem t_X12_isNearSea {K : Kmap} {V : Vmap} {x : Nat} {p0 : Int} (h_x : K x = some (0, 11)) (r_p0 : ir p0) (q_0 : p0 ≥ 0) (q_1 : p0 ≤ 143) : MC mX12_isNearSea K V [.ref x, ti p0] (IP K V (fun X => (X = 0 ∨ X = 1) ∧ (X ≠ 0 → True) ∧ (X = 0 → True))) := by
  refine MC.start 1 (by decide +kernel) rfl rfl rfl (ls0 := [some (.ref x), some (ti p0), none]) rfl ?_
  refine GO.iconst dX12_isNearSea_0 ?_
  refine GO.istore_n (ls1 := [some (.ref x), some (ti p0), some (ti 0)]) dX12_isNearSea_1 rfl rfl rfl ?_
  refine GO.loop1 (fun i1 W => 0 ≤ i1 ∧ i1 ≤ 144 ∧ V = W) (fun i1 => [some (.ref x), some (ti p0), some (ti i1)]) (fun i1 W => (2147483647 - i1).toNat) 0 ⟨by omega, by omega, rfl⟩ rfl (fun i1 V155 hp157 ih156 => ?_)
  obtain ⟨l_i1, u_i1, rfl⟩ := hp157
  have r_i1 : ir i1 := ⟨by omega, by omega⟩
  show GO mX12_isNearSea K V (IP K V (fun X => (X = 0 ∨ X = 1) ∧ (X ≠ 0 → True) ∧ (X = 0 → True))) K V 0 0 2 [some (.ref x), some (ti p0), some (ti i1)] []
  refine GO.iload_n dX12_isNearSea_2 rfl rfl ?_
  refine GO.aload_n dX12_isNearSea_3 rfl rfl ?_
  refine GO.getI h_x fl_RX12_365 rfl rfl dX12_isNearSea_4 (fun l158 u159 => ?_)
  refine GO.aload_n dX12_isNearSea_7 rfl rfl ?_
  refine GO.getI h_x fl_RX12_368 rfl rfl dX12_isNearSea_8 (fun l160 u161 => ?_)
  refine GO.imul dX12_isNearSea_11 ?_
  have m162 := mul_rng (a := vi V x 0) (b := vi V x 1) (A := 12) (B := 12) (by omega) (by omega) (by omega) (by omega)
  have m163 := mul_low (a := vi V x 0) (b := vi V x 1) (m := 4) (n := 4) (by omega) (by omega) (by omega) (by omega)
  refine GO.icmp_ge (tgt := 43) dX12_isNearSea_12 (by decide) r_i1 ⟨by omega, by omega⟩ (fun c164 => ?_) (fun c164 => ?_)
  ·
    refine GO.iconst dX12_isNearSea_43 ?_
    exact GO.retz rfl rfl dX12_isNearSea_44 (Or.inl rfl) ⟨rfl, rfl, _, rfl, (ir_c rfl), ⟨Or.inl rfl, fun _ => trivial, fun _ => trivial⟩⟩
  ·
    refine GO.aload_n dX12_isNearSea_15 rfl rfl ?_
    refine GO.getA (n := 144) h_x fl_RX12_20 rfl rfl rfl rfl dX12_isNearSea_16 (fun hv166 h165 => ?_)
    refine GO.iload_n dX12_isNearSea_19 rfl rfl ?_
    refine GO.iald (t := 10) rfl rfl h165 r_i1 (by omega) (by omega) dX12_isNearSea_20 (fun l167 u168 => ?_)
    refine GO.iconst dX12_isNearSea_21 ?_
    refine GO.icmp_ne (tgt := 37) dX12_isNearSea_22 (by decide) vi_ir (ir_c rfl) (fun c169 => ?_) (fun c169 => ?_)
    ·
      refine GO.iinc (X := i1) (n := 1) (Y := i1 + 1) (ls1 := [some (.ref x), some (ti p0), some (ti (i1 + 1))]) dX12_isNearSea_37 rfl rfl rfl rfl ?_
      refine GO.goto (tgt := 2) dX12_isNearSea_40 (by decide) ?_
      exact ih156 (i1 + 1) V ⟨by omega, by omega, rfl⟩ (by show (2147483647 - (i1 + 1)).toNat < (2147483647 - i1).toNat; omega)
    ·
      refine GO.aload_n dX12_isNearSea_25 rfl rfl ?_
      refine GO.iload_n dX12_isNearSea_26 rfl rfl ?_
      refine GO.iload_n dX12_isNearSea_27 rfl rfl ?_
      have q170 : -2147483648 ≤ p0 ∧ p0 ≤ 2147483647 := r_p0
      refine GO.callV (ci := 11) (N := mX12_far) dX12_isNearSea_28 (RX12, TX12, 151) rfl gV_RX12_389 h_x (t_X12_far h_x r_i1 r_p0 (by omega) (by omega) (by omega) (by omega)) rfl [] rfl rfl (Nat.le_of_ble_eq_true rfl) rfl (k_ip fun X171 r172 h173 => ?_)
      refine GO.iconst dX12_isNearSea_31 ?_
      refine GO.icmp_gt (tgt := 37) dX12_isNearSea_32 (by decide) r172 (ir_c rfl) (fun c174 => ?_) (fun c174 => ?_)
      ·
        refine GO.iinc (X := i1) (n := 1) (Y := i1 + 1) (ls1 := [some (.ref x), some (ti p0), some (ti (i1 + 1))]) dX12_isNearSea_37 rfl rfl rfl rfl ?_
        refine GO.goto (tgt := 2) dX12_isNearSea_40 (by decide) ?_
        exact ih156 (i1 + 1) V ⟨by omega, by omega, rfl⟩ (by show (2147483647 - (i1 + 1)).toNat < (2147483647 - i1).toNat; omega)
      ·
        refine GO.iconst dX12_isNearSea_35 ?_
        exact GO.retz rfl rfl dX12_isNearSea_36 (Or.inr rfl) ⟨rfl, rfl, _, rfl, (ir_c rfl), ⟨Or.inr rfl, fun _ => trivial, fun _ => trivial⟩⟩

set_option maxHeartbeats 1000000 in
theorem t_X12_party {K : Kmap} {V : Vmap} {x : Nat} {p0 : Int} (h_x : K x = some (0, 11)) (r_p0 : ir p0) (z_p0 : p0 = 0 ∨ p0 = 1) : MC mX12_party K V [.ref x, ti p0] (IS K (fun X V1 => ((X = (-1) ∧ vi V1 x 9 = vi V x 9 ∧ vi V x 9 ≥ 9) ∨ (X = vi V x 9 ∧ vi V1 x 9 = (vi V x 9 + 1) ∧ vi V x 9 < 9)))) := by
  refine MC.start 0 (by decide +kernel) rfl rfl rfl (ls0 := [some (.ref x), some (ti p0)]) rfl ?_
  refine GO.aload_n dX12_party_0 rfl rfl ?_
  refine GO.getI h_x fl_RX12_393 rfl rfl dX12_party_1 (fun l1 u2 => ?_)
  refine GO.bipush dX12_party_4 rfl ?_
  refine GO.icmp_ne (tgt := 11) dX12_party_6 (by decide) vi_ir (ir_c rfl) (fun c3 => ?_) (fun c3 => ?_)
  ·
    refine GO.aload_n dX12_party_11 rfl rfl ?_
    refine GO.getA (n := 9) h_x fl_RX12_29 rfl rfl rfl rfl dX12_party_12 (fun hv5 h4 => ?_)
    refine GO.aload_n dX12_party_15 rfl rfl ?_
    refine GO.getI h_x fl_RX12_393 rfl rfl dX12_party_16 (fun l6 u7 => ?_)
    refine GO.iload_n dX12_party_19 rfl rfl ?_
    refine GO.if_eq (tgt := 30) dX12_party_20 (by decide) r_p0 (fun c8 => ?_) (fun c8 => ?_)
    ·
      refine GO.iconst dX12_party_30 ?_
      refine GO.iast (t := 13) rfl rfl (by decide +kernel) h4 vi_ir (by omega) (by omega) (ir_c rfl) (by decide) (by decide) dX12_party_31 (fun V10 e9 => ?_)
      refine GO.aload_n dX12_party_32 rfl rfl ?_
      refine GO.aload_n dX12_party_33 rfl rfl ?_
      refine GO.getI h_x fl_RX12_393 rfl rfl dX12_party_34 (fun l11 u12 => ?_)
      have e13 : vi V10 x 9 = vi V x 9 := vi_up e9 (Or.inl (K_ne h_x h4 (by decide)))
      refine GO.iconst dX12_party_37 ?_
      refine GO.iadd dX12_party_38 ?_
      refine GO.putI h_x fp_RX12_393 rfl (by decide +kernel) ⟨by omega, by omega⟩ (by omega) (by omega) dX12_party_39 (fun V15 e14 => ?_)
      refine GO.aload_n dX12_party_42 rfl rfl ?_
      refine GO.getI h_x fl_RX12_393 rfl rfl dX12_party_43 (fun l16 u17 => ?_)
      have e18 : vi V15 x 9 = (vi V10 x 9) + 1 := upd2_int e14 ⟨by omega, by omega⟩
      refine GO.iconst dX12_party_46 ?_
      refine GO.isub dX12_party_47 ?_
      exact GO.reti rfl rfl dX12_party_48 ⟨rfl, _, rfl, ⟨by omega, by omega⟩, by omega⟩
    ·
      refine GO.aload_n dX12_party_23 rfl rfl ?_
      refine GO.getI h_x fl_RX12_396 rfl rfl dX12_party_24 (fun l19 u20 => ?_)
      refine GO.goto (tgt := 31) dX12_party_27 (by decide) ?_
      refine GO.iast (t := 13) rfl rfl (by decide +kernel) h4 vi_ir (by omega) (by omega) vi_ir (vi_ir).1 (vi_ir).2 dX12_party_31 (fun V22 e21 => ?_)
      refine GO.aload_n dX12_party_32 rfl rfl ?_
      refine GO.aload_n dX12_party_33 rfl rfl ?_
      refine GO.getI h_x fl_RX12_393 rfl rfl dX12_party_34 (fun l23 u24 => ?_)
      have e25 : vi V22 x 9 = vi V x 9 := vi_up e21 (Or.inl (K_ne h_x h4 (by decide)))
      refine GO.iconst dX12_party_37 ?_
      refine GO.iadd dX12_party_38 ?_
      refine GO.putI h_x fp_RX12_393 rfl (by decide +kernel) ⟨by omega, by omega⟩ (by omega) (by omega) dX12_party_39 (fun V27 e26 => ?_)
      refine GO.aload_n dX12_party_42 rfl rfl ?_
      refine GO.getI h_x fl_RX12_393 rfl rfl dX12_party_43 (fun l28 u29 => ?_)
      have e30 : vi V27 x 9 = (vi V22 x 9) + 1 := upd2_int e26 ⟨by omega, by omega⟩
      refine GO.iconst dX12_party_46 ?_
      refine GO.isub dX12_party_47 ?_
      exact GO.reti rfl rfl dX12_party_48 ⟨rfl, _, rfl, ⟨by omega, by omega⟩, by omega⟩
  ·
    refine GO.iconst dX12_party_9 ?_
    exact GO.reti rfl rfl dX12_party_10 ⟨rfl, _, rfl, (ir_c rfl), by omega⟩

set_option maxHeartbeats 1000000 in
theorem t_X12_isParty {K : Kmap} {V : Vmap} {x : Nat} {p0 : Int} (h_x : K x = some (0, 11)) (r_p0 : ir p0) : MC mX12_isParty K V [.ref x, ti p0] (IP K V (fun X => (X = 0 ∨ X = 1) ∧ (X ≠ 0 → p0 ≥ 0 ∧ p0 ≤ 8 ∧ p0 < vi V x 9) ∧ (X = 0 → (p0 < 0 ∨ p0 ≥ vi V x 9)))) := by
  refine MC.start 0 (by decide +kernel) rfl rfl rfl (ls0 := [some (.ref x), some (ti p0)]) rfl ?_
  refine GO.iload_n dX12_isParty_0 rfl rfl ?_
  refine GO.if_lt (tgt := 16) dX12_isParty_1 (by decide) r_p0 (fun c1 => ?_) (fun c1 => ?_)
  ·
    refine GO.iconst dX12_isParty_16 ?_
    have q2 : -2147483648 ≤ vi V x 9 ∧ vi V x 9 ≤ 2147483647 := vi_ir
    exact GO.retz rfl rfl dX12_isParty_17 (Or.inl rfl) ⟨rfl, rfl, _, rfl, (ir_c rfl), ⟨Or.inl rfl, fun h => absurd rfl h, fun h => by omega⟩⟩
  ·
    refine GO.iload_n dX12_isParty_4 rfl rfl ?_
    refine GO.aload_n dX12_isParty_5 rfl rfl ?_
    refine GO.getI h_x fl_RX12_393 rfl rfl dX12_isParty_6 (fun l3 u4 => ?_)
    refine GO.icmp_ge (tgt := 16) dX12_isParty_9 (by decide) r_p0 vi_ir (fun c5 => ?_) (fun c5 => ?_)
    ·
      refine GO.iconst dX12_isParty_16 ?_
      have q6 : -2147483648 ≤ p0 ∧ p0 ≤ 2147483647 := r_p0
      exact GO.retz rfl rfl dX12_isParty_17 (Or.inl rfl) ⟨rfl, rfl, _, rfl, (ir_c rfl), ⟨Or.inl rfl, fun h => absurd rfl h, fun h => by omega⟩⟩
    ·
      refine GO.iconst dX12_isParty_12 ?_
      refine GO.goto (tgt := 17) dX12_isParty_13 (by decide) ?_
      have q7 : -2147483648 ≤ p0 ∧ p0 ≤ 2147483647 := r_p0
      exact GO.retz rfl rfl dX12_isParty_17 (Or.inr rfl) ⟨rfl, rfl, _, rfl, (ir_c rfl), ⟨Or.inr rfl, fun h => by omega, fun h => absurd h (by decide)⟩⟩

set_option maxHeartbeats 1000000 in
theorem t_X12_isPlace {K : Kmap} {V : Vmap} {x : Nat} {p0 : Int} {p1 : Int} (h_x : K x = some (0, 11)) (r_p0 : ir p0) (r_p1 : ir p1) : MC mX12_isPlace K V [.ref x, ti p0, ti p1] (IP K V (fun X => (X = 0 ∨ X = 1) ∧ (X ≠ 0 → p0 ≥ 0 ∧ p0 ≤ 59) ∧ (X = 0 → True) ∧ ((X ≠ 0 → p0 < vi V x 10 ∧ ar 13 V x (p0).toNat = p1)) ∧ (X ≠ 0 ↔ MPK V x p0 p1))) := by
  refine MC.start 0 (by decide +kernel) rfl rfl rfl (ls0 := [some (.ref x), some (ti p0), some (ti p1)]) rfl ?_
  refine GO.iload_n dX12_isPlace_0 rfl rfl ?_
  refine GO.if_lt (tgt := 26) dX12_isPlace_1 (by decide) r_p0 (fun c1 => ?_) (fun c1 => ?_)
  ·
    refine GO.iconst dX12_isPlace_26 ?_
    exact GO.retz rfl rfl dX12_isPlace_27 (Or.inl rfl) ⟨rfl, rfl, _, rfl, (ir_c rfl), ⟨Or.inl rfl, fun h => absurd rfl h, fun _ => trivial, (by first | exact fun h => absurd rfl h | exact fun _ => ⟨by omega, by assumption⟩ | exact fun _ => ⟨by omega, by show vi _ _ _ = _; omega⟩), (by first | exact MPK.out (by omega) rfl | exact MPK.nk (by assumption) rfl | exact MPK.mk (by omega) (by omega) (by assumption) (by decide))⟩⟩
  ·
    refine GO.iload_n dX12_isPlace_4 rfl rfl ?_
    refine GO.aload_n dX12_isPlace_5 rfl rfl ?_
    refine GO.getI h_x fl_RX12_375 rfl rfl dX12_isPlace_6 (fun l2 u3 => ?_)
    refine GO.icmp_ge (tgt := 26) dX12_isPlace_9 (by decide) r_p0 vi_ir (fun c4 => ?_) (fun c4 => ?_)
    ·
      refine GO.iconst dX12_isPlace_26 ?_
      exact GO.retz rfl rfl dX12_isPlace_27 (Or.inl rfl) ⟨rfl, rfl, _, rfl, (ir_c rfl), ⟨Or.inl rfl, fun h => absurd rfl h, fun _ => trivial, (by first | exact fun h => absurd rfl h | exact fun _ => ⟨by omega, by assumption⟩ | exact fun _ => ⟨by omega, by show vi _ _ _ = _; omega⟩), (by first | exact MPK.out (by omega) rfl | exact MPK.nk (by assumption) rfl | exact MPK.mk (by omega) (by omega) (by assumption) (by decide))⟩⟩
    ·
      refine GO.aload_n dX12_isPlace_12 rfl rfl ?_
      refine GO.getA (n := 60) h_x fl_RX12_35 rfl rfl rfl rfl dX12_isPlace_13 (fun hv6 h5 => ?_)
      refine GO.iload_n dX12_isPlace_16 rfl rfl ?_
      have q7 : -2147483648 ≤ p0 ∧ p0 ≤ 2147483647 := r_p0
      refine GO.iald (t := 15) rfl rfl h5 r_p0 (by omega) (by omega) dX12_isPlace_17 (fun l8 u9 => ?_)
      refine GO.iload_n dX12_isPlace_18 rfl rfl ?_
      refine GO.icmp_ne (tgt := 26) dX12_isPlace_19 (by decide) vi_ir r_p1 (fun c10 => ?_) (fun c10 => ?_)
      ·
        refine GO.iconst dX12_isPlace_26 ?_
        exact GO.retz rfl rfl dX12_isPlace_27 (Or.inl rfl) ⟨rfl, rfl, _, rfl, (ir_c rfl), ⟨Or.inl rfl, fun h => absurd rfl h, fun _ => trivial, (by first | exact fun h => absurd rfl h | exact fun _ => ⟨by omega, by assumption⟩ | exact fun _ => ⟨by omega, by show vi _ _ _ = _; omega⟩), (by first | exact MPK.out (by omega) rfl | exact MPK.nk (by assumption) rfl | exact MPK.mk (by omega) (by omega) (by assumption) (by decide))⟩⟩
      ·
        refine GO.iconst dX12_isPlace_22 ?_
        refine GO.goto (tgt := 27) dX12_isPlace_23 (by decide) ?_
        exact GO.retz rfl rfl dX12_isPlace_27 (Or.inr rfl) ⟨rfl, rfl, _, rfl, (ir_c rfl), ⟨Or.inr rfl, fun h => by omega, fun _ => trivial, (by first | exact fun h => absurd h (by decide) | exact fun _ => ⟨by omega, by assumption⟩ | exact fun _ => ⟨by omega, by show vi _ _ _ = _; omega⟩), (by first | exact MPK.out (by omega) rfl | exact MPK.nk (by assumption) rfl | exact MPK.mk (by omega) (by omega) (by assumption) (by decide))⟩⟩

set_option maxHeartbeats 1000000 in
theorem t_X12_isStation {K : Kmap} {V : Vmap} {x : Nat} {p0 : Int} (h_x : K x = some (0, 11)) (r_p0 : ir p0) : MC mX12_isStation K V [.ref x, ti p0] (IP K V (fun X => (X = 0 ∨ X = 1) ∧ (X ≠ 0 → p0 ≥ 0 ∧ p0 ≤ 59) ∧ (X = 0 → True) ∧ (X ≠ 0 ↔ MPK V x p0 1))) := by
  refine MC.start 0 (by decide +kernel) rfl rfl rfl (ls0 := [some (.ref x), some (ti p0)]) rfl ?_
  refine GO.aload_n dX12_isStation_0 rfl rfl ?_
  refine GO.iload_n dX12_isStation_1 rfl rfl ?_
  refine GO.iconst dX12_isStation_2 ?_
  refine GO.callV (ci := 11) (N := mX12_isPlace) dX12_isStation_3 (RX12, TX12, 151) rfl gV_RX12_399 h_x (t_X12_isPlace h_x r_p0 (ir_c rfl)) rfl [] rfl rfl (Nat.le_of_ble_eq_true rfl) rfl (k_ip fun X1 r2 h3 => ?_)
  have raw_isPlace := h3.2.2.2.1
  have rq0_3 := h3.2.2.2.2
  have rw3 := h3.2.2.2.1
  exact GO.retz rfl rfl dX12_isStation_6 (by omega) ⟨rfl, rfl, _, rfl, r2, ⟨by omega, fun h => by omega, fun _ => trivial, rq0_3⟩⟩

set_option maxHeartbeats 1000000 in
theorem t_X12_stands {K : Kmap} {V : Vmap} {x : Nat} {p0 : Int} (h_x : K x = some (0, 11)) (r_p0 : ir p0) : MC mX12_stands K V [.ref x, ti p0] (IP K V (fun X => (X = 0 ∨ X = 1) ∧ (X ≠ 0 → p0 ≥ 0 ∧ p0 ≤ 59) ∧ (X = 0 → True) ∧ (X ≠ 0 ↔ MSN V x p0))) := by
  refine MC.start 0 (by decide +kernel) rfl rfl rfl (ls0 := [some (.ref x), some (ti p0)]) rfl ?_
  refine GO.aload_n dX12_stands_0 rfl rfl ?_
  refine GO.iload_n dX12_stands_1 rfl rfl ?_
  refine GO.callV (ci := 11) (N := mX12_isStation) dX12_stands_2 (RX12, TX12, 151) rfl gV_RX12_403 h_x (t_X12_isStation h_x r_p0) rfl [] rfl rfl (Nat.le_of_ble_eq_true rfl) rfl (k_ip fun X1 r2 h3 => ?_)
  have raw_isStation := h3.2.2.2
  have rw2 := h3.2.2.2
  refine GO.if_eq (tgt := 21) dX12_stands_5 (by decide) r2 (fun c4 => ?_) (fun c4 => ?_)
  ·
    refine GO.iconst dX12_stands_21 ?_
    exact GO.retz rfl rfl dX12_stands_22 (Or.inl rfl) ⟨rfl, rfl, _, rfl, (ir_c rfl), ⟨Or.inl rfl, fun h => absurd rfl h, fun _ => trivial, (by first | exact MSN.no rw2 (by omega) rfl | exact MSN.nl (by assumption) rfl | exact MSN.mk rw2 (by omega) (by assumption) (by decide))⟩⟩
  ·
    have q5 := h3.2.1 (by omega)
    refine GO.aload_n dX12_stands_8 rfl rfl ?_
    refine GO.getA (n := 60) h_x fl_RX12_80 rfl rfl rfl rfl dX12_stands_9 (fun hv7 h6 => ?_)
    refine GO.iload_n dX12_stands_12 rfl rfl ?_
    have q8 : -2147483648 ≤ p0 ∧ p0 ≤ 2147483647 := r_p0
    refine GO.zald (t := 30) rfl rfl h6 r_p0 (by omega) (by omega) dX12_stands_13 (fun l9 u10 => ?_)
    refine GO.if_ne (tgt := 21) dX12_stands_14 (by decide) vi_ir (fun c11 => ?_) (fun c11 => ?_)
    ·
      refine GO.iconst dX12_stands_21 ?_
      exact GO.retz rfl rfl dX12_stands_22 (Or.inl rfl) ⟨rfl, rfl, _, rfl, (ir_c rfl), ⟨Or.inl rfl, fun h => absurd rfl h, fun _ => trivial, (by first | exact MSN.no rw2 (by omega) rfl | exact MSN.nl (by assumption) rfl | exact MSN.mk rw2 (by omega) (by assumption) (by decide))⟩⟩
    ·
      refine GO.iconst dX12_stands_17 ?_
      refine GO.goto (tgt := 22) dX12_stands_18 (by decide) ?_
      exact GO.retz rfl rfl dX12_stands_22 (Or.inr rfl) ⟨rfl, rfl, _, rfl, (ir_c rfl), ⟨Or.inr rfl, fun h => by omega, fun _ => trivial, (by first | exact MSN.no rw2 (by omega) rfl | exact MSN.nl (by assumption) rfl | exact MSN.mk rw2 (by omega) (by assumption) (by decide))⟩⟩

set_option maxHeartbeats 1000000 in
theorem t_X12_decidesOn {K : Kmap} {V : Vmap} {x : Nat} {p0 : Int} {p1 : Int} (h_x : K x = some (0, 11)) (r_p0 : ir p0) (r_p1 : ir p1) (q_0 : p0 ≥ 0) (q_1 : p0 ≤ 8) : MC mX12_decidesOn K V [.ref x, ti p0, ti p1] (IP K V (fun X => (X = 0 ∨ X = 1) ∧ (X ≠ 0 → True) ∧ (X = 0 → True))) := by
  refine MC.start 0 (by decide +kernel) rfl rfl rfl (ls0 := [some (.ref x), some (ti p0), some (ti p1)]) rfl ?_
  refine GO.aload_n dX12_decidesOn_0 rfl rfl ?_
  refine GO.getA (n := 9) h_x fl_RX12_29 rfl rfl rfl rfl dX12_decidesOn_1 (fun hv2 h1 => ?_)
  refine GO.iload_n dX12_decidesOn_4 rfl rfl ?_
  have q3 : -2147483648 ≤ p0 ∧ p0 ≤ 2147483647 := r_p0
  refine GO.iald (t := 13) rfl rfl h1 r_p0 (by omega) (by omega) dX12_decidesOn_5 (fun _ _ => ?_)
  refine GO.iconst dX12_decidesOn_6 ?_
  refine GO.icmp_eq (tgt := 24) dX12_decidesOn_7 (by decide) vi_ir (ir_c rfl) (fun c4 => ?_) (fun c4 => ?_)
  ·
    refine GO.iconst dX12_decidesOn_24 ?_
    exact GO.retz rfl rfl dX12_decidesOn_25 (Or.inl rfl) ⟨rfl, rfl, _, rfl, (ir_c rfl), ⟨Or.inl rfl, fun _ => trivial, fun _ => trivial⟩⟩
  ·
    refine GO.aload_n dX12_decidesOn_10 rfl rfl ?_
    refine GO.getRaw h_x fl_RX12_29 hv2 dX12_decidesOn_11 ?_
    refine GO.iload_n dX12_decidesOn_14 rfl rfl ?_
    refine GO.iald (t := 13) rfl rfl h1 r_p0 (by omega) (by omega) dX12_decidesOn_15 (fun _ _ => ?_)
    refine GO.iload_n dX12_decidesOn_16 rfl rfl ?_
    refine GO.icmp_gt (tgt := 24) dX12_decidesOn_17 (by decide) vi_ir r_p1 (fun c7 => ?_) (fun c7 => ?_)
    ·
      refine GO.iconst dX12_decidesOn_24 ?_
      exact GO.retz rfl rfl dX12_decidesOn_25 (Or.inl rfl) ⟨rfl, rfl, _, rfl, (ir_c rfl), ⟨Or.inl rfl, fun _ => trivial, fun _ => trivial⟩⟩
    ·
      refine GO.iconst dX12_decidesOn_20 ?_
      refine GO.goto (tgt := 25) dX12_decidesOn_21 (by decide) ?_
      exact GO.retz rfl rfl dX12_decidesOn_25 (Or.inr rfl) ⟨rfl, rfl, _, rfl, (ir_c rfl), ⟨Or.inr rfl, fun _ => trivial, fun _ => trivial⟩⟩

set_option maxHeartbeats 1000000 in
theorem t_X12_decides {K : Kmap} {V : Vmap} {x : Nat} {p0 : Int} {p1 : Int} (h_x : K x = some (0, 11)) (r_p0 : ir p0) (r_p1 : ir p1) : MC mX12_decides K V [.ref x, ti p0, ti p1] (IP K V (fun X => True)) := by
  refine MC.start 0 (by decide +kernel) rfl rfl rfl (ls0 := [some (.ref x), some (ti p0), some (ti p1)]) rfl ?_
  refine GO.aload_n dX12_decides_0 rfl rfl ?_
  refine GO.iload_n dX12_decides_1 rfl rfl ?_
  refine GO.callV (ci := 11) (N := mX12_isParty) dX12_decides_2 (RX12, TX12, 151) rfl gV_RX12_406 h_x (t_X12_isParty h_x r_p0) rfl [] rfl rfl (Nat.le_of_ble_eq_true rfl) rfl (k_ip fun X1 r2 h3 => ?_)
  refine GO.if_eq (tgt := 15) dX12_decides_5 (by decide) r2 (fun c4 => ?_) (fun c4 => ?_)
  ·
    have q5 := h3.2.2 (by omega)
    refine GO.iconst dX12_decides_15 ?_
    exact GO.reti rfl rfl dX12_decides_16 ⟨rfl, rfl, _, rfl, (ir_c rfl), trivial⟩
  ·
    have q6 := h3.2.1 (by omega)
    refine GO.iload_n dX12_decides_8 rfl rfl ?_
    refine GO.callS (N := mX12_isDay) dX12_decides_9 gS_RX12_409 (t_X12_isDay r_p1) rfl [] rfl rfl (Nat.le_of_ble_eq_true rfl) rfl (k_ip fun X7 r8 h9 => ?_)
    refine GO.if_ne (tgt := 17) dX12_decides_12 (by decide) r8 (fun c10 => ?_) (fun c10 => ?_)
    ·
      have q11 := h9.2.1 (by omega)
      refine GO.aload_n dX12_decides_17 rfl rfl ?_
      refine GO.iload_n dX12_decides_18 rfl rfl ?_
      refine GO.iload_n dX12_decides_19 rfl rfl ?_
      have q12 : -2147483648 ≤ p0 ∧ p0 ≤ 2147483647 := r_p0
      have q13 : -2147483648 ≤ vi V x 9 ∧ vi V x 9 ≤ 2147483647 := vi_ir
      refine GO.callV (ci := 11) (N := mX12_decidesOn) dX12_decides_20 (RX12, TX12, 151) rfl gV_RX12_412 h_x (t_X12_decidesOn h_x r_p0 r_p1 (by omega) (by omega)) rfl [] rfl rfl (Nat.le_of_ble_eq_true rfl) rfl (k_ip fun X14 r15 h16 => ?_)
      refine GO.if_eq (tgt := 30) dX12_decides_23 (by decide) r15 (fun c17 => ?_) (fun c17 => ?_)
      ·
        refine GO.iconst dX12_decides_30 ?_
        exact GO.reti rfl rfl dX12_decides_31 ⟨rfl, rfl, _, rfl, (ir_c rfl), trivial⟩
      ·
        refine GO.iconst dX12_decides_26 ?_
        refine GO.goto (tgt := 31) dX12_decides_27 (by decide) ?_
        exact GO.reti rfl rfl dX12_decides_31 ⟨rfl, rfl, _, rfl, (ir_c rfl), trivial⟩
    ·
      have q18 := h9.2.2 (by omega)
      refine GO.iconst dX12_decides_15 ?_
      exact GO.reti rfl rfl dX12_decides_16 ⟨rfl, rfl, _, rfl, (ir_c rfl), trivial⟩

set_option maxHeartbeats 1000000 in
theorem t_X12_place {K : Kmap} {V : Vmap} {x : Nat} {p0 : Int} {p1 : Int} {p2 : Int} {p3 : Int} {p4 : Int} (h_x : K x = some (0, 11)) (r_p0 : ir p0) (r_p1 : ir p1) (r_p2 : ir p2) (r_p3 : ir p3) (r_p4 : ir p4) (q_0 : p0 ≥ 0) (q_1 : p0 ≤ 5) (q_2 : p1 ≥ (-1)) (q_3 : p1 ≤ 8) (q_4 : p2 ≥ 0) (q_5 : p2 ≤ 143) (q_6 : p3 ≥ (-1)) (q_7 : p3 ≤ 143) (q_8 : (p0 = 0 → p1 ≥ 0)) (w_0 : PX0 V x) (v_10 : 0 ≤ vi V x 10 ∧ vi V x 10 ≤ 59) : MC mX12_place K V [.ref x, ti p0, ti p1, ti p2, ti p3, ti p4] (IS K (fun X V1 => (X ≥ (-2147483648) ∧ X ≤ 2147483647) ∧ ((PX0 V1 x)) ∧ (MPL V V1 x p0 p1 p2 p3 p4 X))) := by
  refine MC.start 0 (by decide +kernel) rfl rfl rfl (ls0 := [some (.ref x), some (ti p0), some (ti p1), some (ti p2), some (ti p3), some (ti p4)]) rfl ?_
  refine GO.useWT (fun hW1 => ?_)
  have ak2 := hW1.arr h_x 13 15 (by decide) rfl (by decide)
  have ak3 := hW1.arr h_x 14 16 (by decide) rfl (by decide)
  have ak4 := hW1.arr h_x 15 17 (by decide) rfl (by decide)
  have ak5 := hW1.arr h_x 16 18 (by decide) rfl (by decide)
  have ak6 := hW1.arr h_x 17 19 (by decide) rfl (by decide)
  have ak7 := hW1.arr h_x 18 20 (by decide) rfl (by decide)
  refine GO.aload_n dX12_place_0 rfl rfl ?_
  refine GO.getA (n := 60) h_x fl_RX12_35 rfl rfl rfl rfl dX12_place_1 (fun hv9 h8 => ?_)
  refine GO.aload_n dX12_place_4 rfl rfl ?_
  refine GO.getI h_x fl_RX12_375 rfl rfl dX12_place_5 (fun l10 u11 => ?_)
  refine GO.iload_n dX12_place_8 rfl rfl ?_
  have q13 : -2147483648 ≤ p0 ∧ p0 ≤ 2147483647 := r_p0
  refine GO.iast (t := 15) rfl rfl (by decide +kernel) h8 vi_ir (by omega) (by omega) r_p0 (by omega) (by omega) dX12_place_9 (fun V14 e12 => ?_)
  have ak15 := tk_put e12 ak2 h_x (vq_of hv9) r_p0 (rfl : ar 13 V x = ar 13 V x)
  have ak16 := tk_oth e12 ak3 h_x h8 (by decide) (by decide) (rfl : ar 14 V x = ar 14 V x)
  have ak17 := tk_oth e12 ak4 h_x h8 (by decide) (by decide) (rfl : ar 15 V x = ar 15 V x)
  have ak18 := tk_oth e12 ak5 h_x h8 (by decide) (by decide) (rfl : ar 16 V x = ar 16 V x)
  have ak19 := tk_oth e12 ak6 h_x h8 (by decide) (by decide) (rfl : ar 17 V x = ar 17 V x)
  have ak20 := tk_oth e12 ak7 h_x h8 (by decide) (by decide) (rfl : ar 18 V x = ar 18 V x)
  refine GO.aload_n dX12_place_10 rfl rfl ?_
  refine GO.getA (n := 60) h_x fl_RX12_38 rfl rfl rfl rfl dX12_place_11 (fun hv22 h21 => ?_)
  refine GO.aload_n dX12_place_14 rfl rfl ?_
  refine GO.getI h_x fl_RX12_375 rfl rfl dX12_place_15 (fun l23 u24 => ?_)
  have e25 : vi V14 x 10 = vi V x 10 := vi_up e12 (Or.inl (K_ne h_x h8 (by decide)))
  refine GO.iload_n dX12_place_18 rfl rfl ?_
  have q27 : -2147483648 ≤ p1 ∧ p1 ≤ 2147483647 := r_p1
  refine GO.iast (t := 16) rfl rfl (by decide +kernel) h21 vi_ir (by omega) (by omega) r_p1 (by omega) (by omega) dX12_place_19 (fun V28 e26 => ?_)
  have ak29 := tk_oth e26 ak15.1 h_x h21 (by decide) (by decide) ak15.2
  have ak30 := tk_put e26 ak16.1 h_x (vq_of hv22) r_p1 ak16.2
  have ak31 := tk_oth e26 ak17.1 h_x h21 (by decide) (by decide) ak17.2
  have ak32 := tk_oth e26 ak18.1 h_x h21 (by decide) (by decide) ak18.2
  have ak33 := tk_oth e26 ak19.1 h_x h21 (by decide) (by decide) ak19.2
  have ak34 := tk_oth e26 ak20.1 h_x h21 (by decide) (by decide) ak20.2
  refine GO.aload_n dX12_place_20 rfl rfl ?_
  refine GO.getA (n := 60) h_x fl_RX12_41 rfl rfl rfl rfl dX12_place_21 (fun hv36 h35 => ?_)
  refine GO.aload_n dX12_place_24 rfl rfl ?_
  refine GO.getI h_x fl_RX12_375 rfl rfl dX12_place_25 (fun l37 u38 => ?_)
  have e39 : vi V28 x 10 = vi V14 x 10 := vi_up e26 (Or.inl (K_ne h_x h21 (by decide)))
  refine GO.iload_n dX12_place_28 rfl rfl ?_
  have q41 : -2147483648 ≤ p2 ∧ p2 ≤ 2147483647 := r_p2
  refine GO.iast (t := 17) rfl rfl (by decide +kernel) h35 vi_ir (by omega) (by omega) r_p2 (by omega) (by omega) dX12_place_29 (fun V42 e40 => ?_)
  have ak43 := tk_oth e40 ak29.1 h_x h35 (by decide) (by decide) ak29.2
  have ak44 := tk_oth e40 ak30.1 h_x h35 (by decide) (by decide) ak30.2
  have ak45 := tk_put e40 ak31.1 h_x (vq_of hv36) r_p2 ak31.2
  have ak46 := tk_oth e40 ak32.1 h_x h35 (by decide) (by decide) ak32.2
  have ak47 := tk_oth e40 ak33.1 h_x h35 (by decide) (by decide) ak33.2
  have ak48 := tk_oth e40 ak34.1 h_x h35 (by decide) (by decide) ak34.2
  refine GO.aload_n dX12_place_30 rfl rfl ?_
  refine GO.getA (n := 60) h_x fl_RX12_44 rfl rfl rfl rfl dX12_place_31 (fun hv50 h49 => ?_)
  refine GO.aload_n dX12_place_34 rfl rfl ?_
  refine GO.getI h_x fl_RX12_375 rfl rfl dX12_place_35 (fun l51 u52 => ?_)
  have e53 : vi V42 x 10 = vi V28 x 10 := vi_up e40 (Or.inl (K_ne h_x h35 (by decide)))
  refine GO.iload dX12_place_38 rfl ?_
  have q55 : -2147483648 ≤ p3 ∧ p3 ≤ 2147483647 := r_p3
  refine GO.iast (t := 18) rfl rfl (by decide +kernel) h49 vi_ir (by omega) (by omega) r_p3 (by omega) (by omega) dX12_place_40 (fun V56 e54 => ?_)
  have ak57 := tk_oth e54 ak43.1 h_x h49 (by decide) (by decide) ak43.2
  have ak58 := tk_oth e54 ak44.1 h_x h49 (by decide) (by decide) ak44.2
  have ak59 := tk_oth e54 ak45.1 h_x h49 (by decide) (by decide) ak45.2
  have ak60 := tk_put e54 ak46.1 h_x (vq_of hv50) r_p3 ak46.2
  have ak61 := tk_oth e54 ak47.1 h_x h49 (by decide) (by decide) ak47.2
  have ak62 := tk_oth e54 ak48.1 h_x h49 (by decide) (by decide) ak48.2
  refine GO.aload_n dX12_place_41 rfl rfl ?_
  refine GO.getA (n := 60) h_x fl_RX12_47 rfl rfl rfl rfl dX12_place_42 (fun hv64 h63 => ?_)
  refine GO.aload_n dX12_place_45 rfl rfl ?_
  refine GO.getI h_x fl_RX12_375 rfl rfl dX12_place_46 (fun l65 u66 => ?_)
  have e67 : vi V56 x 10 = vi V42 x 10 := vi_up e54 (Or.inl (K_ne h_x h49 (by decide)))
  refine GO.iload dX12_place_49 rfl ?_
  refine GO.iast (t := 19) rfl rfl (by decide +kernel) h63 vi_ir (by omega) (by omega) r_p4 (r_p4).1 (r_p4).2 dX12_place_51 (fun V69 e68 => ?_)
  have ak70 := tk_oth e68 ak57.1 h_x h63 (by decide) (by decide) ak57.2
  have ak71 := tk_oth e68 ak58.1 h_x h63 (by decide) (by decide) ak58.2
  have ak72 := tk_oth e68 ak59.1 h_x h63 (by decide) (by decide) ak59.2
  have ak73 := tk_oth e68 ak60.1 h_x h63 (by decide) (by decide) ak60.2
  have ak74 := tk_put e68 ak61.1 h_x (vq_of hv64) r_p4 ak61.2
  have ak75 := tk_oth e68 ak62.1 h_x h63 (by decide) (by decide) ak62.2
  refine GO.aload_n dX12_place_52 rfl rfl ?_
  refine GO.getA (n := 60) h_x fl_RX12_50 rfl rfl rfl rfl dX12_place_53 (fun hv77 h76 => ?_)
  refine GO.aload_n dX12_place_56 rfl rfl ?_
  refine GO.getI h_x fl_RX12_375 rfl rfl dX12_place_57 (fun l78 u79 => ?_)
  have e80 : vi V69 x 10 = vi V56 x 10 := vi_up e68 (Or.inl (K_ne h_x h63 (by decide)))
  refine GO.aload_n dX12_place_60 rfl rfl ?_
  refine GO.getI h_x fl_RX12_396 rfl rfl dX12_place_61 (fun l81 u82 => ?_)
  have e87 : vi V14 x 2 = vi V x 2 := vi_up e12 (Or.inl (K_ne h_x h8 (by decide)))
  have e86 : vi V28 x 2 = vi V14 x 2 := vi_up e26 (Or.inl (K_ne h_x h21 (by decide)))
  have e85 : vi V42 x 2 = vi V28 x 2 := vi_up e40 (Or.inl (K_ne h_x h35 (by decide)))
  have e84 : vi V56 x 2 = vi V42 x 2 := vi_up e54 (Or.inl (K_ne h_x h49 (by decide)))
  have e83 : vi V69 x 2 = vi V56 x 2 := vi_up e68 (Or.inl (K_ne h_x h63 (by decide)))
  have q89 : -2147483648 ≤ vi V x 2 ∧ vi V x 2 ≤ 2147483647 := vi_ir
  refine GO.iast (t := 20) rfl rfl (by decide +kernel) h76 vi_ir (by omega) (by omega) vi_ir (by omega) (by omega) dX12_place_64 (fun V90 e88 => ?_)
  have ak91 := tk_oth e88 ak70.1 h_x h76 (by decide) (by decide) ak70.2
  have ak92 := tk_oth e88 ak71.1 h_x h76 (by decide) (by decide) ak71.2
  have ak93 := tk_oth e88 ak72.1 h_x h76 (by decide) (by decide) ak72.2
  have ak94 := tk_oth e88 ak73.1 h_x h76 (by decide) (by decide) ak73.2
  have ak95 := tk_oth e88 ak74.1 h_x h76 (by decide) (by decide) ak74.2
  have ak96 := tk_put e88 ak75.1 h_x (vq_of hv77) vi_ir ak75.2
  refine GO.aload_n dX12_place_65 rfl rfl ?_
  refine GO.aload_n dX12_place_66 rfl rfl ?_
  refine GO.getI h_x fl_RX12_375 rfl rfl dX12_place_67 (fun l97 u98 => ?_)
  have e99 : vi V90 x 10 = vi V69 x 10 := vi_up e88 (Or.inl (K_ne h_x h76 (by decide)))
  refine GO.iconst dX12_place_70 ?_
  refine GO.iadd dX12_place_71 ?_
  refine GO.putI h_x fp_RX12_375 rfl (by decide +kernel) ⟨by omega, by omega⟩ (by omega) (by omega) dX12_place_72 (fun V101 e100 => ?_)
  have ak102 := tk_fld e100 ak91.1 h_x (by decide) ak91.2
  have ak103 := tk_fld e100 ak92.1 h_x (by decide) ak92.2
  have ak104 := tk_fld e100 ak93.1 h_x (by decide) ak93.2
  have ak105 := tk_fld e100 ak94.1 h_x (by decide) ak94.2
  have ak106 := tk_fld e100 ak95.1 h_x (by decide) ak95.2
  have ak107 := tk_fld e100 ak96.1 h_x (by decide) ak96.2
  refine GO.aload_n dX12_place_75 rfl rfl ?_
  refine GO.getI h_x fl_RX12_375 rfl rfl dX12_place_76 (fun l108 u109 => ?_)
  have e110 : vi V101 x 10 = (vi V90 x 10) + 1 := upd2_int e100 ⟨by omega, by omega⟩
  refine GO.iconst dX12_place_79 ?_
  refine GO.isub dX12_place_80 ?_
  exact GO.reti rfl rfl dX12_place_81 ⟨rfl, _, rfl, ⟨by omega, by omega⟩, ⟨(by first | exact trivial | omega), (by first | exact PX0.step w_0 (by omega) ak102.2 ak103.2 (by omega) (by omega) (by omega)), MPL.mk (by omega) (by omega) (by omega) ak102.2 ak103.2 ak104.2 ak105.2 ak106.2 ak107.2 (by omega) (by omega) (by omega) (by omega) (by omega) (by omega) (by omega)⟩⟩

set_option maxHeartbeats 1000000 in
theorem t_X12_isRectangle {K : Kmap} {V : Vmap} {x : Nat} {p0 : Int} {p1 : Int} (h_x : K x = some (0, 11)) (r_p0 : ir p0) (r_p1 : ir p1) : MC mX12_isRectangle K V [.ref x, ti p0, ti p1] (IP K V (fun X => (X = 0 ∨ X = 1) ∧ (X ≠ 0 → p0 ≥ 0 ∧ p0 ≤ 143 ∧ p1 ≥ 0 ∧ p1 ≤ 143) ∧ (X = 0 → True) ∧ (X ≠ 0 ↔ ((0 ≤ p0 ∧ p0 < (vi V x 0) * (vi V x 1)) ∧ (0 ≤ p1 ∧ p1 < (vi V x 0) * (vi V x 1)) ∧ p0 / (vi V x 0) ≤ p1 / (vi V x 0) ∧ p0 % (vi V x 0) ≤ p1 % (vi V x 0))))) := by
  refine MC.start 0 (by decide +kernel) rfl rfl rfl (ls0 := [some (.ref x), some (ti p0), some (ti p1)]) rfl ?_
  refine GO.aload_n dX12_isRectangle_0 rfl rfl ?_
  refine GO.iload_n dX12_isRectangle_1 rfl rfl ?_
  refine GO.callV (ci := 11) (N := mX12_isCell) dX12_isRectangle_2 (RX12, TX12, 151) rfl gV_RX12_381 h_x (t_X12_isCell h_x r_p0) rfl [] rfl rfl (Nat.le_of_ble_eq_true rfl) rfl (k_ip fun X1 r2 h3 => ?_)
  have raw_isCell := h3.2.2.2
  have rw2 := h3.2.2.2
  refine GO.if_eq (tgt := 50) dX12_isRectangle_5 (by decide) r2 (fun c4 => ?_) (fun c4 => ?_)
  ·
    refine GO.iconst dX12_isRectangle_50 ?_
    exact GO.retz rfl rfl dX12_isRectangle_51 (Or.inl rfl) ⟨rfl, rfl, _, rfl, (ir_c rfl), ⟨Or.inl rfl, fun h => absurd rfl h, fun _ => trivial, (by first | exact RCT.n1 rw2 (by assumption) rfl)⟩⟩
  ·
    have q5 := h3.2.1 (by omega)
    refine GO.aload_n dX12_isRectangle_8 rfl rfl ?_
    refine GO.iload_n dX12_isRectangle_9 rfl rfl ?_
    refine GO.callV (ci := 11) (N := mX12_isCell) dX12_isRectangle_10 (RX12, TX12, 151) rfl gV_RX12_381 h_x (t_X12_isCell h_x r_p1) rfl [] rfl rfl (Nat.le_of_ble_eq_true rfl) rfl (k_ip fun X6 r7 h8 => ?_)
    have raw_isCell := h8.2.2.2
    have rw10 := h8.2.2.2
    refine GO.if_eq (tgt := 50) dX12_isRectangle_13 (by decide) r7 (fun c9 => ?_) (fun c9 => ?_)
    ·
      refine GO.iconst dX12_isRectangle_50 ?_
      exact GO.retz rfl rfl dX12_isRectangle_51 (Or.inl rfl) ⟨rfl, rfl, _, rfl, (ir_c rfl), ⟨Or.inl rfl, fun h => absurd rfl h, fun _ => trivial, (by first | exact RCT.n1 rw2 (by assumption) rfl | exact RCT.n2 rw10 (by assumption) rfl | exact RCT.m3 rw2 rw10 (by omega) rfl | exact RCT.m4 rw2 rw10 (by omega) rfl | exact RCT.my rw2 rw10 (by assumption) (by assumption) (by omega) (by omega) (by decide))⟩⟩
    ·
      have q10 := h8.2.1 (by omega)
      refine GO.iload_n dX12_isRectangle_16 rfl rfl ?_
      refine GO.aload_n dX12_isRectangle_17 rfl rfl ?_
      refine GO.getI h_x fl_RX12_365 rfl rfl dX12_isRectangle_18 (fun l11 u12 => ?_)
      have q13 : -2147483648 ≤ p0 ∧ p0 ≤ 2147483647 := r_p0
      refine GO.iremP dX12_isRectangle_21 r_p0 vi_ir (by omega) (by omega) ?_
      have m14 := rem_rng (a := p0) (b := vi V x 0) (by omega)
      refine GO.iload_n dX12_isRectangle_22 rfl rfl ?_
      refine GO.aload_n dX12_isRectangle_23 rfl rfl ?_
      refine GO.getI h_x fl_RX12_365 rfl rfl dX12_isRectangle_24 (fun l15 u16 => ?_)
      have q17 : -2147483648 ≤ p1 ∧ p1 ≤ 2147483647 := r_p1
      refine GO.iremP dX12_isRectangle_27 r_p1 vi_ir (by omega) (by omega) ?_
      have m18 := rem_rng (a := p1) (b := vi V x 0) (by omega)
      refine GO.icmp_gt (tgt := 50) dX12_isRectangle_28 (by decide) ⟨by omega, by omega⟩ ⟨by omega, by omega⟩ (fun c19 => ?_) (fun c19 => ?_)
      ·
        refine GO.iconst dX12_isRectangle_50 ?_
        exact GO.retz rfl rfl dX12_isRectangle_51 (Or.inl rfl) ⟨rfl, rfl, _, rfl, (ir_c rfl), ⟨Or.inl rfl, fun h => absurd rfl h, fun _ => trivial, (by first | exact RCT.n1 rw2 (by assumption) rfl | exact RCT.n2 rw10 (by assumption) rfl | exact RCT.m3 rw2 rw10 (by omega) rfl | exact RCT.m4 rw2 rw10 (by omega) rfl | exact RCT.my rw2 rw10 (by assumption) (by assumption) (by omega) (by omega) (by decide))⟩⟩
      ·
        refine GO.iload_n dX12_isRectangle_31 rfl rfl ?_
        refine GO.aload_n dX12_isRectangle_32 rfl rfl ?_
        refine GO.getI h_x fl_RX12_365 rfl rfl dX12_isRectangle_33 (fun l20 u21 => ?_)
        refine GO.idivP dX12_isRectangle_36 r_p0 vi_ir (by omega) (by omega) ?_
        have m22 := div_rng (a := p0) (b := vi V x 0) (by omega) (by omega)
        refine GO.iload_n dX12_isRectangle_37 rfl rfl ?_
        refine GO.aload_n dX12_isRectangle_38 rfl rfl ?_
        refine GO.getI h_x fl_RX12_365 rfl rfl dX12_isRectangle_39 (fun l23 u24 => ?_)
        refine GO.idivP dX12_isRectangle_42 r_p1 vi_ir (by omega) (by omega) ?_
        have m25 := div_rng (a := p1) (b := vi V x 0) (by omega) (by omega)
        refine GO.icmp_gt (tgt := 50) dX12_isRectangle_43 (by decide) ⟨by omega, by omega⟩ ⟨by omega, by omega⟩ (fun c26 => ?_) (fun c26 => ?_)
        ·
          refine GO.iconst dX12_isRectangle_50 ?_
          exact GO.retz rfl rfl dX12_isRectangle_51 (Or.inl rfl) ⟨rfl, rfl, _, rfl, (ir_c rfl), ⟨Or.inl rfl, fun h => absurd rfl h, fun _ => trivial, (by first | exact RCT.n1 rw2 (by assumption) rfl | exact RCT.n2 rw10 (by assumption) rfl | exact RCT.m3 rw2 rw10 (by omega) rfl | exact RCT.m4 rw2 rw10 (by omega) rfl | exact RCT.my rw2 rw10 (by assumption) (by assumption) (by omega) (by omega) (by decide))⟩⟩
        ·
          refine GO.iconst dX12_isRectangle_46 ?_
          refine GO.goto (tgt := 51) dX12_isRectangle_47 (by decide) ?_
          exact GO.retz rfl rfl dX12_isRectangle_51 (Or.inr rfl) ⟨rfl, rfl, _, rfl, (ir_c rfl), ⟨Or.inr rfl, fun h => by omega, fun _ => trivial, (by first | exact RCT.n1 rw2 (by assumption) rfl | exact RCT.n2 rw10 (by assumption) rfl | exact RCT.m3 rw2 rw10 (by omega) rfl | exact RCT.m4 rw2 rw10 (by omega) rfl | exact RCT.my rw2 rw10 (by assumption) (by assumption) (by omega) (by omega) (by decide))⟩⟩

set_option maxHeartbeats 1000000 in
theorem t_X12_isIn {K : Kmap} {V : Vmap} {x : Nat} {p0 : Int} {p1 : Int} (h_x : K x = some (0, 11)) (r_p0 : ir p0) (r_p1 : ir p1) (q_0 : p0 ≥ 0) (q_1 : p0 ≤ 143) (q_2 : p1 ≥ 0) (q_3 : p1 ≤ 59) : MC mX12_isIn K V [.ref x, ti p0, ti p1] (IP K V (fun X => (X = 0 ∨ X = 1) ∧ (X ≠ 0 → True) ∧ (X = 0 → True))) := by
  refine MC.start 0 (by decide +kernel) rfl rfl rfl (ls0 := [some (.ref x), some (ti p0), some (ti p1)]) rfl ?_
  refine GO.iload_n dX12_isIn_0 rfl rfl ?_
  refine GO.aload_n dX12_isIn_1 rfl rfl ?_
  refine GO.getI h_x fl_RX12_365 rfl rfl dX12_isIn_2 (fun l1 u2 => ?_)
  have q3 : -2147483648 ≤ p0 ∧ p0 ≤ 2147483647 := r_p0
  refine GO.iremP dX12_isIn_5 r_p0 vi_ir (by omega) (by omega) ?_
  have m4 := rem_rng (a := p0) (b := vi V x 0) (by omega)
  refine GO.aload_n dX12_isIn_6 rfl rfl ?_
  refine GO.getA (n := 60) h_x fl_RX12_41 rfl rfl rfl rfl dX12_isIn_7 (fun hv6 h5 => ?_)
  refine GO.iload_n dX12_isIn_10 rfl rfl ?_
  have q7 : -2147483648 ≤ p1 ∧ p1 ≤ 2147483647 := r_p1
  refine GO.iald (t := 17) rfl rfl h5 r_p1 (by omega) (by omega) dX12_isIn_11 (fun l8 u9 => ?_)
  refine GO.aload_n dX12_isIn_12 rfl rfl ?_
  refine GO.getI h_x fl_RX12_365 rfl rfl dX12_isIn_13 (fun l10 u11 => ?_)
  refine GO.iremP dX12_isIn_16 vi_ir vi_ir (by omega) (by omega) ?_
  have m12 := rem_rng (a := vi V (vq V x 15) (p1).toNat) (b := vi V x 0) (by omega)
  refine GO.aload_n dX12_isIn_17 rfl rfl ?_
  refine GO.getA (n := 60) h_x fl_RX12_44 rfl rfl rfl rfl dX12_isIn_18 (fun hv14 h13 => ?_)
  refine GO.iload_n dX12_isIn_21 rfl rfl ?_
  refine GO.iald (t := 18) rfl rfl h13 r_p1 (by omega) (by omega) dX12_isIn_22 (fun l15 u16 => ?_)
  refine GO.aload_n dX12_isIn_23 rfl rfl ?_
  refine GO.getI h_x fl_RX12_365 rfl rfl dX12_isIn_24 (fun l17 u18 => ?_)
  refine GO.irem dX12_isIn_27 vi_ir (by omega) ?_
  refine GO.callS (N := mX12_in) dX12_isIn_28 gS_RX12_371 (t_X12_in ⟨by omega, by omega⟩ ⟨by omega, by omega⟩ wrem_ir) rfl [] rfl rfl (Nat.le_of_ble_eq_true rfl) rfl (k_ip fun X19 r20 h21 => ?_)
  have raw_in := h21.2.2.2
  have rw28 := h21.2.2.2
  refine GO.if_eq (tgt := 72) dX12_isIn_31 (by decide) r20 (fun c22 => ?_) (fun c22 => ?_)
  ·
    have q23 := h21.2.2.1 (by omega)
    refine GO.iconst dX12_isIn_72 ?_
    exact GO.retz rfl rfl dX12_isIn_73 (Or.inl rfl) ⟨rfl, rfl, _, rfl, (ir_c rfl), ⟨Or.inl rfl, fun _ => trivial, fun _ => trivial⟩⟩
  ·
    have q24 := h21.2.1 (by omega)
    refine GO.iload_n dX12_isIn_34 rfl rfl ?_
    refine GO.aload_n dX12_isIn_35 rfl rfl ?_
    refine GO.getI h_x fl_RX12_365 rfl rfl dX12_isIn_36 (fun l25 u26 => ?_)
    have q27 : -2147483648 ≤ wrem (vi V (vq V x 16) (p1).toNat) (vi V x 0) ∧ wrem (vi V (vq V x 16) (p1).toNat) (vi V x 0) ≤ 2147483647 := wrem_ir
    refine GO.idivP dX12_isIn_39 r_p0 vi_ir (by omega) (by omega) ?_
    have m28 := div_rng (a := p0) (b := vi V x 0) (by omega) (by omega)
    refine GO.aload_n dX12_isIn_40 rfl rfl ?_
    refine GO.getRaw h_x fl_RX12_41 hv6 dX12_isIn_41 ?_
    refine GO.iload_n dX12_isIn_44 rfl rfl ?_
    refine GO.iald (t := 17) rfl rfl h5 r_p1 (by omega) (by omega) dX12_isIn_45 (fun l31 u32 => ?_)
    refine GO.aload_n dX12_isIn_46 rfl rfl ?_
    refine GO.getI h_x fl_RX12_365 rfl rfl dX12_isIn_47 (fun l33 u34 => ?_)
    refine GO.idivP dX12_isIn_50 vi_ir vi_ir (by omega) (by omega) ?_
    have m35 := div_rng (a := vi V (vq V x 15) (p1).toNat) (b := vi V x 0) (by omega) (by omega)
    refine GO.aload_n dX12_isIn_51 rfl rfl ?_
    refine GO.getRaw h_x fl_RX12_44 hv14 dX12_isIn_52 ?_
    refine GO.iload_n dX12_isIn_55 rfl rfl ?_
    refine GO.iald (t := 18) rfl rfl h13 r_p1 (by omega) (by omega) dX12_isIn_56 (fun l38 u39 => ?_)
    refine GO.aload_n dX12_isIn_57 rfl rfl ?_
    refine GO.getI h_x fl_RX12_365 rfl rfl dX12_isIn_58 (fun l40 u41 => ?_)
    refine GO.idiv dX12_isIn_61 vi_ir (by omega) ?_
    refine GO.callS (N := mX12_in) dX12_isIn_62 gS_RX12_371 (t_X12_in ⟨by omega, by omega⟩ ⟨by omega, by omega⟩ wdiv_ir) rfl [] rfl rfl (Nat.le_of_ble_eq_true rfl) rfl (k_ip fun X42 r43 h44 => ?_)
    have raw_in := h44.2.2.2
    have rw62 := h44.2.2.2
    refine GO.if_eq (tgt := 72) dX12_isIn_65 (by decide) r43 (fun c45 => ?_) (fun c45 => ?_)
    ·
      have q46 := h44.2.2.1 (by omega)
      refine GO.iconst dX12_isIn_72 ?_
      exact GO.retz rfl rfl dX12_isIn_73 (Or.inl rfl) ⟨rfl, rfl, _, rfl, (ir_c rfl), ⟨Or.inl rfl, fun _ => trivial, fun _ => trivial⟩⟩
    ·
      have q47 := h44.2.1 (by omega)
      refine GO.iconst dX12_isIn_68 ?_
      refine GO.goto (tgt := 73) dX12_isIn_69 (by decide) ?_
      exact GO.retz rfl rfl dX12_isIn_73 (Or.inr rfl) ⟨rfl, rfl, _, rfl, (ir_c rfl), ⟨Or.inr rfl, fun _ => trivial, fun _ => trivial⟩⟩
