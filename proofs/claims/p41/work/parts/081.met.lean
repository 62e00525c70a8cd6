def mX4_fill_t125 : MRec := (RX4, cX4_fill, 3, (none : Option Jvm.ClassFile.FieldType), yX4_fill, 0, 0, 0, 0, 161390617380431786853494948250188242145606612051826469551916209783790476376052574664352834580008614464743948248296718336)
def mX4_fill_t126 : MRec := (RX4, cX4_fill, 3, (none : Option Jvm.ClassFile.FieldType), yX4_fill, 0, 0, 0, 0, 322781234760863573706989896500376484291213224103652939103832419567580952752105149328705669160017228929487896496593436672)
def mX4_fill_t127 : MRec := (RX4, cX4_fill, 3, (none : Option Jvm.ClassFile.FieldType), yX4_fill, 0, 0, 0, 0, 645562469521727147413979793000752968582426448207305878207664839135161905504210298657411338320034457858975792993186873344)
def mX4_fill_t128 : MRec := (RX4, cX4_fill, 3, (none : Option Jvm.ClassFile.FieldType), yX4_fill, 0, 0, 0, 0, 1291124939043454294827959586001505937164852896414611756415329678270323811008420597314822676640068915717951585986373746688)
def mX0_lay : MRec := (RX0, cX0_lay, 3, (none : Option Jvm.ClassFile.FieldType), yX0_lay, 1, 22, 0, 0, 2420859260706476802802424223752823632184099180777397043278743146756857145640788619965292518700129216971159223724450775064)
def mX0_isCell : MRec := (RX0, cX0_isCell, 2, (some .boolean), yX0_isCell, 0, 0, 0, 0, 0)
def mX0_isFirm : MRec := (RX0, cX0_isFirm, 3, (some .boolean), yX0_isFirm, 1, 21, 0, 0, 0)
def mX0_rowOf : MRec := (RX0, cX0_rowOf, 2, (some .int), yX0_rowOf, 0, 0, 0, 0, 0)
def mX0_columnOf : MRec := (RX0, cX0_columnOf, 2, (some .int), yX0_columnOf, 0, 0, 0, 0, 0)
def mJ9_abs_0f7a4 : MRec := (RJ9, cJ9_abs_0f7a4, 1, (some .int), yJ9_abs_0f7a4, 0, 0, 0, 0, 0)
def mX0_far : MRec := (RX0, cX0_far, 3, (some .int), yX0_far, 1, 21, 0, 0, 0)
def mX0_isRectangle : MRec := (RX0, cX0_isRectangle, 3, (some .boolean), yX0_isRectangle, 1, 21, 0, 0, 0)
def mX0_isWithin : MRec := (RX0, cX0_isWithin, 4, (some .boolean), yX0_isWithin, 2, 43, 0, 0, 0)
def mX0_beside : MRec := (RX0, cX0_beside, 6, (some .int), yX0_beside, 1, 21, 0, 0, 0)
def mX0_isNearSea : MRec := (RX0, cX0_isNearSea, 4, (some .boolean), yX0_isNearSea, 2, 46, 0, 0, 0)
def mX0_isDark : MRec := (RX0, cX0_isDark, 3, (some .boolean), yX0_isDark, 0, 0, 0, 0, 0)
def mX0_coverOn : MRec := (RX0, cX0_coverOn, 3, (some .int), yX0_coverOn, 1, 21, 0, 0, 0)
def mX0_carries : MRec := (RX0, cX0_carries, 4, (some .boolean), yX0_carries, 1, 21, 0, 0, 0)
def mX4_fill_t129 : MRec := (RX4, cX4_fill, 3, (none : Option Jvm.ClassFile.FieldType), yX4_fill, 0, 0, 0, 0, 2582249878086908589655919172003011874329705792829223512830659356540647622016841194629645353280137831435903171972747493376)
def mX4_fill_t130 : MRec := (RX4, cX4_fill, 3, (none : Option Jvm.ClassFile.FieldType), yX4_fill, 0, 0, 0, 0, 5164499756173817179311838344006023748659411585658447025661318713081295244033682389259290706560275662871806343945494986752)
def mX4_put_t129 : MRec := (RX4, cX4_put, 3, (none : Option Jvm.ClassFile.FieldType), yX4_put, 0, 0, 0, 0, 2582249878086908589655919172003011874329705792829223512830659356540647622016841194629645353280137831435903171972747493376)
set_option maxHeartbeats 1000000 in
theorem t_X4_fill_t125 {K : Kmap} {V : Vmap} {p0 n_p0 : Nat} {p1 : Int} (h_p0 : K p0 = some (126, n_p0)) (r_p1 : ir p1) : MC mX4_fill_t125 K V [.ref p0, ti p1] (VS K (fun V1 => (True) ∧ (FLL V V1 p0 n_p0 p1))) := by
  refine MC.start 1 (by decide +kernel) rfl rfl rfl (ls0 := [some (.ref p0), some (ti p1), none]) rfl ?_
  refine GO.aload_n dX4_fill_0 rfl rfl ?_
  refine GO.ifnonnull (tgt := 5) dX4_fill_1 (by decide) ?_
  refine GO.iconst dX4_fill_5 ?_
  refine GO.istore_n (ls1 := [some (.ref p0), some (ti p1), some (ti 0)]) dX4_fill_6 rfl rfl rfl ?_
  refine GO.loop1 (fun i1 W => 0 ≤ i1 ∧ i1 ≤ 5000 ∧ (FLI V W p0 p1 i1) ∧ True) (fun i1 => [some (.ref p0), some (ti p1), some (ti i1)]) (fun i1 W => (2147483647 - i1).toNat) 0 ⟨by omega, by omega, (by first | exact FLI.beg), trivial⟩ rfl (fun i1 Wi1 hp39 ih38 => ?_)
  obtain ⟨l_i1, u_i1, hfl, -⟩ := hp39
  have r_i1 : ir i1 := ⟨by omega, by omega⟩
  show GO mX4_fill_t125 K V (VS K (fun V1 => (True) ∧ (FLL V V1 p0 n_p0 p1))) K Wi1 0 0 7 [some (.ref p0), some (ti p1), some (ti i1)] []
  refine GO.iload_n dX4_fill_7 rfl rfl ?_
  refine GO.aload_n dX4_fill_8 rfl rfl ?_
  refine GO.alen h_p0 dX4_fill_9 (fun h40 => ?_)
  refine GO.icmp_ge (tgt := 23) dX4_fill_10 (by decide) r_i1 ⟨by omega, by omega⟩ (fun c41 => ?_) (fun c41 => ?_)
  ·
    exact GO.retv rfl rfl dX4_fill_23 ⟨rfl, rfl, ⟨trivial, FLI.end hfl (by omega)⟩⟩
  ·
    refine GO.aload_n dX4_fill_13 rfl rfl ?_
    refine GO.iload_n dX4_fill_14 rfl rfl ?_
    refine GO.iload_n dX4_fill_15 rfl rfl ?_
    refine GO.iast (t := 125) rfl rfl (by decide +kernel) h_p0 r_i1 (by omega) (by omega) r_p1 (r_p1).1 (r_p1).2 dX4_fill_16 (fun V43 e42 => ?_)
    refine GO.iinc (X := i1) (n := 1) (Y := i1 + 1) (ls1 := [some (.ref p0), some (ti p1), some (ti (i1 + 1))]) dX4_fill_17 rfl rfl rfl rfl ?_
    refine GO.goto (tgt := 7) dX4_fill_20 (by decide) ?_
    exact ih38 (i1 + 1) V43 ⟨by omega, by omega, (by first | exact FLI.beg | exact FLI.step hfl (by assumption) (by assumption) (by omega) (by omega)), trivial⟩ (by show (2147483647 - (i1 + 1)).toNat < (2147483647 - i1).toNat; omega)

set_option maxHeartbeats 1000000 in
theorem t_X4_fill_t126 {K : Kmap} {V : Vmap} {p0 n_p0 : Nat} {p1 : Int} (h_p0 : K p0 = some (127, n_p0)) (r_p1 : ir p1) : MC mX4_fill_t126 K V [.ref p0, ti p1] (VS K (fun V1 => (True) ∧ (FLL V V1 p0 n_p0 p1))) := by
  refine MC.start 1 (by decide +kernel) rfl rfl rfl (ls0 := [some (.ref p0), some (ti p1), none]) rfl ?_
  refine GO.aload_n dX4_fill_0 rfl rfl ?_
  refine GO.ifnonnull (tgt := 5) dX4_fill_1 (by decide) ?_
  refine GO.iconst dX4_fill_5 ?_
  refine GO.istore_n (ls1 := [some (.ref p0), some (ti p1), some (ti 0)]) dX4_fill_6 rfl rfl rfl ?_
  refine GO.loop1 (fun i1 W => 0 ≤ i1 ∧ i1 ≤ 5000 ∧ (FLI V W p0 p1 i1) ∧ True) (fun i1 => [some (.ref p0), some (ti p1), some (ti i1)]) (fun i1 W => (2147483647 - i1).toNat) 0 ⟨by omega, by omega, (by first | exact FLI.beg), trivial⟩ rfl (fun i1 Wi1 hp39 ih38 => ?_)
  obtain ⟨l_i1, u_i1, hfl, -⟩ := hp39
  have r_i1 : ir i1 := ⟨by omega, by omega⟩
  show GO mX4_fill_t126 K V (VS K (fun V1 => (True) ∧ (FLL V V1 p0 n_p0 p1))) K Wi1 0 0 7 [some (.ref p0), some (ti p1), some (ti i1)] []
  refine GO.iload_n dX4_fill_7 rfl rfl ?_
  refine GO.aload_n dX4_fill_8 rfl rfl ?_
  refine GO.alen h_p0 dX4_fill_9 (fun h40 => ?_)
  refine GO.icmp_ge (tgt := 23) dX4_fill_10 (by decide) r_i1 ⟨by omega, by omega⟩ (fun c41 => ?_) (fun c41 => ?_)
  ·
    exact GO.retv rfl rfl dX4_fill_23 ⟨rfl, rfl, ⟨trivial, FLI.end hfl (by omega)⟩⟩
  ·
    refine GO.aload_n dX4_fill_13 rfl rfl ?_
    refine GO.iload_n dX4_fill_14 rfl rfl ?_
    refine GO.iload_n dX4_fill_15 rfl rfl ?_
    refine GO.iast (t := 126) rfl rfl (by decide +kernel) h_p0 r_i1 (by omega) (by omega) r_p1 (r_p1).1 (r_p1).2 dX4_fill_16 (fun V43 e42 => ?_)
    refine GO.iinc (X := i1) (n := 1) (Y := i1 + 1) (ls1 := [some (.ref p0), some (ti p1), some (ti (i1 + 1))]) dX4_fill_17 rfl rfl rfl rfl ?_
    refine GO.goto (tgt := 7) dX4_fill_20 (by decide) ?_
    exact ih38 (i1 + 1) V43 ⟨by omega, by omega, (by first | exact FLI.beg | exact FLI.step hfl (by assumption) (by assumption) (by omega) (by omega)), trivial⟩ (by show (2147483647 - (i1 + 1)).toNat < (2147483647 - i1).toNat; omega)

set_option maxHeartbeats 1000000 in
theorem t_X4_fill_t127 {K : Kmap} {V : Vmap} {p0 n_p0 : Nat} {p1 : Int} (h_p0 : K p0 = some (128, n_p0)) (r_p1 : ir p1) : MC mX4_fill_t127 K V [.ref p0, ti p1] (VS K (fun V1 => (True) ∧ (FLL V V1 p0 n_p0 p1))) := by
  refine MC.start 1 (by decide +kernel) rfl rfl rfl (ls0 := [some (.ref p0), some (ti p1), none]) rfl ?_
  refine GO.aload_n dX4_fill_0 rfl rfl ?_
  refine GO.ifnonnull (tgt := 5) dX4_fill_1 (by decide) ?_
  refine GO.iconst dX4_fill_5 ?_
  refine GO.istore_n (ls1 := [some (.ref p0), some (ti p1), some (ti 0)]) dX4_fill_6 rfl rfl rfl ?_
  refine GO.loop1 (fun i1 W => 0 ≤ i1 ∧ i1 ≤ 5000 ∧ (FLI V W p0 p1 i1) ∧ True) (fun i1 => [some (.ref p0), some (ti p1), some (ti i1)]) (fun i1 W => (2147483647 - i1).toNat) 0 ⟨by omega, by omega, (by first | exact FLI.beg), trivial⟩ rfl (fun i1 Wi1 hp39 ih38 => ?_)
  obtain ⟨l_i1, u_i1, hfl, -⟩ := hp39
  have r_i1 : ir i1 := ⟨by omega, by omega⟩
  show GO mX4_fill_t127 K V (VS K (fun V1 => (True) ∧ (FLL V V1 p0 n_p0 p1))) K Wi1 0 0 7 [some (.ref p0), some (ti p1), some (ti i1)] []
  refine GO.iload_n dX4_fill_7 rfl rfl ?_
  refine GO.aload_n dX4_fill_8 rfl rfl ?_
  refine GO.alen h_p0 dX4_fill_9 (fun h40 => ?_)
  refine GO.icmp_ge (tgt := 23) dX4_fill_10 (by decide) r_i1 ⟨by omega, by omega⟩ (fun c41 => ?_) (fun c41 => ?_)
  ·
    exact GO.retv rfl rfl dX4_fill_23 ⟨rfl, rfl, ⟨trivial, FLI.end hfl (by omega)⟩⟩
  ·
    refine GO.aload_n dX4_fill_13 rfl rfl ?_
    refine GO.iload_n dX4_fill_14 rfl rfl ?_
    refine GO.iload_n dX4_fill_15 rfl rfl ?_
    refine GO.iast (t := 127) rfl rfl (by decide +kernel) h_p0 r_i1 (by omega) (by omega) r_p1 (r_p1).1 (r_p1).2 dX4_fill_16 (fun V43 e42 => ?_)
    refine GO.iinc (X := i1) (n := 1) (Y := i1 + 1) (ls1 := [some (.ref p0), some (ti p1), some (ti (i1 + 1))]) dX4_fill_17 rfl rfl rfl rfl ?_
    refine GO.goto (tgt := 7) dX4_fill_20 (by decide) ?_
    exact ih38 (i1 + 1) V43 ⟨by omega, by omega, (by first | exact FLI.beg | exact FLI.step hfl (by assumption) (by assumption) (by omega) (by omega)), trivial⟩ (by show (2147483647 - (i1 + 1)).toNat < (2147483647 - i1).toNat; omega)

set_option maxHeartbeats 1000000 in
theorem t_X4_fill_t128 {K : Kmap} {V : Vmap} {p0 n_p0 : Nat} {p1 : Int} (h_p0 : K p0 = some (129, n_p0)) (r_p1 : ir p1) : MC mX4_fill_t128 K V [.ref p0, ti p1] (VS K (fun V1 => (True) ∧ (FLL V V1 p0 n_p0 p1))) := by
  refine MC.start 1 (by decide +kernel) rfl rfl rfl (ls0 := [some (.ref p0), some (ti p1), none]) rfl ?_
  refine GO.aload_n dX4_fill_0 rfl rfl ?_
  refine GO.ifnonnull (tgt := 5) dX4_fill_1 (by decide) ?_
  refine GO.iconst dX4_fill_5 ?_
  refine GO.istore_n (ls1 := [some (.ref p0), some (ti p1), some (ti 0)]) dX4_fill_6 rfl rfl rfl ?_
  refine GO.loop1 (fun i1 W => 0 ≤ i1 ∧ i1 ≤ 5000 ∧ (FLI V W p0 p1 i1) ∧ True) (fun i1 => [some (.ref p0), some (ti p1), some (ti i1)]) (fun i1 W => (2147483647 - i1).toNat) 0 ⟨by omega, by omega, (by first | exact FLI.beg), trivial⟩ rfl (fun i1 Wi1 hp39 ih38 => ?_)
  obtain ⟨l_i1, u_i1, hfl, -⟩ := hp39
  have r_i1 : ir i1 := ⟨by omega, by omega⟩
  show GO mX4_fill_t128 K V (VS K (fun V1 => (True) ∧ (FLL V V1 p0 n_p0 p1))) K Wi1 0 0 7 [some (.ref p0), some (ti p1), some (ti i1)] []
  refine GO.iload_n dX4_fill_7 rfl rfl ?_
  refine GO.aload_n dX4_fill_8 rfl rfl ?_
  refine GO.alen h_p0 dX4_fill_9 (fun h40 => ?_)
  refine GO.icmp_ge (tgt := 23) dX4_fill_10 (by decide) r_i1 ⟨by omega, by omega⟩ (fun c41 => ?_) (fun c41 => ?_)
  ·
    exact GO.retv rfl rfl dX4_fill_23 ⟨rfl, rfl, ⟨trivial, FLI.end hfl (by omega)⟩⟩
  ·
    refine GO.aload_n dX4_fill_13 rfl rfl ?_
    refine GO.iload_n dX4_fill_14 rfl rfl ?_
    refine GO.iload_n dX4_fill_15 rfl rfl ?_
    refine GO.iast (t := 128) rfl rfl (by decide +kernel) h_p0 r_i1 (by omega) (by omega) r_p1 (r_p1).1 (r_p1).2 dX4_fill_16 (fun V43 e42 => ?_)
    refine GO.iinc (X := i1) (n := 1) (Y := i1 + 1) (ls1 := [some (.ref p0), some (ti p1), some (ti (i1 + 1))]) dX4_fill_17 rfl rfl rfl rfl ?_
    refine GO.goto (tgt := 7) dX4_fill_20 (by decide) ?_
    exact ih38 (i1 + 1) V43 ⟨by omega, by omega, (by first | exact FLI.beg | exact FLI.step hfl (by assumption) (by assumption) (by omega) (by omega)), trivial⟩ (by show (2147483647 - (i1 + 1)).toNat < (2147483647 - i1).toNat; omega)

set_option maxHeartbeats 1000000 in
theorem t_X0_lay {K : Kmap} {V : Vmap} {x : Nat} {p0 : Int} {p1 : Int} (h_x : K x = some (0, 0)) (r_p0 : ir p0) (r_p1 : ir p1) (q_0 : p0 ≥ 4) (q_1 : p0 ≤ 12) (q_2 : p1 ≥ 4) (q_3 : p1 ≤ 12) : MC mX0_lay K V [.ref x, ti p0, ti p1] (VS K (fun V1 => (True) ∧ (LAY V V1 x p0 p1))) := by
  refine MC.start 0 (by decide +kernel) rfl rfl rfl (ls0 := [some (.ref x), some (ti p0), some (ti p1)]) rfl ?_
  refine GO.aload_n dX0_lay_0 rfl rfl ?_
  refine GO.iload_n dX0_lay_1 rfl rfl ?_
  have q2 : -2147483648 ≤ p0 ∧ p0 ≤ 2147483647 := r_p0
  refine GO.putI h_x fp_RX0_21 rfl (by decide +kernel) r_p0 (by omega) (by omega) dX0_lay_2 (fun V3 e1 => ?_)
  refine GO.aload_n dX0_lay_5 rfl rfl ?_
  refine GO.iload_n dX0_lay_6 rfl rfl ?_
  have q5 : -2147483648 ≤ p1 ∧ p1 ≤ 2147483647 := r_p1
  refine GO.putI h_x fp_RX0_24 rfl (by decide +kernel) r_p1 (by omega) (by omega) dX0_lay_7 (fun V6 e4 => ?_)
  refine GO.aload_n dX0_lay_10 rfl rfl ?_
  refine GO.getA (n := 144) h_x fl_RX0_27 rfl rfl rfl rfl dX0_lay_11 (fun hv8 h7 => ?_)
  refine GO.iconst dX0_lay_14 ?_
  refine GO.callS (N := mX4_fill_t125) dX0_lay_15 gS_RX0_52 (t_X4_fill_t125 h7 (ir_c rfl)) rfl [] rfl rfl (Nat.le_of_ble_eq_true rfl) rfl (k_vs fun V11 h10 hF9 => ?_)
  have raw_fill := h10.2
  have rw15 := h10.2
  refine GO.aload_n dX0_lay_18 rfl rfl ?_
  refine GO.getA (n := 144) h_x fl_RX0_31 rfl rfl rfl rfl dX0_lay_19 (fun hv13 h12 => ?_)
  refine GO.iconst dX0_lay_22 ?_
  refine GO.callS (N := mX4_fill_t126) dX0_lay_23 gS_RX0_52 (t_X4_fill_t126 h12 (ir_c rfl)) rfl [] rfl rfl (Nat.le_of_ble_eq_true rfl) rfl (k_vs fun V16 h15 hF14 => ?_)
  have raw_fill := h15.2
  have rw23 := h15.2
  refine GO.aload_n dX0_lay_26 rfl rfl ?_
  refine GO.getA (n := 144) h_x fl_RX0_34 rfl rfl rfl rfl dX0_lay_27 (fun hv18 h17 => ?_)
  refine GO.iconst dX0_lay_30 ?_
  refine GO.callS (N := mX4_fill_t127) dX0_lay_31 gS_RX0_52 (t_X4_fill_t127 h17 (ir_c rfl)) rfl [] rfl rfl (Nat.le_of_ble_eq_true rfl) rfl (k_vs fun V21 h20 hF19 => ?_)
  have raw_fill := h20.2
  have rw31 := h20.2
  refine GO.aload_n dX0_lay_34 rfl rfl ?_
  refine GO.getA (n := 144) h_x fl_RX0_37 rfl rfl rfl rfl dX0_lay_35 (fun hv23 h22 => ?_)
  refine GO.iconst dX0_lay_38 ?_
  refine GO.callS (N := mX4_fill_t128) dX0_lay_39 gS_RX0_52 (t_X4_fill_t128 h22 (ir_c rfl)) rfl [] rfl rfl (Nat.le_of_ble_eq_true rfl) rfl (k_vs fun V26 h25 hF24 => ?_)
  have raw_fill := h25.2
  have rw39 := h25.2
  exact GO.retv rfl rfl dX0_lay_42 ⟨rfl, rfl, ⟨trivial, LAY.mk h_x r_p0 r_p1 e1 e4 (by assumption) rw15 (by assumption) rw23 (by assumption) rw31 (by assumption) rw39⟩⟩

set_option maxHeartbeats 1000000 in
theorem t_X0_isCell {K : Kmap} {V : Vmap} {x : Nat} {p0 : Int} (h_x : K x = some (0, 0)) (r_p0 : ir p0) : MC mX0_isCell K V [.ref x, ti p0] (IP K V (fun X => (X = 0 ∨ X = 1) ∧ (X ≠ 0 → True) ∧ (X = 0 → True) ∧ (X ≠ 0 ↔ (0 ≤ p0 ∧ p0 < (vi V x 3) * (vi V x 4))))) := by
  refine MC.start 0 (by decide +kernel) rfl rfl rfl (ls0 := [some (.ref x), some (ti p0)]) rfl ?_
  refine GO.iload_n dX0_isCell_0 rfl rfl ?_
  refine GO.if_lt (tgt := 21) dX0_isCell_1 (by decide) r_p0 (fun c1 => ?_) (fun c1 => ?_)
  ·
    refine GO.iconst dX0_isCell_21 ?_
    exact GO.retz rfl rfl dX0_isCell_22 (Or.inl rfl) ⟨rfl, rfl, _, rfl, (ir_c rfl), ⟨Or.inl rfl, fun _ => trivial, fun _ => trivial, (by constructor <;> intro _ <;> omega)⟩⟩
  ·
    refine GO.iload_n dX0_isCell_4 rfl rfl ?_
    refine GO.aload_n dX0_isCell_5 rfl rfl ?_
    refine GO.getI h_x fl_RX0_21 rfl rfl dX0_isCell_6 (fun l2 u3 => ?_)
    refine GO.aload_n dX0_isCell_9 rfl rfl ?_
    refine GO.getI h_x fl_RX0_24 rfl rfl dX0_isCell_10 (fun l4 u5 => ?_)
    refine GO.imul dX0_isCell_13 ?_
    have m6 := mul_rng (a := vi V x 3) (b := vi V x 4) (A := 12) (B := 12) (by omega) (by omega) (by omega) (by omega)
    have m7 := mul_low (a := vi V x 3) (b := vi V x 4) (m := 4) (n := 4) (by omega) (by omega) (by omega) (by omega)
    refine GO.icmp_ge (tgt := 21) dX0_isCell_14 (by decide) r_p0 ⟨by omega, by omega⟩ (fun c8 => ?_) (fun c8 => ?_)
    ·
      refine GO.iconst dX0_isCell_21 ?_
      exact GO.retz rfl rfl dX0_isCell_22 (Or.inl rfl) ⟨rfl, rfl, _, rfl, (ir_c rfl), ⟨Or.inl rfl, fun _ => trivial, fun _ => trivial, (by constructor <;> intro _ <;> omega)⟩⟩
    ·
      refine GO.iconst dX0_isCell_17 ?_
      refine GO.goto (tgt := 22) dX0_isCell_18 (by decide) ?_
      exact GO.retz rfl rfl dX0_isCell_22 (Or.inr rfl) ⟨rfl, rfl, _, rfl, (ir_c rfl), ⟨Or.inr rfl, fun _ => trivial, fun _ => trivial, (by constructor <;> intro _ <;> omega)⟩⟩

set_option maxHeartbeats 1000000 in
theorem t_X0_isFirm {K : Kmap} {V : Vmap} {x : Nat} {p0 : Int} (h_x : K x = some (0, 0)) (r_p0 : ir p0) : MC mX0_isFirm K V [.ref x, ti p0] (IP K V (fun X => (X = 0 ∨ X = 1) ∧ (X ≠ 0 → True) ∧ (X = 0 → True) ∧ (X ≠ 0 ↔ (0 ≤ p0 ∧ p0 < (vi V x 3) * (vi V x 4)) ∧ ((rgv V (vq V x 6) 144) p0 = 0 ∨ (rgv V (vq V x 6) 144) p0 = 1)))) := by
  refine MC.start 1 (by decide +kernel) rfl rfl rfl (ls0 := [some (.ref x), some (ti p0), none]) rfl ?_
  refine GO.aload_n dX0_isFirm_0 rfl rfl ?_
  refine GO.getA (n := 144) h_x fl_RX0_31 rfl rfl rfl rfl dX0_isFirm_1 (fun hv2 h1 => ?_)
  refine GO.iload_n dX0_isFirm_4 rfl rfl ?_
  refine GO.callS (N := mX4_get) dX0_isFirm_5 gS_RX0_58 (t_X4_get rfl h1 r_p0) rfl [] rfl rfl (Nat.le_of_ble_eq_true rfl) rfl (k_ip fun X3 r4 h5 => ?_)
  have raw_get := h5.2
  have rw5 := h5.2
  refine GO.istore_n (ls1 := [some (.ref x), some (ti p0), some (ti X3)]) dX0_isFirm_8 rfl rfl rfl ?_
  refine GO.aload_n dX0_isFirm_9 rfl rfl ?_
  refine GO.iload_n dX0_isFirm_10 rfl rfl ?_
  refine GO.callV (ci := 0) (N := mX0_isCell) dX0_isFirm_11 (RX0, TX0, 13) rfl gV_RX0_62 h_x (t_X0_isCell h_x r_p0) rfl [] rfl rfl (Nat.le_of_ble_eq_true rfl) rfl (k_ip fun X6 r7 h8 => ?_)
  have raw_isCell := h8.2.2.2
  have rw11 := h8.2.2.2
  refine GO.if_eq (tgt := 30) dX0_isFirm_14 (by decide) r7 (fun c9 => ?_) (fun c9 => ?_)
  ·
    refine GO.iconst dX0_isFirm_30 ?_
    exact GO.retz rfl rfl dX0_isFirm_31 (Or.inl rfl) ⟨rfl, rfl, _, rfl, (ir_c rfl), ⟨Or.inl rfl, fun _ => trivial, fun _ => trivial, (by constructor <;> intro _ <;> omega)⟩⟩
  ·
    refine GO.iload_n dX0_isFirm_17 rfl rfl ?_
    refine GO.if_eq (tgt := 26) dX0_isFirm_18 (by decide) r4 (fun c10 => ?_) (fun c10 => ?_)
    ·
      refine GO.iconst dX0_isFirm_26 ?_
      refine GO.goto (tgt := 31) dX0_isFirm_27 (by decide) ?_
      exact GO.retz rfl rfl dX0_isFirm_31 (Or.inr rfl) ⟨rfl, rfl, _, rfl, (ir_c rfl), ⟨Or.inr rfl, fun _ => trivial, fun _ => trivial, (by constructor <;> intro _ <;> omega)⟩⟩
    ·
      refine GO.iload_n dX0_isFirm_21 rfl rfl ?_
      refine GO.iconst dX0_isFirm_22 ?_
      refine GO.icmp_ne (tgt := 30) dX0_isFirm_23 (by decide) r4 (ir_c rfl) (fun c11 => ?_) (fun c11 => ?_)
      ·
        refine GO.iconst dX0_isFirm_30 ?_
        exact GO.retz rfl rfl dX0_isFirm_31 (Or.inl rfl) ⟨rfl, rfl, _, rfl, (ir_c rfl), ⟨Or.inl rfl, fun _ => trivial, fun _ => trivial, (by constructor <;> intro _ <;> omega)⟩⟩
      ·
        refine GO.iconst dX0_isFirm_26 ?_
        refine GO.goto (tgt := 31) dX0_isFirm_27 (by decide) ?_
        exact GO.retz rfl rfl dX0_isFirm_31 (Or.inr rfl) ⟨rfl, rfl, _, rfl, (ir_c rfl), ⟨Or.inr rfl, fun _ => trivial, fun _ => trivial, (by constructor <;> intro _ <;> omega)⟩⟩

set_option maxHeartbeats 1000000 in
theorem t_X0_rowOf {K : Kmap} {V : Vmap} {x : Nat} {p0 : Int} (h_x : K x = some (0, 0)) (r_p0 : ir p0) : MC mX0_rowOf K V [.ref x, ti p0] (IP K V (fun X => (X ≥ (-2147483648) ∧ X ≤ 2147483647) ∧ (0 ≤ p0 → X = p0 / vi V x 3))) := by
  refine MC.start 0 (by decide +kernel) rfl rfl rfl (ls0 := [some (.ref x), some (ti p0)]) rfl ?_
  refine GO.aload_n dX0_rowOf_0 rfl rfl ?_
  refine GO.getI h_x fl_RX0_21 rfl rfl dX0_rowOf_1 (fun l1 u2 => ?_)
  refine GO.if_le (tgt := 16) dX0_rowOf_4 (by decide) vi_ir (fun h => by exfalso; omega) (fun c3 => ?_)
  refine GO.iload_n dX0_rowOf_7 rfl rfl ?_
  refine GO.aload_n dX0_rowOf_8 rfl rfl ?_
  refine GO.getI h_x fl_RX0_21 rfl rfl dX0_rowOf_9 (fun l4 u5 => ?_)
  refine GO.idiv dX0_rowOf_12 vi_ir (by omega) ?_
  refine GO.goto (tgt := 17) dX0_rowOf_13 (by decide) ?_
  have q6 : -2147483648 ≤ wdiv p0 (vi V x 3) ∧ wdiv p0 (vi V x 3) ≤ 2147483647 := wdiv_ir
  exact GO.reti rfl rfl dX0_rowOf_17 ⟨rfl, rfl, _, rfl, wdiv_ir, ⟨(by first | exact trivial | omega), fun h0 => wdiv_p r_p0 vi_ir h0 (by omega)⟩⟩

set_option maxHeartbeats 1000000 in
theorem t_X0_columnOf {K : Kmap} {V : Vmap} {x : Nat} {p0 : Int} (h_x : K x = some (0, 0)) (r_p0 : ir p0) : MC mX0_columnOf K V [.ref x, ti p0] (IP K V (fun X => (X ≥ (-2147483648) ∧ X ≤ 2147483647) ∧ (0 ≤ p0 → X = p0 % vi V x 3))) := by
  refine MC.start 0 (by decide +kernel) rfl rfl rfl (ls0 := [some (.ref x), some (ti p0)]) rfl ?_
  refine GO.aload_n dX0_columnOf_0 rfl rfl ?_
  refine GO.getI h_x fl_RX0_21 rfl rfl dX0_columnOf_1 (fun l1 u2 => ?_)
  refine GO.if_le (tgt := 16) dX0_columnOf_4 (by decide) vi_ir (fun h => by exfalso; omega) (fun c3 => ?_)
  refine GO.iload_n dX0_columnOf_7 rfl rfl ?_
  refine GO.aload_n dX0_columnOf_8 rfl rfl ?_
  refine GO.getI h_x fl_RX0_21 rfl rfl dX0_columnOf_9 (fun l4 u5 => ?_)
  refine GO.irem dX0_columnOf_12 vi_ir (by omega) ?_
  refine GO.goto (tgt := 17) dX0_columnOf_13 (by decide) ?_
  have q6 : -2147483648 ≤ wrem p0 (vi V x 3) ∧ wrem p0 (vi V x 3) ≤ 2147483647 := wrem_ir
  exact GO.reti rfl rfl dX0_columnOf_17 ⟨rfl, rfl, _, rfl, wrem_ir, ⟨(by first | exact trivial | omega), fun h0 => wrem_p r_p0 vi_ir h0 (by omega)⟩⟩

set_option maxHeartbeats 1000000 in
theorem t_J9_abs_0f7a4 {K : Kmap} {V : Vmap} {p0 : Int} (r_p0 : ir p0) : MC mJ9_abs_0f7a4 K V [ti p0] (IP K V (fun X => True)) := by
  refine MC.start 0 (by decide +kernel) rfl rfl rfl (ls0 := [some (ti p0)]) rfl ?_
  refine GO.iload_n dJ9_abs_0f7a4_0 rfl rfl ?_
  refine GO.if_ge (tgt := 9) dJ9_abs_0f7a4_1 (by decide) r_p0 (fun c1 => ?_) (fun c1 => ?_)
  ·
    refine GO.iload_n dJ9_abs_0f7a4_9 rfl rfl ?_
    have q2 : -2147483648 ≤ p0 ∧ p0 ≤ 2147483647 := r_p0
    exact GO.reti rfl rfl dJ9_abs_0f7a4_10 ⟨rfl, rfl, _, rfl, r_p0, trivial⟩
  ·
    refine GO.iload_n dJ9_abs_0f7a4_4 rfl rfl ?_
    refine GO.ineg dJ9_abs_0f7a4_5 ?_
    refine GO.norm (fun z3 r4 hn5 => ?_)
    refine GO.goto (tgt := 10) dJ9_abs_0f7a4_6 (by decide) ?_
    have q6 : -2147483648 ≤ z3 ∧ z3 ≤ 2147483647 := r4
    exact GO.reti rfl rfl dJ9_abs_0f7a4_10 ⟨rfl, rfl, _, rfl, r4, trivial⟩

set_option maxHeartbeats 1000000 in
theorem t_X0_far {K : Kmap} {V : Vmap} {x : Nat} {p0 : Int} {p1 : Int} (h_x : K x = some (0, 0)) (r_p0 : ir p0) (r_p1 : ir p1) : MC mX0_far K V [.ref x, ti p0, ti p1] (IP K V (fun X => True)) := by
  refine MC.start 0 (by decide +kernel) rfl rfl rfl (ls0 := [some (.ref x), some (ti p0), some (ti p1)]) rfl ?_
  refine GO.aload_n dX0_far_0 rfl rfl ?_
  refine GO.iload_n dX0_far_1 rfl rfl ?_
  refine GO.callV (ci := 0) (N := mX0_rowOf) dX0_far_2 (RX0, TX0, 13) rfl gV_RX0_66 h_x (t_X0_rowOf h_x r_p0) rfl [] rfl rfl (Nat.le_of_ble_eq_true rfl) rfl (k_ip fun X1 r2 h3 => ?_)
  have raw_rowOf := h3.2
  have rw2 := h3.2
  refine GO.aload_n dX0_far_5 rfl rfl ?_
  refine GO.iload_n dX0_far_6 rfl rfl ?_
  refine GO.callV (ci := 0) (N := mX0_rowOf) dX0_far_7 (RX0, TX0, 13) rfl gV_RX0_66 h_x (t_X0_rowOf h_x r_p1) rfl [ti X1] rfl rfl (Nat.le_of_ble_eq_true rfl) rfl (k_ip fun X4 r5 h6 => ?_)
  have raw_rowOf := h6.2
  have rw7 := h6.2
  refine GO.isub dX0_far_10 ?_
  refine GO.norm (fun z7 r8 hn9 => ?_)
  refine GO.callS (N := mJ9_abs_0f7a4) dX0_far_11 gS_RX0_70 (t_J9_abs_0f7a4 r8) rfl [] rfl rfl (Nat.le_of_ble_eq_true rfl) rfl (k_ip fun X10 r11 h12 => ?_)
  refine GO.aload_n dX0_far_14 rfl rfl ?_
  refine GO.iload_n dX0_far_15 rfl rfl ?_
  refine GO.callV (ci := 0) (N := mX0_columnOf) dX0_far_16 (RX0, TX0, 13) rfl gV_RX0_75 h_x (t_X0_columnOf h_x r_p0) rfl [ti X10] rfl rfl (Nat.le_of_ble_eq_true rfl) rfl (k_ip fun X13 r14 h15 => ?_)
  have raw_columnOf := h15.2
  have rw16 := h15.2
  refine GO.aload_n dX0_far_19 rfl rfl ?_
  refine GO.iload_n dX0_far_20 rfl rfl ?_
  refine GO.callV (ci := 0) (N := mX0_columnOf) dX0_far_21 (RX0, TX0, 13) rfl gV_RX0_75 h_x (t_X0_columnOf h_x r_p1) rfl [ti X13, ti X10] rfl rfl (Nat.le_of_ble_eq_true rfl) rfl (k_ip fun X16 r17 h18 => ?_)
  have raw_columnOf := h18.2
  have rw21 := h18.2
  refine GO.isub dX0_far_24 ?_
  refine GO.norm (fun z19 r20 hn21 => ?_)
  refine GO.callS (N := mJ9_abs_0f7a4) dX0_far_25 gS_RX0_70 (t_J9_abs_0f7a4 r20) rfl [ti X10] rfl rfl (Nat.le_of_ble_eq_true rfl) rfl (k_ip fun X22 r23 h24 => ?_)
  refine GO.callS (N := mJ9_max_7cf53) dX0_far_28 gS_RX0_78 (t_J9_max_7cf53 r11 r23) rfl [] rfl rfl (Nat.le_of_ble_eq_true rfl) rfl (k_ip fun X25 r26 h27 => ?_)
  have q28 : -2147483648 ≤ X22 ∧ X22 ≤ 2147483647 := r23
  have q29 : -2147483648 ≤ X25 ∧ X25 ≤ 2147483647 := r26
  have q30 : -2147483648 ≤ X10 ∧ X10 ≤ 2147483647 := r11
  exact GO.reti rfl rfl dX0_far_31 ⟨rfl, rfl, _, rfl, r26, trivial⟩

set_option maxHeartbeats 1000000 in
theorem t_X0_isRectangle {K : Kmap} {V : Vmap} {x : Nat} {p0 : Int} {p1 : Int} (h_x : K x = some (0, 0)) (r_p0 : ir p0) (r_p1 : ir p1) : MC mX0_isRectangle K V [.ref x, ti p0, ti p1] (IP K V (fun X => (X = 0 ∨ X = 1) ∧ (X ≠ 0 → True) ∧ (X = 0 → True) ∧ (X ≠ 0 ↔ ((0 ≤ p0 ∧ p0 < (vi V x 3) * (vi V x 4)) ∧ (0 ≤ p1 ∧ p1 < (vi V x 3) * (vi V x 4)) ∧ p0 / (vi V x 3) ≤ p1 / (vi V x 3) ∧ p0 % (vi V x 3) ≤ p1 % (vi V x 3))))) := by
  refine MC.start 0 (by decide +kernel) rfl rfl rfl (ls0 := [some (.ref x), some (ti p0), some (ti p1)]) rfl ?_
  refine GO.aload_n dX0_isRectangle_0 rfl rfl ?_
  refine GO.iload_n dX0_isRectangle_1 rfl rfl ?_
  refine GO.callV (ci := 0) (N := mX0_isCell) dX0_isRectangle_2 (RX0, TX0, 13) rfl gV_RX0_62 h_x (t_X0_isCell h_x r_p0) rfl [] rfl rfl (Nat.le_of_ble_eq_true rfl) rfl (k_ip fun X1 r2 h3 => ?_)
  have raw_isCell := h3.2.2.2
  have rw2 := h3.2.2.2
  refine GO.if_eq (tgt := 46) dX0_isRectangle_5 (by decide) r2 (fun c4 => ?_) (fun c4 => ?_)
  ·
    refine GO.iconst dX0_isRectangle_46 ?_
    exact GO.retz rfl rfl dX0_isRectangle_47 (Or.inl rfl) ⟨rfl, rfl, _, rfl, (ir_c rfl), ⟨Or.inl rfl, fun _ => trivial, fun _ => trivial, (by first | exact RCT.n1 rw2 (by assumption) rfl)⟩⟩
  ·
    refine GO.aload_n dX0_isRectangle_8 rfl rfl ?_
    refine GO.iload_n dX0_isRectangle_9 rfl rfl ?_
    refine GO.callV (ci := 0) (N := mX0_isCell) dX0_isRectangle_10 (RX0, TX0, 13) rfl gV_RX0_62 h_x (t_X0_isCell h_x r_p1) rfl [] rfl rfl (Nat.le_of_ble_eq_true rfl) rfl (k_ip fun X5 r6 h7 => ?_)
    have raw_isCell := h7.2.2.2
    have rw10 := h7.2.2.2
    refine GO.if_eq (tgt := 46) dX0_isRectangle_13 (by decide) r6 (fun c8 => ?_) (fun c8 => ?_)
    ·
      refine GO.iconst dX0_isRectangle_46 ?_
      exact GO.retz rfl rfl dX0_isRectangle_47 (Or.inl rfl) ⟨rfl, rfl, _, rfl, (ir_c rfl), ⟨Or.inl rfl, fun _ => trivial, fun _ => trivial, (by first | exact RCT.n1 rw2 (by assumption) rfl | exact RCT.n2 rw10 (by assumption) rfl)⟩⟩
    ·
      refine GO.aload_n dX0_isRectangle_16 rfl rfl ?_
      refine GO.iload_n dX0_isRectangle_17 rfl rfl ?_
      refine GO.callV (ci := 0) (N := mX0_rowOf) dX0_isRectangle_18 (RX0, TX0, 13) rfl gV_RX0_66 h_x (t_X0_rowOf h_x r_p0) rfl [] rfl rfl (Nat.le_of_ble_eq_true rfl) rfl (k_ip fun X9 r10 h11 => ?_)
      have raw_rowOf := h11.2
      have rw18 := h11.2
      refine GO.aload_n dX0_isRectangle_21 rfl rfl ?_
      refine GO.iload_n dX0_isRectangle_22 rfl rfl ?_
      refine GO.callV (ci := 0) (N := mX0_rowOf) dX0_isRectangle_23 (RX0, TX0, 13) rfl gV_RX0_66 h_x (t_X0_rowOf h_x r_p1) rfl [ti X9] rfl rfl (Nat.le_of_ble_eq_true rfl) rfl (k_ip fun X12 r13 h14 => ?_)
      have raw_rowOf := h14.2
      have rw23 := h14.2
      refine GO.icmp_gt (tgt := 46) dX0_isRectangle_26 (by decide) r10 r13 (fun c15 => ?_) (fun c15 => ?_)
      ·
        refine GO.iconst dX0_isRectangle_46 ?_
        exact GO.retz rfl rfl dX0_isRectangle_47 (Or.inl rfl) ⟨rfl, rfl, _, rfl, (ir_c rfl), ⟨Or.inl rfl, fun _ => trivial, fun _ => trivial, (by first | exact RCT.n1 rw2 (by assumption) rfl | exact RCT.n2 rw10 (by assumption) rfl | exact RCT.n3 rw2 rw10 rw18 rw23 (by assumption) rfl)⟩⟩
      ·
        refine GO.aload_n dX0_isRectangle_29 rfl rfl ?_
        refine GO.iload_n dX0_isRectangle_30 rfl rfl ?_
        refine GO.callV (ci := 0) (N := mX0_columnOf) dX0_isRectangle_31 (RX0, TX0, 13) rfl gV_RX0_75 h_x (t_X0_columnOf h_x r_p0) rfl [] rfl rfl (Nat.le_of_ble_eq_true rfl) rfl (k_ip fun X16 r17 h18 => ?_)
        have raw_columnOf := h18.2
        have rw31 := h18.2
        refine GO.aload_n dX0_isRectangle_34 rfl rfl ?_
        refine GO.iload_n dX0_isRectangle_35 rfl rfl ?_
        refine GO.callV (ci := 0) (N := mX0_columnOf) dX0_isRectangle_36 (RX0, TX0, 13) rfl gV_RX0_75 h_x (t_X0_columnOf h_x r_p1) rfl [ti X16] rfl rfl (Nat.le_of_ble_eq_true rfl) rfl (k_ip fun X19 r20 h21 => ?_)
        have raw_columnOf := h21.2
        have rw36 := h21.2
        refine GO.icmp_gt (tgt := 46) dX0_isRectangle_39 (by decide) r17 r20 (fun c22 => ?_) (fun c22 => ?_)
        ·
          refine GO.iconst dX0_isRectangle_46 ?_
          exact GO.retz rfl rfl dX0_isRectangle_47 (Or.inl rfl) ⟨rfl, rfl, _, rfl, (ir_c rfl), ⟨Or.inl rfl, fun _ => trivial, fun _ => trivial, (by first | exact RCT.n1 rw2 (by assumption) rfl | exact RCT.n2 rw10 (by assumption) rfl | exact RCT.n4 rw2 rw10 rw31 rw36 (by assumption) rfl | exact RCT.n3 rw2 rw10 rw18 rw23 (by assumption) rfl | exact RCT.y rw2 rw10 rw18 rw23 rw31 rw36 (by assumption) (by assumption) (by assumption) (by assumption) (by decide))⟩⟩
        ·
          refine GO.iconst dX0_isRectangle_42 ?_
          refine GO.goto (tgt := 47) dX0_isRectangle_43 (by decide) ?_
          exact GO.retz rfl rfl dX0_isRectangle_47 (Or.inr rfl) ⟨rfl, rfl, _, rfl, (ir_c rfl), ⟨Or.inr rfl, fun _ => trivial, fun _ => trivial, (by first | exact RCT.n1 rw2 (by assumption) rfl | exact RCT.n2 rw10 (by assumption) rfl | exact RCT.n4 rw2 rw10 rw31 rw36 (by assumption) rfl | exact RCT.n3 rw2 rw10 rw18 rw23 (by assumption) rfl | exact RCT.y rw2 rw10 rw18 rw23 rw31 rw36 (by assumption) (by assumption) (by assumption) (by assumption) (by decide))⟩⟩

set_option maxHeartbeats 1000000 in
theorem t_X0_isWithin {K : Kmap} {V : Vmap} {x : Nat} {p0 : Int} {p1 : Int} {p2 : Int} (h_x : K x = some (0, 0)) (r_p0 : ir p0) (r_p1 : ir p1) (r_p2 : ir p2) : MC mX0_isWithin K V [.ref x, ti p0, ti p1, ti p2] (IP K V (fun X => (X = 0 ∨ X = 1) ∧ (X ≠ 0 → True) ∧ (X = 0 → True))) := by
  refine MC.start 0 (by decide +kernel) rfl rfl rfl (ls0 := [some (.ref x), some (ti p0), some (ti p1), some (ti p2)]) rfl ?_
  refine GO.aload_n dX0_isWithin_0 rfl rfl ?_
  refine GO.iload_n dX0_isWithin_1 rfl rfl ?_
  refine GO.iload_n dX0_isWithin_2 rfl rfl ?_
  refine GO.callV (ci := 0) (N := mX0_isRectangle) dX0_isWithin_3 (RX0, TX0, 13) rfl gV_RX0_82 h_x (t_X0_isRectangle h_x r_p1 r_p0) rfl [] rfl rfl (Nat.le_of_ble_eq_true rfl) rfl (k_ip fun X1 r2 h3 => ?_)
  have raw_isRectangle := h3.2.2.2
  have rw3 := h3.2.2.2
  refine GO.if_eq (tgt := 22) dX0_isWithin_6 (by decide) r2 (fun c4 => ?_) (fun c4 => ?_)
  ·
    refine GO.iconst dX0_isWithin_22 ?_
    exact GO.retz rfl rfl dX0_isWithin_23 (Or.inl rfl) ⟨rfl, rfl, _, rfl, (ir_c rfl), ⟨Or.inl rfl, fun _ => trivial, fun _ => trivial⟩⟩
  ·
    refine GO.aload_n dX0_isWithin_9 rfl rfl ?_
    refine GO.iload_n dX0_isWithin_10 rfl rfl ?_
    refine GO.iload_n dX0_isWithin_11 rfl rfl ?_
    refine GO.callV (ci := 0) (N := mX0_isRectangle) dX0_isWithin_12 (RX0, TX0, 13) rfl gV_RX0_82 h_x (t_X0_isRectangle h_x r_p0 r_p2) rfl [] rfl rfl (Nat.le_of_ble_eq_true rfl) rfl (k_ip fun X5 r6 h7 => ?_)
    have raw_isRectangle := h7.2.2.2
    have rw12 := h7.2.2.2
    refine GO.if_eq (tgt := 22) dX0_isWithin_15 (by decide) r6 (fun c8 => ?_) (fun c8 => ?_)
    ·
      refine GO.iconst dX0_isWithin_22 ?_
      exact GO.retz rfl rfl dX0_isWithin_23 (Or.inl rfl) ⟨rfl, rfl, _, rfl, (ir_c rfl), ⟨Or.inl rfl, fun _ => trivial, fun _ => trivial⟩⟩
    ·
      refine GO.iconst dX0_isWithin_18 ?_
      refine GO.goto (tgt := 23) dX0_isWithin_19 (by decide) ?_
      exact GO.retz rfl rfl dX0_isWithin_23 (Or.inr rfl) ⟨rfl, rfl, _, rfl, (ir_c rfl), ⟨Or.inr rfl, fun _ => trivial, fun _ => trivial⟩⟩

set_option maxHeartbeats 1000000 in
theorem t_X0_beside {K : Kmap} {V : Vmap} {x : Nat} {p0 : Int} {p1 : Int} (h_x : K x = some (0, 0)) (r_p0 : ir p0) (r_p1 : ir p1) : MC mX0_beside K V [.ref x, ti p0, ti p1] (IP K V (fun X => (X ≥ (-2147483648) ∧ X ≤ 2147483647) ∧ (BES V x p0 p1 X))) := by
  refine MC.start 3 (by decide +kernel) rfl rfl rfl (ls0 := [some (.ref x), some (ti p0), some (ti p1), none, none, none]) rfl ?_
  refine GO.aload_n dX0_beside_0 rfl rfl ?_
  refine GO.iload_n dX0_beside_1 rfl rfl ?_
  refine GO.callV (ci := 0) (N := mX0_isCell) dX0_beside_2 (RX0, TX0, 13) rfl gV_RX0_62 h_x (t_X0_isCell h_x r_p0) rfl [] rfl rfl (Nat.le_of_ble_eq_true rfl) rfl (k_ip fun X1 r2 h3 => ?_)
  have raw_isCell := h3.2.2.2
  have rw2 := h3.2.2.2
  refine GO.if_eq (tgt := 18) dX0_beside_5 (by decide) r2 (fun c4 => ?_) (fun c4 => ?_)
  ·
    refine GO.iconst dX0_beside_18 ?_
    exact GO.reti rfl rfl dX0_beside_19 ⟨rfl, rfl, _, rfl, (ir_c rfl), ⟨(by first | exact trivial | omega), (by first | exact BES.ng (by omega) rfl | exact BES.nc rw2 (by omega) rfl | exact BES.n8 (by omega))⟩⟩
  ·
    refine GO.iload_n dX0_beside_8 rfl rfl ?_
    refine GO.if_lt (tgt := 18) dX0_beside_9 (by decide) r_p1 (fun c5 => ?_) (fun c5 => ?_)
    ·
      refine GO.iconst dX0_beside_18 ?_
      exact GO.reti rfl rfl dX0_beside_19 ⟨rfl, rfl, _, rfl, (ir_c rfl), ⟨(by first | exact trivial | omega), (by first | exact BES.ng (by omega) rfl | exact BES.nc rw2 (by omega) rfl | exact BES.n8 (by omega))⟩⟩
    ·
      refine GO.iload_n dX0_beside_12 rfl rfl ?_
      refine GO.bipush dX0_beside_13 rfl ?_
      refine GO.icmp_lt (tgt := 20) dX0_beside_15 (by decide) r_p1 (ir_c rfl) (fun c6 => ?_) (fun c6 => ?_)
      ·
        refine GO.aload_n dX0_beside_20 rfl rfl ?_
        refine GO.iload_n dX0_beside_21 rfl rfl ?_
        refine GO.callV (ci := 0) (N := mX0_rowOf) dX0_beside_22 (RX0, TX0, 13) rfl gV_RX0_66 h_x (t_X0_rowOf h_x r_p0) rfl [] rfl rfl (Nat.le_of_ble_eq_true rfl) rfl (k_ip fun X7 r8 h9 => ?_)
        have raw_rowOf := h9.2
        have rw22 := h9.2
        refine GO.stepGet (nm := "ROW_STEPS") dX0_beside_25 dX0_beside_28 dX0_beside_29 (by decide) gw_1121 gS_RX0_58 rfl rfl (Nat.le_of_ble_eq_true rfl) rfl rfl r_p1 (fun z10 r11 sz12 => ?_)
        have st25 := sz12.1 rfl (by omega) (by omega)
        refine GO.iadd dX0_beside_32 ?_
        refine GO.norm (fun z13 r14 hn15 => ?_)
        refine GO.istore_n (ls1 := [some (.ref x), some (ti p0), some (ti p1), some (ti z13), none, none]) dX0_beside_33 rfl rfl rfl ?_
        refine GO.aload_n dX0_beside_34 rfl rfl ?_
        refine GO.iload_n dX0_beside_35 rfl rfl ?_
        refine GO.callV (ci := 0) (N := mX0_columnOf) dX0_beside_36 (RX0, TX0, 13) rfl gV_RX0_75 h_x (t_X0_columnOf h_x r_p0) rfl [] rfl rfl (Nat.le_of_ble_eq_true rfl) rfl (k_ip fun X16 r17 h18 => ?_)
        have raw_columnOf := h18.2
        have rw36 := h18.2
        refine GO.stepGet (nm := "COLUMN_STEPS") dX0_beside_39 dX0_beside_42 dX0_beside_43 (by decide) gw_1123 gS_RX0_58 rfl rfl (Nat.le_of_ble_eq_true rfl) rfl rfl r_p1 (fun z19 r20 sz21 => ?_)
        have st39 := sz21.2 rfl (by omega) (by omega)
        refine GO.iadd dX0_beside_46 ?_
        refine GO.norm (fun z22 r23 hn24 => ?_)
        refine GO.istore (ls1 := [some (.ref x), some (ti p0), some (ti p1), some (ti z13), some (ti z22), none]) dX0_beside_47 rfl rfl ?_
        refine GO.useWT (fun hWb => ?_)
        have hbg := BES.go rw2 (by omega) (by omega) (by omega) r_p0 (hWb.int h_x (j := 3) (Nat.le_of_ble_eq_true rfl) rfl).2 rw22 st25 (by assumption) rw36 st39 (by assumption)
        refine GO.iload_n dX0_beside_49 rfl rfl ?_
        refine GO.if_lt (tgt := 75) dX0_beside_50 (by decide) r14 (fun c25 => ?_) (fun c25 => ?_)
        ·
          refine GO.iconst dX0_beside_75 ?_
          refine GO.goto (tgt := 80) dX0_beside_76 (by decide) ?_
          refine GO.istore (ls1 := [some (.ref x), some (ti p0), some (ti p1), some (ti z13), some (ti z22), some (ti 1)]) dX0_beside_80 rfl rfl ?_
          refine GO.iload dX0_beside_82 rfl ?_
          refine GO.if_eq (tgt := 91) dX0_beside_84 (by decide) (ir_c rfl) (fun h => by exfalso; omega) (fun c26 => ?_)
          refine GO.iconst dX0_beside_87 ?_
          refine GO.goto (tgt := 100) dX0_beside_88 (by decide) ?_
          exact GO.reti rfl rfl dX0_beside_100 ⟨rfl, rfl, _, rfl, (ir_c rfl), ⟨(by first | exact trivial | omega), (by first | exact BES.in hbg ⟨by omega, by omega, by omega, by omega⟩ (by omega) rfl | exact BES.out hbg (by omega) (by omega) rfl | exact BES.ng (by omega) rfl | exact BES.nc rw2 (by omega) rfl | exact BES.n8 (by omega))⟩⟩
        ·
          refine GO.iload_n dX0_beside_53 rfl rfl ?_
          refine GO.aload_n dX0_beside_54 rfl rfl ?_
          refine GO.getI h_x fl_RX0_24 rfl rfl dX0_beside_55 (fun l27 u28 => ?_)
          refine GO.icmp_ge (tgt := 75) dX0_beside_58 (by decide) r14 vi_ir (fun c29 => ?_) (fun c29 => ?_)
          ·
            refine GO.iconst dX0_beside_75 ?_
            refine GO.goto (tgt := 80) dX0_beside_76 (by decide) ?_
            refine GO.istore (ls1 := [some (.ref x), some (ti p0), some (ti p1), some (ti z13), some (ti z22), some (ti 1)]) dX0_beside_80 rfl rfl ?_
            refine GO.iload dX0_beside_82 rfl ?_
            refine GO.if_eq (tgt := 91) dX0_beside_84 (by decide) (ir_c rfl) (fun h => by exfalso; omega) (fun c30 => ?_)
            refine GO.iconst dX0_beside_87 ?_
            refine GO.goto (tgt := 100) dX0_beside_88 (by decide) ?_
            exact GO.reti rfl rfl dX0_beside_100 ⟨rfl, rfl, _, rfl, (ir_c rfl), ⟨(by first | exact trivial | omega), (by first | exact BES.in hbg ⟨by omega, by omega, by omega, by omega⟩ (by omega) rfl | exact BES.out hbg (by omega) (by omega) rfl | exact BES.ng (by omega) rfl | exact BES.nc rw2 (by omega) rfl | exact BES.n8 (by omega))⟩⟩
          ·
            refine GO.iload dX0_beside_61 rfl ?_
            refine GO.if_lt (tgt := 75) dX0_beside_63 (by decide) r23 (fun c31 => ?_) (fun c31 => ?_)
            ·
              refine GO.iconst dX0_beside_75 ?_
              refine GO.goto (tgt := 80) dX0_beside_76 (by decide) ?_
              refine GO.istore (ls1 := [some (.ref x), some (ti p0), some (ti p1), some (ti z13), some (ti z22), some (ti 1)]) dX0_beside_80 rfl rfl ?_
              refine GO.iload dX0_beside_82 rfl ?_
              refine GO.if_eq (tgt := 91) dX0_beside_84 (by decide) (ir_c rfl) (fun h => by exfalso; omega) (fun c32 => ?_)
              refine GO.iconst dX0_beside_87 ?_
              refine GO.goto (tgt := 100) dX0_beside_88 (by decide) ?_
              exact GO.reti rfl rfl dX0_beside_100 ⟨rfl, rfl, _, rfl, (ir_c rfl), ⟨(by first | exact trivial | omega), (by first | exact BES.in hbg ⟨by omega, by omega, by omega, by omega⟩ (by omega) rfl | exact BES.out hbg (by omega) (by omega) rfl | exact BES.ng (by omega) rfl | exact BES.nc rw2 (by omega) rfl | exact BES.n8 (by omega))⟩⟩
            ·
              refine GO.iload dX0_beside_66 rfl ?_
              refine GO.aload_n dX0_beside_68 rfl rfl ?_
              refine GO.getI h_x fl_RX0_21 rfl rfl dX0_beside_69 (fun l33 u34 => ?_)
              refine GO.icmp_lt (tgt := 79) dX0_beside_72 (by decide) r23 vi_ir (fun c35 => ?_) (fun c35 => ?_)
              ·
                refine GO.iconst dX0_beside_79 ?_
                refine GO.istore (ls1 := [some (.ref x), some (ti p0), some (ti p1), some (ti z13), some (ti z22), some (ti 0)]) dX0_beside_80 rfl rfl ?_
                refine GO.iload dX0_beside_82 rfl ?_
                refine GO.if_eq (tgt := 91) dX0_beside_84 (by decide) (ir_c rfl) (fun c36 => ?_) (fun h => by exfalso; omega)
                refine GO.iload_n dX0_beside_91 rfl rfl ?_
                refine GO.aload_n dX0_beside_92 rfl rfl ?_
                refine GO.getI h_x fl_RX0_21 rfl rfl dX0_beside_93 (fun l37 u38 => ?_)
                refine GO.imul dX0_beside_96 ?_
                have q39 : -2147483648 ≤ z22 ∧ z22 ≤ 2147483647 := r23
                have q40 : -2147483648 ≤ z13 ∧ z13 ≤ 2147483647 := r14
                have m41 := mul_rng (a := z13) (b := vi V x 3) (A := 11) (B := 12) (by omega) (by omega) (by omega) (by omega)
                refine GO.iload dX0_beside_97 rfl ?_
                refine GO.iadd dX0_beside_99 ?_
                exact GO.reti rfl rfl dX0_beside_100 ⟨rfl, rfl, _, rfl, ⟨by omega, by omega⟩, ⟨(by first | exact trivial | omega), (by first | exact BES.in hbg ⟨by omega, by omega, by omega, by omega⟩ (by omega) rfl | exact BES.out hbg (by omega) (by omega) rfl | exact BES.ng (by omega) rfl | exact BES.nc rw2 (by omega) rfl | exact BES.n8 (by omega))⟩⟩
              ·
                refine GO.iconst dX0_beside_75 ?_
                refine GO.goto (tgt := 80) dX0_beside_76 (by decide) ?_
                refine GO.istore (ls1 := [some (.ref x), some (ti p0), some (ti p1), some (ti z13), some (ti z22), some (ti 1)]) dX0_beside_80 rfl rfl ?_
                refine GO.iload dX0_beside_82 rfl ?_
                refine GO.if_eq (tgt := 91) dX0_beside_84 (by decide) (ir_c rfl) (fun h => by exfalso; omega) (fun c42 => ?_)
                refine GO.iconst dX0_beside_87 ?_
                refine GO.goto (tgt := 100) dX0_beside_88 (by decide) ?_
                exact GO.reti rfl rfl dX0_beside_100 ⟨rfl, rfl, _, rfl, (ir_c rfl), ⟨(by first | exact trivial | omega), (by first | exact BES.in hbg ⟨by omega, by omega, by omega, by omega⟩ (by omega) rfl | exact BES.out hbg (by omega) (by omega) rfl | exact BES.ng (by omega) rfl | exact BES.nc rw2 (by omega) rfl | exact BES.n8 (by omega))⟩⟩
      ·
        refine GO.iconst dX0_beside_18 ?_
        exact GO.reti rfl rfl dX0_beside_19 ⟨rfl, rfl, _, rfl, (ir_c rfl), ⟨(by first | exact trivial | omega), (by first | exact BES.ng (by omega) rfl | exact BES.nc rw2 (by omega) rfl | exact BES.n8 (by omega))⟩⟩

set_option maxHeartbeats 1000000 in
theorem t_X0_isNearSea {K : Kmap} {V : Vmap} {x : Nat} {p0 : Int} (h_x : K x = some (0, 0)) (r_p0 : ir p0) : MC mX0_isNearSea K V [.ref x, ti p0] (IP K V (fun X => (X = 0 ∨ X = 1) ∧ (X ≠ 0 → True) ∧ (X = 0 → True))) := by
  refine MC.start 2 (by decide +kernel) rfl rfl rfl (ls0 := [some (.ref x), some (ti p0), none, none]) rfl ?_
  refine GO.aload_n dX0_isNearSea_0 rfl rfl ?_
  refine GO.iload_n dX0_isNearSea_1 rfl rfl ?_
  refine GO.callV (ci := 0) (N := mX0_isCell) dX0_isNearSea_2 (RX0, TX0, 13) rfl gV_RX0_62 h_x (t_X0_isCell h_x r_p0) rfl [] rfl rfl (Nat.le_of_ble_eq_true rfl) rfl (k_ip fun X1 r2 h3 => ?_)
  have raw_isCell := h3.2.2.2
  have rw2 := h3.2.2.2
  have hj11 : GO mX0_isNearSea K V (IP K V (fun X => (X = 0 ∨ X = 1) ∧ (X ≠ 0 → True) ∧ (X = 0 → True))) K V 0 0 22 [some (.ref x), some (ti p0), none, none] [] := by
    skip
    refine GO.iconst dX0_isNearSea_22 ?_
    refine GO.istore_n (ls1 := [some (.ref x), some (ti p0), some (ti 0), none]) dX0_isNearSea_23 rfl rfl rfl ?_
    refine GO.loop1 (fun i12 W => 0 ≤ i12 ∧ i12 ≤ 8 ∧ V = W) (fun i12 => [some (.ref x), some (ti p0), some (ti i12), none]) (fun i12 W => (2147483647 - i12).toNat) 0 ⟨by omega, by omega, rfl⟩ rfl (fun i12 V68 hp70 ih69 => ?_)
    obtain ⟨l_i12, u_i12, rfl⟩ := hp70
    have r_i12 : ir i12 := ⟨by omega, by omega⟩
    show GO mX0_isNearSea K V (IP K V (fun X => (X = 0 ∨ X = 1) ∧ (X ≠ 0 → True) ∧ (X = 0 → True))) K V 0 0 24 [some (.ref x), some (ti p0), some (ti i12), none] []
    refine GO.iload_n dX0_isNearSea_24 rfl rfl ?_
    refine GO.bipush dX0_isNearSea_25 rfl ?_
    refine GO.icmp_ge (tgt := 62) dX0_isNearSea_27 (by decide) r_i12 (ir_c rfl) (fun c71 => ?_) (fun c71 => ?_)
    ·
      refine GO.iconst dX0_isNearSea_62 ?_
      exact GO.retz rfl rfl dX0_isNearSea_63 (Or.inl rfl) ⟨rfl, rfl, _, rfl, (ir_c rfl), ⟨Or.inl rfl, fun _ => trivial, fun _ => trivial⟩⟩
    ·
      refine GO.aload_n dX0_isNearSea_30 rfl rfl ?_
      refine GO.iload_n dX0_isNearSea_31 rfl rfl ?_
      refine GO.iload_n dX0_isNearSea_32 rfl rfl ?_
      refine GO.callV (ci := 0) (N := mX0_beside) dX0_isNearSea_33 (RX0, TX0, 13) rfl gV_RX0_92 h_x (t_X0_beside h_x r_p0 r_i12) rfl [] rfl rfl (Nat.le_of_ble_eq_true rfl) rfl (k_ip fun X72 r73 h74 => ?_)
      have raw_beside := h74.2
      have rw33 := h74.2
      refine GO.istore_n (ls1 := [some (.ref x), some (ti p0), some (ti i12), some (ti X72)]) dX0_isNearSea_36 rfl rfl rfl ?_
      refine GO.iload_n dX0_isNearSea_37 rfl rfl ?_
      refine GO.iconst dX0_isNearSea_38 ?_
      refine GO.icmp_eq (tgt := 56) dX0_isNearSea_39 (by decide) r73 (ir_c rfl) (fun c75 => ?_) (fun c75 => ?_)
      ·
        refine GO.iinc (X := i12) (n := 1) (Y := i12 + 1) (ls1 := [some (.ref x), some (ti p0), some (ti (i12 + 1)), some (ti X72)]) dX0_isNearSea_56 rfl rfl rfl rfl ?_
        refine GO.goto (tgt := 24) dX0_isNearSea_59 (by decide) ?_
        refine GO.drop [true, true, true, false] rfl ?_
        exact ih69 (i12 + 1) V ⟨by omega, by omega, rfl⟩ (by show (2147483647 - (i12 + 1)).toNat < (2147483647 - i12).toNat; omega)
      ·
        refine GO.aload_n dX0_isNearSea_42 rfl rfl ?_
        refine GO.getA (n := 144) h_x fl_RX0_31 rfl rfl rfl rfl dX0_isNearSea_43 (fun hv77 h76 => ?_)
        refine GO.iload_n dX0_isNearSea_46 rfl rfl ?_
        refine GO.callS (N := mX4_get) dX0_isNearSea_47 gS_RX0_58 (t_X4_get rfl h76 r73) rfl [] rfl rfl (Nat.le_of_ble_eq_true rfl) rfl (k_ip fun X78 r79 h80 => ?_)
        have raw_get := h80.2
        have rw47 := h80.2
        refine GO.iconst dX0_isNearSea_50 ?_
        refine GO.icmp_ne (tgt := 56) dX0_isNearSea_51 (by decide) r79 (ir_c rfl) (fun c81 => ?_) (fun c81 => ?_)
        ·
          refine GO.iinc (X := i12) (n := 1) (Y := i12 + 1) (ls1 := [some (.ref x), some (ti p0), some (ti (i12 + 1)), some (ti X72)]) dX0_isNearSea_56 rfl rfl rfl rfl ?_
          refine GO.goto (tgt := 24) dX0_isNearSea_59 (by decide) ?_
          refine GO.drop [true, true, true, false] rfl ?_
          exact ih69 (i12 + 1) V ⟨by omega, by omega, rfl⟩ (by show (2147483647 - (i12 + 1)).toNat < (2147483647 - i12).toNat; omega)
        ·
          refine GO.iconst dX0_isNearSea_54 ?_
          exact GO.retz rfl rfl dX0_isNearSea_55 (Or.inr rfl) ⟨rfl, rfl, _, rfl, (ir_c rfl), ⟨Or.inr rfl, fun _ => trivial, fun _ => trivial⟩⟩
  refine GO.if_eq (tgt := 22) dX0_isNearSea_5 (by decide) r2 (fun c82 => ?_) (fun c82 => ?_)
  ·
    exact hj11 
  ·
    refine GO.aload_n dX0_isNearSea_8 rfl rfl ?_
    refine GO.getA (n := 144) h_x fl_RX0_31 rfl rfl rfl rfl dX0_isNearSea_9 (fun hv84 h83 => ?_)
    refine GO.iload_n dX0_isNearSea_12 rfl rfl ?_
    refine GO.callS (N := mX4_get) dX0_isNearSea_13 gS_RX0_58 (t_X4_get rfl h83 r_p0) rfl [] rfl rfl (Nat.le_of_ble_eq_true rfl) rfl (k_ip fun X85 r86 h87 => ?_)
    have raw_get := h87.2
    have rw13 := h87.2
    refine GO.iconst dX0_isNearSea_16 ?_
    refine GO.icmp_ne (tgt := 22) dX0_isNearSea_17 (by decide) r86 (ir_c rfl) (fun c88 => ?_) (fun c88 => ?_)
    ·
      exact hj11 
    ·
      refine GO.iconst dX0_isNearSea_20 ?_
      exact GO.retz rfl rfl dX0_isNearSea_21 (Or.inr rfl) ⟨rfl, rfl, _, rfl, (ir_c rfl), ⟨Or.inr rfl, fun _ => trivial, fun _ => trivial⟩⟩

set_option maxHeartbeats 1000000 in
theorem t_X0_isDark {K : Kmap} {V : Vmap} {x : Nat} {p0 : Int} (h_x : K x = some (0, 0)) (r_p0 : ir p0) : MC mX0_isDark K V [.ref x, ti p0] (IP K V (fun X => (X = 0 ∨ X = 1) ∧ (X ≠ 0 → True) ∧ (X = 0 → True))) := by
  refine MC.start 1 (by decide +kernel) rfl rfl rfl (ls0 := [some (.ref x), some (ti p0), none]) rfl ?_
  refine GO.iload_n dX0_isDark_0 rfl rfl ?_
  refine GO.sipush dX0_isDark_1 rfl ?_
  refine GO.irem dX0_isDark_4 (ir_c rfl) (by omega) ?_
  refine GO.name (fun z1 hz2 => ?_)
  have r3 : ir z1 := hz2 ▸ wrem_ir
  refine GO.istore_n (ls1 := [some (.ref x), some (ti p0), some (ti z1)]) dX0_isDark_5 rfl rfl rfl ?_
  refine GO.iload_n dX0_isDark_6 rfl rfl ?_
  refine GO.aload_n dX0_isDark_7 rfl rfl ?_
  refine GO.getI h_x fl_RX0_15 rfl rfl dX0_isDark_8 (fun _ _ => ?_)
  refine GO.icmp_lt (tgt := 26) dX0_isDark_11 (by decide) r3 vi_ir (fun c4 => ?_) (fun c4 => ?_)
  ·
    refine GO.iconst dX0_isDark_26 ?_
    exact GO.retz rfl rfl dX0_isDark_27 (Or.inl rfl) ⟨rfl, rfl, _, rfl, (ir_c rfl), ⟨Or.inl rfl, fun _ => trivial, fun _ => trivial⟩⟩
  ·
    refine GO.iload_n dX0_isDark_14 rfl rfl ?_
    refine GO.aload_n dX0_isDark_15 rfl rfl ?_
    refine GO.getI h_x fl_RX0_18 rfl rfl dX0_isDark_16 (fun _ _ => ?_)
    refine GO.icmp_gt (tgt := 26) dX0_isDark_19 (by decide) r3 vi_ir (fun c5 => ?_) (fun c5 => ?_)
    ·
      refine GO.iconst dX0_isDark_26 ?_
      exact GO.retz rfl rfl dX0_isDark_27 (Or.inl rfl) ⟨rfl, rfl, _, rfl, (ir_c rfl), ⟨Or.inl rfl, fun _ => trivial, fun _ => trivial⟩⟩
    ·
      refine GO.iconst dX0_isDark_22 ?_
      refine GO.goto (tgt := 27) dX0_isDark_23 (by decide) ?_
      exact GO.retz rfl rfl dX0_isDark_27 (Or.inr rfl) ⟨rfl, rfl, _, rfl, (ir_c rfl), ⟨Or.inr rfl, fun _ => trivial, fun _ => trivial⟩⟩

set_option maxHeartbeats 1000000 in
theorem t_X0_coverOn {K : Kmap} {V : Vmap} {x : Nat} {p0 : Int} {p1 : Int} (h_x : K x = some (0, 0)) (r_p0 : ir p0) (r_p1 : ir p1) : MC mX0_coverOn K V [.ref x, ti p0, ti p1] (IP K V (fun X => True)) := by
  refine MC.start 0 (by decide +kernel) rfl rfl rfl (ls0 := [some (.ref x), some (ti p0), some (ti p1)]) rfl ?_
  refine GO.aload_n dX0_coverOn_0 rfl rfl ?_
  refine GO.getA (n := 48) h_x fl_RX0_40 rfl rfl rfl rfl dX0_coverOn_1 (fun hv2 h1 => ?_)
  refine GO.iload_n dX0_coverOn_4 rfl rfl ?_
  refine GO.bipush dX0_coverOn_5 rfl ?_
  refine GO.imul dX0_coverOn_7 ?_
  refine GO.norm (fun z3 r4 hn5 => ?_)
  refine GO.iload_n dX0_coverOn_8 rfl rfl ?_
  refine GO.sipush dX0_coverOn_9 rfl ?_
  refine GO.irem dX0_coverOn_12 (ir_c rfl) (by omega) ?_
  refine GO.bipush dX0_coverOn_13 rfl ?_
  refine GO.idiv dX0_coverOn_15 (ir_c rfl) (by omega) ?_
  refine GO.iadd dX0_coverOn_16 ?_
  refine GO.norm (fun z6 r7 hn8 => ?_)
  refine GO.callS (N := mX4_get) dX0_coverOn_17 gS_RX0_58 (t_X4_get rfl h1 r7) rfl [] rfl rfl (Nat.le_of_ble_eq_true rfl) rfl (k_ip fun X9 r10 h11 => ?_)
  have raw_get := h11.2
  have rw17 := h11.2
  exact GO.reti rfl rfl dX0_coverOn_20 ⟨rfl, rfl, _, rfl, r10, trivial⟩

set_option maxHeartbeats 1000000 in
theorem t_X0_carries {K : Kmap} {V : Vmap} {x : Nat} {p0 : Int} {p1 : Int} (h_x : K x = some (0, 0)) (r_p0 : ir p0) (r_p1 : ir p1) : MC mX0_carries K V [.ref x, ti p0, ti p1] (IP K V (fun X => (X = 0 ∨ X = 1) ∧ (X ≠ 0 → True) ∧ (X = 0 → True) ∧ (CRS V x p0 p1 X))) := by
  refine MC.start 1 (by decide +kernel) rfl rfl rfl (ls0 := [some (.ref x), some (ti p0), some (ti p1), none]) rfl ?_
  refine GO.aload_n dX0_carries_0 rfl rfl ?_
  refine GO.getA (n := 144) h_x fl_RX0_31 rfl rfl rfl rfl dX0_carries_1 (fun hv2 h1 => ?_)
  refine GO.iload_n dX0_carries_4 rfl rfl ?_
  refine GO.callS (N := mX4_get) dX0_carries_5 gS_RX0_58 (t_X4_get rfl h1 r_p0) rfl [] rfl rfl (Nat.le_of_ble_eq_true rfl) rfl (k_ip fun X3 r4 h5 => ?_)
  have raw_get := h5.2
  have rw5 := h5.2
  refine GO.if_ne (tgt := 27) dX0_carries_8 (by decide) r4 (fun c6 => ?_) (fun c6 => ?_)
  ·
    refine GO.iconst dX0_carries_27 ?_
    refine GO.istore_n (ls1 := [some (.ref x), some (ti p0), some (ti p1), some (ti 0)]) dX0_carries_28 rfl rfl rfl ?_
    refine GO.iload_n dX0_carries_29 rfl rfl ?_
    refine GO.if_eq (tgt := 49) dX0_carries_30 (by decide) (ir_c rfl) (fun c7 => ?_) (fun h => by exfalso; omega)
    refine GO.iconst dX0_carries_49 ?_
    exact GO.retz rfl rfl dX0_carries_50 (Or.inl rfl) ⟨rfl, rfl, _, rfl, (ir_c rfl), ⟨Or.inl rfl, fun _ => trivial, fun _ => trivial, (by first | exact CRS.n1 rw5 (by omega) (by omega))⟩⟩
  ·
    refine GO.aload_n dX0_carries_11 rfl rfl ?_
    refine GO.getA (n := 144) h_x fl_RX0_34 rfl rfl rfl rfl dX0_carries_12 (fun hv9 h8 => ?_)
    refine GO.iload_n dX0_carries_15 rfl rfl ?_
    refine GO.callS (N := mX4_get) dX0_carries_16 gS_RX0_58 (t_X4_get rfl h8 r_p0) rfl [] rfl rfl (Nat.le_of_ble_eq_true rfl) rfl (k_ip fun X10 r11 h12 => ?_)
    have raw_get := h12.2
    have rw16 := h12.2
    refine GO.iconst dX0_carries_19 ?_
    refine GO.icmp_eq (tgt := 27) dX0_carries_20 (by decide) r11 (ir_c rfl) (fun c13 => ?_) (fun c13 => ?_)
    ·
      refine GO.iconst dX0_carries_27 ?_
      refine GO.istore_n (ls1 := [some (.ref x), some (ti p0), some (ti p1), some (ti 0)]) dX0_carries_28 rfl rfl rfl ?_
      refine GO.iload_n dX0_carries_29 rfl rfl ?_
      refine GO.if_eq (tgt := 49) dX0_carries_30 (by decide) (ir_c rfl) (fun c14 => ?_) (fun h => by exfalso; omega)
      refine GO.iconst dX0_carries_49 ?_
      exact GO.retz rfl rfl dX0_carries_50 (Or.inl rfl) ⟨rfl, rfl, _, rfl, (ir_c rfl), ⟨Or.inl rfl, fun _ => trivial, fun _ => trivial, (by first | exact CRS.n1 rw5 (by omega) (by omega) | exact CRS.n2 rw16 (by omega) (by omega))⟩⟩
    ·
      refine GO.iconst dX0_carries_23 ?_
      refine GO.goto (tgt := 28) dX0_carries_24 (by decide) ?_
      refine GO.istore_n (ls1 := [some (.ref x), some (ti p0), some (ti p1), some (ti 1)]) dX0_carries_28 rfl rfl rfl ?_
      refine GO.iload_n dX0_carries_29 rfl rfl ?_
      refine GO.if_eq (tgt := 49) dX0_carries_30 (by decide) (ir_c rfl) (fun h => by exfalso; omega) (fun c15 => ?_)
      refine GO.iload_n dX0_carries_33 rfl rfl ?_
      refine GO.aload_n dX0_carries_34 rfl rfl ?_
      refine GO.getA (n := 144) h_x fl_RX0_37 rfl rfl rfl rfl dX0_carries_35 (fun hv17 h16 => ?_)
      refine GO.iload_n dX0_carries_38 rfl rfl ?_
      refine GO.callS (N := mX4_get) dX0_carries_39 gS_RX0_58 (t_X4_get rfl h16 r_p0) rfl [ti p1] rfl rfl (Nat.le_of_ble_eq_true rfl) rfl (k_ip fun X18 r19 h20 => ?_)
      have raw_get := h20.2
      have rw39 := h20.2
      refine GO.icmp_lt (tgt := 49) dX0_carries_42 (by decide) r_p1 r19 (fun c21 => ?_) (fun c21 => ?_)
      ·
        refine GO.iconst dX0_carries_49 ?_
        exact GO.retz rfl rfl dX0_carries_50 (Or.inl rfl) ⟨rfl, rfl, _, rfl, (ir_c rfl), ⟨Or.inl rfl, fun _ => trivial, fun _ => trivial, (by first | exact CRS.n1 rw5 (by omega) (by omega) | exact CRS.n2 rw16 (by omega) (by omega) | exact CRS.n3 rw39 (by omega) (by omega) | exact CRS.y rw5 rw16 rw39 (by omega) (by omega) (by omega) (by omega))⟩⟩
      ·
        refine GO.iconst dX0_carries_45 ?_
        refine GO.goto (tgt := 50) dX0_carries_46 (by decide) ?_
        exact GO.retz rfl rfl dX0_carries_50 (Or.inr rfl) ⟨rfl, rfl, _, rfl, (ir_c rfl), ⟨Or.inr rfl, fun _ => trivial, fun _ => trivial, (by first | exact CRS.n1 rw5 (by omega) (by omega) | exact CRS.n2 rw16 (by omega) (by omega) | exact CRS.n3 rw39 (by omega) (by omega) | exact CRS.y rw5 rw16 rw39 (by omega) (by omega) (by omega) (by omega))⟩⟩

set_option maxHeartbeats 1000000 in
theorem t_X4_fill_t129 {K : Kmap} {V : Vmap} {p0 n_p0 : Nat} {p1 : Int} (h_p0 : K p0 = some (130, n_p0)) (r_p1 : ir p1) : MC mX4_fill_t129 K V [.ref p0, ti p1] (VS K (fun V1 => (True) ∧ (FLL V V1 p0 n_p0 p1))) := by
  refine MC.start 1 (by decide +kernel) rfl rfl rfl (ls0 := [some (.ref p0), some (ti p1), none]) rfl ?_
  refine GO.aload_n dX4_fill_0 rfl rfl ?_
  refine GO.ifnonnull (tgt := 5) dX4_fill_1 (by decide) ?_
  refine GO.iconst dX4_fill_5 ?_
  refine GO.istore_n (ls1 := [some (.ref p0), some (ti p1), some (ti 0)]) dX4_fill_6 rfl rfl rfl ?_
  refine GO.loop1 (fun i1 W => 0 ≤ i1 ∧ i1 ≤ 5000 ∧ (FLI V W p0 p1 i1) ∧ True) (fun i1 => [some (.ref p0), some (ti p1), some (ti i1)]) (fun i1 W => (2147483647 - i1).toNat) 0 ⟨by omega, by omega, (by first | exact FLI.beg), trivial⟩ rfl (fun i1 Wi1 hp39 ih38 => ?_)
  obtain ⟨l_i1, u_i1, hfl, -⟩ := hp39
  have r_i1 : ir i1 := ⟨by omega, by omega⟩
  show GO mX4_fill_t129 K V (VS K (fun V1 => (True) ∧ (FLL V V1 p0 n_p0 p1))) K Wi1 0 0 7 [some (.ref p0), some (ti p1), some (ti i1)] []
  refine GO.iload_n dX4_fill_7 rfl rfl ?_
  refine GO.aload_n dX4_fill_8 rfl rfl ?_
  refine GO.alen h_p0 dX4_fill_9 (fun h40 => ?_)
  refine GO.icmp_ge (tgt := 23) dX4_fill_10 (by decide) r_i1 ⟨by omega, by omega⟩ (fun c41 => ?_) (fun c41 => ?_)
  ·
    exact GO.retv rfl rfl dX4_fill_23 ⟨rfl, rfl, ⟨trivial, FLI.end hfl (by omega)⟩⟩
  ·
    refine GO.aload_n dX4_fill_13 rfl rfl ?_
    refine GO.iload_n dX4_fill_14 rfl rfl ?_
    refine GO.iload_n dX4_fill_15 rfl rfl ?_
    refine GO.iast (t := 129) rfl rfl (by decide +kernel) h_p0 r_i1 (by omega) (by omega) r_p1 (r_p1).1 (r_p1).2 dX4_fill_16 (fun V43 e42 => ?_)
    refine GO.iinc (X := i1) (n := 1) (Y := i1 + 1) (ls1 := [some (.ref p0), some (ti p1), some (ti (i1 + 1))]) dX4_fill_17 rfl rfl rfl rfl ?_
    refine GO.goto (tgt := 7) dX4_fill_20 (by decide) ?_
    exact ih38 (i1 + 1) V43 ⟨by omega, by omega, (by first | exact FLI.beg | exact FLI.step hfl (by assumption) (by assumption) (by omega) (by omega)), trivial⟩ (by show (2147483647 - (i1 + 1)).toNat < (2147483647 - i1).toNat; omega)

set_option maxHeartbeats 1000000 in
theorem t_X4_fill_t130 {K : Kmap} {V : Vmap} {p0 n_p0 : Nat} {p1 : Int} (h_p0 : K p0 = some (131, n_p0)) (r_p1 : ir p1) : MC mX4_fill_t130 K V [.ref p0, ti p1] (VS K (fun V1 => (True) ∧ (FLL V V1 p0 n_p0 p1))) := by
  refine MC.start 1 (by decide +kernel) rfl rfl rfl (ls0 := [some (.ref p0), some (ti p1), none]) rfl ?_
  refine GO.aload_n dX4_fill_0 rfl rfl ?_
  refine GO.ifnonnull (tgt := 5) dX4_fill_1 (by decide) ?_
  refine GO.iconst dX4_fill_5 ?_
  refine GO.istore_n (ls1 := [some (.ref p0), some (ti p1), some (ti 0)]) dX4_fill_6 rfl rfl rfl ?_
  refine GO.loop1 (fun i1 W => 0 ≤ i1 ∧ i1 ≤ 5000 ∧ (FLI V W p0 p1 i1) ∧ True) (fun i1 => [some (.ref p0), some (ti p1), some (ti i1)]) (fun i1 W => (2147483647 - i1).toNat) 0 ⟨by omega, by omega, (by first | exact FLI.beg), trivial⟩ rfl (fun i1 Wi1 hp39 ih38 => ?_)
  obtain ⟨l_i1, u_i1, hfl, -⟩ := hp39
  have r_i1 : ir i1 := ⟨by omega, by omega⟩
  show GO mX4_fill_t130 K V (VS K (fun V1 => (True) ∧ (FLL V V1 p0 n_p0 p1))) K Wi1 0 0 7 [some (.ref p0), some (ti p1), some (ti i1)] []
  refine GO.iload_n dX4_fill_7 rfl rfl ?_
  refine GO.aload_n dX4_fill_8 rfl rfl ?_
  refine GO.alen h_p0 dX4_fill_9 (fun h40 => ?_)
  refine GO.icmp_ge (tgt := 23) dX4_fill_10 (by decide) r_i1 ⟨by omega, by omega⟩ (fun c41 => ?_) (fun c41 => ?_)
  ·
    exact GO.retv rfl rfl dX4_fill_23 ⟨rfl, rfl, ⟨trivial, FLI.end hfl (by omega)⟩⟩
  ·
    refine GO.aload_n dX4_fill_13 rfl rfl ?_
    refine GO.iload_n dX4_fill_14 rfl rfl ?_
    refine GO.iload_n dX4_fill_15 rfl rfl ?_
    refine GO.iast (t := 130) rfl rfl (by decide +kernel) h_p0 r_i1 (by omega) (by omega) r_p1 (r_p1).1 (r_p1).2 dX4_fill_16 (fun V43 e42 => ?_)
    refine GO.iinc (X := i1) (n := 1) (Y := i1 + 1) (ls1 := [some (.ref p0), some (ti p1), some (ti (i1 + 1))]) dX4_fill_17 rfl rfl rfl rfl ?_
    refine GO.goto (tgt := 7) dX4_fill_20 (by decide) ?_
    exact ih38 (i1 + 1) V43 ⟨by omega, by omega, (by first | exact FLI.beg | exact FLI.step hfl (by assumption) (by assumption) (by omega) (by omega)), trivial⟩ (by show (2147483647 - (i1 + 1)).toNat < (2147483647 - i1).toNat; omega)

set_option maxHeartbeats 1000000 in
theorem t_X4_put_t129 {K : Kmap} {V : Vmap} {p0 n_p0 : Nat} {p1 : Int} {p2 : Int} (h_p0 : K p0 = some (130, n_p0)) (r_p1 : ir p1) (r_p2 : ir p2) : MC mX4_put_t129 K V [.ref p0, ti p1, ti p2] (VS K (fun V1 => (True) ∧ (V1 = rpv V p0 n_p0 p1 p2))) := by
  refine MC.start 0 (by decide +kernel) rfl rfl rfl (ls0 := [some (.ref p0), some (ti p1), some (ti p2)]) rfl ?_
  refine GO.aload_n dX4_put_0 rfl rfl ?_
  refine GO.ifnull dX4_put_1 ?_
  refine GO.iload_n dX4_put_4 rfl rfl ?_
  refine GO.if_lt (tgt := 18) dX4_put_5 (by decide) r_p1 (fun c1 => ?_) (fun c1 => ?_)
  ·
    exact GO.retv rfl rfl dX4_put_18 ⟨rfl, rfl, ⟨trivial, (by first | exact rpv_in (by assumption) (by omega) (by omega) | exact rpv_out (by omega))⟩⟩
  ·
    refine GO.iload_n dX4_put_8 rfl rfl ?_
    refine GO.aload_n dX4_put_9 rfl rfl ?_
    refine GO.alen h_p0 dX4_put_10 (fun h2 => ?_)
    refine GO.icmp_ge (tgt := 18) dX4_put_11 (by decide) r_p1 ⟨by omega, by omega⟩ (fun c3 => ?_) (fun c3 => ?_)
    ·
      exact GO.retv rfl rfl dX4_put_18 ⟨rfl, rfl, ⟨trivial, (by first | exact rpv_in (by assumption) (by omega) (by omega) | exact rpv_out (by omega))⟩⟩
    ·
      refine GO.aload_n dX4_put_14 rfl rfl ?_
      refine GO.iload_n dX4_put_15 rfl rfl ?_
      refine GO.iload_n dX4_put_16 rfl rfl ?_
      have q4 : -2147483648 ≤ p1 ∧ p1 ≤ 2147483647 := r_p1
      refine GO.iast (t := 129) rfl rfl (by decide +kernel) h_p0 r_p1 (by omega) (by omega) r_p2 (r_p2).1 (r_p2).2 dX4_put_17 (fun V6 e5 => ?_)
      exact GO.retv rfl rfl dX4_put_18 ⟨rfl, rfl, ⟨trivial, (by first | exact rpv_in (by assumption) (by omega) (by omega) | exact rpv_out (by omega))⟩⟩
