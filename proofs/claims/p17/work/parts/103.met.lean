def mX12_isRectangle : MRec := (RX12, cX12_isRectangle, 3, (some .boolean), yX12_isRectangle, 1, 21, 0, 0, 0)
def mX12_isIn : MRec := (RX12, cX12_isIn, 3, (some .boolean), yX12_isIn, 1, 22, 0, 0, 0)
def mX12_strikes : MRec := (RX12, cX12_strikes, 5, (none : Option Jvm.ClassFile.FieldType), yX12_strikes, 0, 0, 0, 0, 273406340597876490546562778389702670669146178861651554553221325801244124899921990402939147127881728)
def mX12_numberBy : MRec := (RX12, cX12_numberBy, 8, (some .int), yX12_numberBy, 0, 0, 0, 0, 0)
def mX12_binds : MRec := (RX12, cX12_binds, 7, (none : Option Jvm.ClassFile.FieldType), yX12_binds, 1, 27, 0, 0, 410109510896814735819844167584554006003719268292477331829831988701866187349882985604408720691822592)
def mX12_isAsleep : MRec := (RX12, cX12_isAsleep, 3, (some .boolean), yX12_isAsleep, 2, 53, 0, 0, 410109510896814735819844167584554006003719268292477331829831988701866187349882985604408720691822592)
def mX12_claim : MRec := (RX12, cX12_claim, 5, (some .int), yX12_claim, 3, 75, 0, 0, 410109510904647576793298307198501276412031696524059516204890895816287336862877174431570984892891136)
def mX12_title : MRec := (RX12, cX12_title, 3, (some .boolean), yX12_title, 3, 75, 0, 0, 410109510898804028765483314153175534996306551652879156433021379571628043257455623592458854193954816)
set_option maxHeartbeats 1000000 in
theorem t_X12_isRectangle {K : Kmap} {V : Vmap} {x : Nat} {p0 : Int} {p1 : Int} (h_x : K x = some (0, 11)) (r_p0 : ir p0) (r_p1 : ir p1) : MC mX12_isRectangle K V [.ref x, ti p0, ti p1] (IP K V (fun X => (X = 0 ∨ X = 1) ∧ (X ≠ 0 → p0 ≥ 0 ∧ p0 ≤ 143 ∧ p1 ≥ 0 ∧ p1 ≤ 143) ∧ (X = 0 → True))) := by
  refine MC.start 0 (by decide +kernel) rfl rfl rfl (ls0 := [some (.ref x), some (ti p0), some (ti p1)]) rfl ?_
  refine GO.aload_n dX12_isRectangle_0 rfl rfl ?_
  refine GO.iload_n dX12_isRectangle_1 rfl rfl ?_
  refine GO.callV (ci := 11) (N := mX12_isCell) dX12_isRectangle_2 (RX12, TX12, 151) rfl gV_RX12_381 h_x (t_X12_isCell h_x r_p0) rfl [] rfl rfl (Nat.le_of_ble_eq_true rfl) rfl (k_ip fun X1 r2 h3 => ?_)
  refine GO.if_eq (tgt := 50) dX12_isRectangle_5 (by decide) r2 (fun c4 => ?_) (fun c4 => ?_)
  ·
    refine GO.iconst dX12_isRectangle_50 ?_
    exact GO.retz rfl rfl dX12_isRectangle_51 (Or.inl rfl) ⟨rfl, rfl, _, rfl, (ir_c rfl), ⟨Or.inl rfl, fun h => absurd rfl h, fun _ => trivial⟩⟩
  ·
    have q5 := h3.2.1 (by omega)
    refine GO.aload_n dX12_isRectangle_8 rfl rfl ?_
    refine GO.iload_n dX12_isRectangle_9 rfl rfl ?_
    refine GO.callV (ci := 11) (N := mX12_isCell) dX12_isRectangle_10 (RX12, TX12, 151) rfl gV_RX12_381 h_x (t_X12_isCell h_x r_p1) rfl [] rfl rfl (Nat.le_of_ble_eq_true rfl) rfl (k_ip fun X6 r7 h8 => ?_)
    refine GO.if_eq (tgt := 50) dX12_isRectangle_13 (by decide) r7 (fun c9 => ?_) (fun c9 => ?_)
    ·
      refine GO.iconst dX12_isRectangle_50 ?_
      exact GO.retz rfl rfl dX12_isRectangle_51 (Or.inl rfl) ⟨rfl, rfl, _, rfl, (ir_c rfl), ⟨Or.inl rfl, fun h => absurd rfl h, fun _ => trivial⟩⟩
    ·
      have q10 := h8.2.1 (by omega)
      refine GO.iload_n dX12_isRectangle_16 rfl rfl ?_
      refine GO.aload_n dX12_isRectangle_17 rfl rfl ?_
      refine GO.getI h_x fl_RX12_365 rfl rfl dX12_isRectangle_18 (fun l11 u12 => ?_)
      have q13 : -2147483648 ≤ p0 ∧ p0 ≤ 2147483647 := r_p0
      refine GO.iremP dX12_isRectangle_21 r_p0 vi_ir (by omega) (by omega) ?_
      have m14 := rem_rng (a := p0) (b := vi V x 0) (by omega)
      refine GO.iload_n dX12_isRectangle_22 rfl rfl ?_
      refine GO.aload_n dX12_isRectangle_23 rfl rfl ?_
      refine GO.getI h_x fl_RX12_365 rfl rfl dX12_isRectangle_24 (fun l15 u16 => ?_)
      have q17 : -2147483648 ≤ p1 ∧ p1 ≤ 2147483647 := r_p1
      refine GO.iremP dX12_isRectangle_27 r_p1 vi_ir (by omega) (by omega) ?_
      have m18 := rem_rng (a := p1) (b := vi V x 0) (by omega)
      refine GO.icmp_gt (tgt := 50) dX12_isRectangle_28 (by decide) ⟨by omega, by omega⟩ ⟨by omega, by omega⟩ (fun c19 => ?_) (fun c19 => ?_)
      ·
        refine GO.iconst dX12_isRectangle_50 ?_
        exact GO.retz rfl rfl dX12_isRectangle_51 (Or.inl rfl) ⟨rfl, rfl, _, rfl, (ir_c rfl), ⟨Or.inl rfl, fun h => absurd rfl h, fun _ => trivial⟩⟩
      ·
        refine GO.iload_n dX12_isRectangle_31 rfl rfl ?_
        refine GO.aload_n dX12_isRectangle_32 rfl rfl ?_
        refine GO.getI h_x fl_RX12_365 rfl rfl dX12_isRectangle_33 (fun l20 u21 => ?_)
        refine GO.idivP dX12_isRectangle_36 r_p0 vi_ir (by omega) (by omega) ?_
        have m22 := div_rng (a := p0) (b := vi V x 0) (by omega) (by omega)
        refine GO.iload_n dX12_isRectangle_37 rfl rfl ?_
        refine GO.aload_n dX12_isRectangle_38 rfl rfl ?_
        refine GO.getI h_x fl_RX12_365 rfl rfl dX12_isRectangle_39 (fun l23 u24 => ?_)
        refine GO.idivP dX12_isRectangle_42 r_p1 vi_ir (by omega) (by omega) ?_
        have m25 := div_rng (a := p1) (b := vi V x 0) (by omega) (by omega)
        refine GO.icmp_gt (tgt := 50) dX12_isRectangle_43 (by decide) ⟨by omega, by omega⟩ ⟨by omega, by omega⟩ (fun c26 => ?_) (fun c26 => ?_)
        ·
          refine GO.iconst dX12_isRectangle_50 ?_
          exact GO.retz rfl rfl dX12_isRectangle_51 (Or.inl rfl) ⟨rfl, rfl, _, rfl, (ir_c rfl), ⟨Or.inl rfl, fun h => absurd rfl h, fun _ => trivial⟩⟩
        ·
          refine GO.iconst dX12_isRectangle_46 ?_
          refine GO.goto (tgt := 51) dX12_isRectangle_47 (by decide) ?_
          exact GO.retz rfl rfl dX12_isRectangle_51 (Or.inr rfl) ⟨rfl, rfl, _, rfl, (ir_c rfl), ⟨Or.inr rfl, fun h => by omega, fun _ => trivial⟩⟩

set_option maxHeartbeats 1000000 in
theorem t_X12_isIn {K : Kmap} {V : Vmap} {x : Nat} {p0 : Int} {p1 : Int} (h_x : K x = some (0, 11)) (r_p0 : ir p0) (r_p1 : ir p1) (q_0 : p0 ≥ 0) (q_1 : p0 ≤ 143) (q_2 : p1 ≥ 0) (q_3 : p1 ≤ 59) : MC mX12_isIn K V [.ref x, ti p0, ti p1] (IP K V (fun X => (X = 0 ∨ X = 1) ∧ (X ≠ 0 → True) ∧ (X = 0 → True))) := by
  refine MC.start 0 (by decide +kernel) rfl rfl rfl (ls0 := [some (.ref x), some (ti p0), some (ti p1)]) rfl ?_
  refine GO.iload_n dX12_isIn_0 rfl rfl ?_
  refine GO.aload_n dX12_isIn_1 rfl rfl ?_
  refine GO.getI h_x fl_RX12_365 rfl rfl dX12_isIn_2 (fun l1 u2 => ?_)
  have q3 : -2147483648 ≤ p0 ∧ p0 ≤ 2147483647 := r_p0
  refine GO.iremP dX12_isIn_5 r_p0 vi_ir (by omega) (by omega) ?_
  have m4 := rem_rng (a := p0) (b := vi V x 0) (by omega)
  refine GO.aload_n dX12_isIn_6 rfl rfl ?_
  refine GO.getA (n := 60) h_x fl_RX12_41 rfl rfl rfl rfl dX12_isIn_7 (fun hv6 h5 => ?_)
  refine GO.iload_n dX12_isIn_10 rfl rfl ?_
  have q7 : -2147483648 ≤ p1 ∧ p1 ≤ 2147483647 := r_p1
  refine GO.iald (t := 17) rfl rfl h5 r_p1 (by omega) (by omega) dX12_isIn_11 (fun l8 u9 => ?_)
  refine GO.aload_n dX12_isIn_12 rfl rfl ?_
  refine GO.getI h_x fl_RX12_365 rfl rfl dX12_isIn_13 (fun l10 u11 => ?_)
  refine GO.iremP dX12_isIn_16 vi_ir vi_ir (by omega) (by omega) ?_
  have m12 := rem_rng (a := vi V (vq V x 15) (p1).toNat) (b := vi V x 0) (by omega)
  refine GO.aload_n dX12_isIn_17 rfl rfl ?_
  refine GO.getA (n := 60) h_x fl_RX12_44 rfl rfl rfl rfl dX12_isIn_18 (fun hv14 h13 => ?_)
  refine GO.iload_n dX12_isIn_21 rfl rfl ?_
  refine GO.iald (t := 18) rfl rfl h13 r_p1 (by omega) (by omega) dX12_isIn_22 (fun l15 u16 => ?_)
  refine GO.aload_n dX12_isIn_23 rfl rfl ?_
  refine GO.getI h_x fl_RX12_365 rfl rfl dX12_isIn_24 (fun l17 u18 => ?_)
  refine GO.irem dX12_isIn_27 vi_ir (by omega) ?_
  refine GO.callS (N := mX12_in) dX12_isIn_28 gS_RX12_371 (t_X12_in ⟨by omega, by omega⟩ ⟨by omega, by omega⟩ wrem_ir) rfl [] rfl rfl (Nat.le_of_ble_eq_true rfl) rfl (k_ip fun X19 r20 h21 => ?_)
  have raw_in := h21.2.2.2
  have rw28 := h21.2.2.2
  refine GO.if_eq (tgt := 72) dX12_isIn_31 (by decide) r20 (fun c22 => ?_) (fun c22 => ?_)
  ·
    have q23 := h21.2.2.1 (by omega)
    refine GO.iconst dX12_isIn_72 ?_
    exact GO.retz rfl rfl dX12_isIn_73 (Or.inl rfl) ⟨rfl, rfl, _, rfl, (ir_c rfl), ⟨Or.inl rfl, fun _ => trivial, fun _ => trivial⟩⟩
  ·
    have q24 := h21.2.1 (by omega)
    refine GO.iload_n dX12_isIn_34 rfl rfl ?_
    refine GO.aload_n dX12_isIn_35 rfl rfl ?_
    refine GO.getI h_x fl_RX12_365 rfl rfl dX12_isIn_36 (fun l25 u26 => ?_)
    have q27 : -2147483648 ≤ wrem (vi V (vq V x 16) (p1).toNat) (vi V x 0) ∧ wrem (vi V (vq V x 16) (p1).toNat) (vi V x 0) ≤ 2147483647 := wrem_ir
    refine GO.idivP dX12_isIn_39 r_p0 vi_ir (by omega) (by omega) ?_
    have m28 := div_rng (a := p0) (b := vi V x 0) (by omega) (by omega)
    refine GO.aload_n dX12_isIn_40 rfl rfl ?_
    refine GO.getRaw h_x fl_RX12_41 hv6 dX12_isIn_41 ?_
    refine GO.iload_n dX12_isIn_44 rfl rfl ?_
    refine GO.iald (t := 17) rfl rfl h5 r_p1 (by omega) (by omega) dX12_isIn_45 (fun l31 u32 => ?_)
    refine GO.aload_n dX12_isIn_46 rfl rfl ?_
    refine GO.getI h_x fl_RX12_365 rfl rfl dX12_isIn_47 (fun l33 u34 => ?_)
    refine GO.idivP dX12_isIn_50 vi_ir vi_ir (by omega) (by omega) ?_
    have m35 := div_rng (a := vi V (vq V x 15) (p1).toNat) (b := vi V x 0) (by omega) (by omega)
    refine GO.aload_n dX12_isIn_51 rfl rfl ?_
    refine GO.getRaw h_x fl_RX12_44 hv14 dX12_isIn_52 ?_
    refine GO.iload_n dX12_isIn_55 rfl rfl ?_
    refine GO.iald (t := 18) rfl rfl h13 r_p1 (by omega) (by omega) dX12_isIn_56 (fun l38 u39 => ?_)
    refine GO.aload_n dX12_isIn_57 rfl rfl ?_
    refine GO.getI h_x fl_RX12_365 rfl rfl dX12_isIn_58 (fun l40 u41 => ?_)
    refine GO.idiv dX12_isIn_61 vi_ir (by omega) ?_
    refine GO.callS (N := mX12_in) dX12_isIn_62 gS_RX12_371 (t_X12_in ⟨by omega, by omega⟩ ⟨by omega, by omega⟩ wdiv_ir) rfl [] rfl rfl (Nat.le_of_ble_eq_true rfl) rfl (k_ip fun X42 r43 h44 => ?_)
    have raw_in := h44.2.2.2
    have rw62 := h44.2.2.2
    refine GO.if_eq (tgt := 72) dX12_isIn_65 (by decide) r43 (fun c45 => ?_) (fun c45 => ?_)
    ·
      have q46 := h44.2.2.1 (by omega)
      refine GO.iconst dX12_isIn_72 ?_
      exact GO.retz rfl rfl dX12_isIn_73 (Or.inl rfl) ⟨rfl, rfl, _, rfl, (ir_c rfl), ⟨Or.inl rfl, fun _ => trivial, fun _ => trivial⟩⟩
    ·
      have q47 := h44.2.1 (by omega)
      refine GO.iconst dX12_isIn_68 ?_
      refine GO.goto (tgt := 73) dX12_isIn_69 (by decide) ?_
      exact GO.retz rfl rfl dX12_isIn_73 (Or.inr rfl) ⟨rfl, rfl, _, rfl, (ir_c rfl), ⟨Or.inr rfl, fun _ => trivial, fun _ => trivial⟩⟩

set_option maxHeartbeats 1000000 in
theorem t_X12_strikes {K : Kmap} {V : Vmap} {x : Nat} {p0 : Int} (h_x : K x = some (0, 11)) (r_p0 : ir p0) (q_0 : p0 ≥ 0) (q_1 : p0 ≤ 20) : MC mX12_strikes K V [.ref x, ti p0] (VS K (fun V1 => (True) ∧ (RSK V V1 x p0))) := by
  refine MC.start 3 (by decide +kernel) rfl rfl rfl (ls0 := [some (.ref x), some (ti p0), none, none, none]) rfl ?_
  refine GO.useWT (fun hW_0 => ?_)
  refine GO.iconst dX12_strikes_0 ?_
  refine GO.istore_n (ls1 := [some (.ref x), some (ti p0), some (ti 0), none, none]) dX12_strikes_1 rfl rfl rfl ?_
  refine GO.loop1 (fun i1 W => 0 ≤ i1 ∧ i1 ≤ 240 ∧ (RS1 W x i1) ∧ True) (fun i1 => [some (.ref x), some (ti p0), some (ti i1), none, none]) (fun i1 W => (2147483647 - i1).toNat) 0 ⟨by omega, by omega, (by first | exact RS1.beg), trivial⟩ rfl (fun i1 Wi1 hp1612 ih1611 => ?_)
  obtain ⟨l_i1, u_i1, hr1, -⟩ := hp1612
  have r_i1 : ir i1 := ⟨by omega, by omega⟩
  show GO mX12_strikes K V (VS K (fun V1 => (True) ∧ (RSK V V1 x p0))) K Wi1 0 0 2 [some (.ref x), some (ti p0), some (ti i1), none, none] []
  refine GO.iload_n dX12_strikes_2 rfl rfl ?_
  refine GO.bipush dX12_strikes_3 rfl ?_
  refine GO.iload_n dX12_strikes_5 rfl rfl ?_
  refine GO.imul dX12_strikes_6 ?_
  have q1613 : -2147483648 ≤ p0 ∧ p0 ≤ 2147483647 := r_p0
  refine GO.icmp_ge (tgt := 23) dX12_strikes_7 (by decide) r_i1 ⟨by omega, by omega⟩ (fun c1614 => ?_) (fun c1614 => ?_)
  ·
    refine GO.iload_n dX12_strikes_23 rfl rfl ?_
    refine GO.iconst dX12_strikes_24 ?_
    refine GO.isub dX12_strikes_25 ?_
    refine GO.name (fun z1615 hz1616 => ?_)
    refine GO.istore_n (ls1 := [some (.ref x), some (ti p0), some (ti z1615), none, none]) dX12_strikes_26 rfl rfl rfl ?_
    refine GO.loop1 (fun i1617 W => (-1) ≤ i1617 ∧ i1617 ≤ 19 ∧ (i1617 < p0) ∧ (RS2 V W x p0 i1617) ∧ True) (fun i1617 => [some (.ref x), some (ti p0), some (ti i1617), none, none]) (fun i1617 W => (i1617 + 2147483648).toNat) z1615 ⟨by omega, by omega, by omega, (by first | exact RS2.beg hr1 (by omega) (by omega)), trivial⟩ rfl (fun i1617 Wi1617 hp1993 ih1992 => ?_)
    obtain ⟨l_i1617, u_i1617, n_i1617, hr2, -⟩ := hp1993
    have r_i1617 : ir i1617 := ⟨by omega, by omega⟩
    show GO mX12_strikes K V (VS K (fun V1 => (True) ∧ (RSK V V1 x p0))) K Wi1617 0 0 27 [some (.ref x), some (ti p0), some (ti i1617), none, none] []
    refine GO.useFR (fun hFs => ?_)
    have hMT : ∀ L, MTS V x L → MTS Wi1617 x L := fun L h => h.fr hFs ext.rf hW_0 h_x (by decide +kernel)
    have hBB : ∀ u, isb Wi1617 x u = isb V x u := fun u => isb_fr hFs h_x hW_0 (by decide +kernel) (by decide +kernel) u
    refine GO.iload_n dX12_strikes_27 rfl rfl ?_
    refine GO.if_lt (tgt := 129) dX12_strikes_28 (by decide) r_i1617 (fun c1994 => ?_) (fun c1994 => ?_)
    ·
      exact GO.retv rfl rfl dX12_strikes_129 ⟨rfl, rfl, ⟨trivial, RS2.end hr2 (by omega)⟩⟩
    ·
      refine GO.iconst dX12_strikes_31 ?_
      refine GO.istore_n (ls1 := [some (.ref x), some (ti p0), some (ti i1617), some (ti 0), none]) dX12_strikes_32 rfl rfl rfl ?_
      refine GO.loop1 (fun i1995 W => 0 ≤ i1995 ∧ i1995 ≤ 12 ∧ (RS3 V W x p0 i1617 i1995) ∧ True) (fun i1995 => [some (.ref x), some (ti p0), some (ti i1617), some (ti i1995), none]) (fun i1995 W => (2147483647 - i1995).toNat) 0 ⟨by omega, by omega, (by first | exact RS3.beg hr2), trivial⟩ rfl (fun i1995 Wi1995 hp2330 ih2329 => ?_)
      obtain ⟨l_i1995, u_i1995, hr3, -⟩ := hp2330
      have r_i1995 : ir i1995 := ⟨by omega, by omega⟩
      show GO mX12_strikes K V (VS K (fun V1 => (True) ∧ (RSK V V1 x p0))) K Wi1995 0 0 33 [some (.ref x), some (ti p0), some (ti i1617), some (ti i1995), none] []
      refine GO.useFR (fun hFs => ?_)
      have hMT : ∀ L, MTS V x L → MTS Wi1995 x L := fun L h => h.fr hFs ext.rf hW_0 h_x (by decide +kernel)
      have hBB : ∀ u, isb Wi1995 x u = isb V x u := fun u => isb_fr hFs h_x hW_0 (by decide +kernel) (by decide +kernel) u
      refine GO.iload_n dX12_strikes_33 rfl rfl ?_
      refine GO.aload_n dX12_strikes_34 rfl rfl ?_
      refine GO.getA (n := 20) h_x fl_RX12_115 rfl rfl rfl rfl dX12_strikes_35 (fun hv2332 h2331 => ?_)
      refine GO.iload_n dX12_strikes_38 rfl rfl ?_
      refine GO.iald (t := 41) rfl rfl h2331 r_i1617 (by omega) (by omega) dX12_strikes_39 (fun l2333 u2334 => ?_)
      refine GO.icmp_ge (tgt := 123) dX12_strikes_40 (by decide) r_i1995 vi_ir (fun c2335 => ?_) (fun c2335 => ?_)
      ·
        refine GO.iinc (X := i1617) (n := (-1)) (Y := i1617 + (-1)) (ls1 := [some (.ref x), some (ti p0), some (ti (i1617 + (-1))), some (ti i1995), none]) dX12_strikes_123 rfl rfl rfl rfl ?_
        refine GO.goto (tgt := 27) dX12_strikes_126 (by decide) ?_
        refine GO.drop [true, true, true, false, true] rfl ?_
        exact ih1992 (i1617 + (-1)) Wi1995 ⟨by omega, by omega, by omega, (by first | exact RS2.beg hr1 (by omega) (by omega) | exact RS3.e1 hr3 (by omega) hMT (by omega) (by omega) | exact RS3.e2 hr3 (by omega) hBB (by omega) (by omega)), trivial⟩ (by show ((i1617 + (-1)) + 2147483648).toNat < (i1617 + 2147483648).toNat; omega)
      ·
        refine GO.aload_n dX12_strikes_43 rfl rfl ?_
        refine GO.getA (n := 20) h_x fl_RX12_157 rfl rfl rfl rfl dX12_strikes_44 (fun hv2337 h2336 => ?_)
        refine GO.iload_n dX12_strikes_47 rfl rfl ?_
        refine GO.zald (t := 55) rfl rfl h2336 r_i1617 (by omega) (by omega) dX12_strikes_48 (fun l2338 u2339 => ?_)
        refine GO.if_eq (tgt := 123) dX12_strikes_49 (by decide) vi_ir (fun c2340 => ?_) (fun c2340 => ?_)
        ·
          refine GO.iinc (X := i1617) (n := (-1)) (Y := i1617 + (-1)) (ls1 := [some (.ref x), some (ti p0), some (ti (i1617 + (-1))), some (ti i1995), none]) dX12_strikes_123 rfl rfl rfl rfl ?_
          refine GO.goto (tgt := 27) dX12_strikes_126 (by decide) ?_
          refine GO.drop [true, true, true, false, true] rfl ?_
          exact ih1992 (i1617 + (-1)) Wi1995 ⟨by omega, by omega, by omega, (by first | exact RS2.beg hr1 (by omega) (by omega) | exact RS3.e1 hr3 (by omega) hMT (by omega) (by omega) | exact RS3.e2 hr3 (by omega) hBB (by omega) (by omega)), trivial⟩ (by show ((i1617 + (-1)) + 2147483648).toNat < (i1617 + 2147483648).toNat; omega)
        ·
          refine GO.bipush dX12_strikes_52 rfl ?_
          refine GO.iload_n dX12_strikes_54 rfl rfl ?_
          refine GO.imul dX12_strikes_55 ?_
          refine GO.iload_n dX12_strikes_56 rfl rfl ?_
          refine GO.iadd dX12_strikes_57 ?_
          refine GO.name (fun z2341 hz2342 => ?_)
          refine GO.istore (ls1 := [some (.ref x), some (ti p0), some (ti i1617), some (ti i1995), some (ti z2341)]) dX12_strikes_58 rfl rfl ?_
          refine GO.aload_n dX12_strikes_60 rfl rfl ?_
          refine GO.getA (n := 240) h_x fl_RX12_124 rfl rfl rfl rfl dX12_strikes_61 (fun hv2344 h2343 => ?_)
          refine GO.iload dX12_strikes_64 rfl ?_
          refine GO.iald (t := 44) rfl rfl h2343 ⟨by omega, by omega⟩ (by omega) (by omega) dX12_strikes_66 (fun _ _ => ?_)
          refine GO.bipush dX12_strikes_67 rfl ?_
          refine GO.icmp_ne (tgt := 117) dX12_strikes_69 (by decide) vi_ir (ir_c rfl) (fun c2345 => ?_) (fun c2345 => ?_)
          ·
            refine GO.iinc (X := i1995) (n := 1) (Y := i1995 + 1) (ls1 := [some (.ref x), some (ti p0), some (ti i1617), some (ti (i1995 + 1)), some (ti z2341)]) dX12_strikes_117 rfl rfl rfl rfl ?_
            refine GO.goto (tgt := 33) dX12_strikes_120 (by decide) ?_
            refine GO.drop [true, true, true, true, false] rfl ?_
            exact ih2329 (i1995 + 1) Wi1995 ⟨by omega, by omega, (by first | exact RS3.beg hr2 | exact RS3.n1 hr3 (by omega) (by omega) hMT (by assumption) (by omega) (by omega) | exact RS3.n2 hr3 (by omega) (by omega) (by assumption) (by omega) (by omega) | exact RS3.n3 hr3 (by omega) (by omega) hMT (by assumption) (by omega) (by omega) | exact RS3.hit hr3 (by omega) (by omega) hMT hBB (by omega) (by omega) (by assumption) (by omega) (by omega) (by omega) rfl (by assumption) (K_ne h_x (by assumption) (by simp)) (by omega)), trivial⟩ (by show (2147483647 - (i1995 + 1)).toNat < (2147483647 - i1995).toNat; omega)
          ·
            refine GO.aload_n dX12_strikes_72 rfl rfl ?_
            refine GO.getA (n := 240) h_x fl_RX12_160 rfl rfl rfl rfl dX12_strikes_73 (fun hv2347 h2346 => ?_)
            refine GO.iload dX12_strikes_76 rfl ?_
            refine GO.zald (t := 56) rfl rfl h2346 ⟨by omega, by omega⟩ (by omega) (by omega) dX12_strikes_78 (fun l2348 u2349 => ?_)
            refine GO.if_ne (tgt := 117) dX12_strikes_79 (by decide) vi_ir (fun c2350 => ?_) (fun c2350 => ?_)
            ·
              refine GO.iinc (X := i1995) (n := 1) (Y := i1995 + 1) (ls1 := [some (.ref x), some (ti p0), some (ti i1617), some (ti (i1995 + 1)), some (ti z2341)]) dX12_strikes_117 rfl rfl rfl rfl ?_
              refine GO.goto (tgt := 33) dX12_strikes_120 (by decide) ?_
              refine GO.drop [true, true, true, true, false] rfl ?_
              exact ih2329 (i1995 + 1) Wi1995 ⟨by omega, by omega, (by first | exact RS3.beg hr2 | exact RS3.n1 hr3 (by omega) (by omega) hMT (by assumption) (by omega) (by omega) | exact RS3.n2 hr3 (by omega) (by omega) (by assumption) (by omega) (by omega) | exact RS3.n3 hr3 (by omega) (by omega) hMT (by assumption) (by omega) (by omega) | exact RS3.hit hr3 (by omega) (by omega) hMT hBB (by omega) (by omega) (by assumption) (by omega) (by omega) (by omega) rfl (by assumption) (K_ne h_x (by assumption) (by simp)) (by omega)), trivial⟩ (by show (2147483647 - (i1995 + 1)).toNat < (2147483647 - i1995).toNat; omega)
            ·
              refine GO.aload_n dX12_strikes_82 rfl rfl ?_
              refine GO.getA (n := 240) h_x fl_RX12_136 rfl rfl rfl rfl dX12_strikes_83 (fun hv2352 h2351 => ?_)
              refine GO.iload dX12_strikes_86 rfl ?_
              refine GO.iald (t := 48) rfl rfl h2351 ⟨by omega, by omega⟩ (by omega) (by omega) dX12_strikes_88 (fun l2353 u2354 => ?_)
              refine GO.iload_n dX12_strikes_89 rfl rfl ?_
              refine GO.icmp_ge (tgt := 117) dX12_strikes_90 (by decide) vi_ir r_i1617 (fun c2355 => ?_) (fun c2355 => ?_)
              ·
                refine GO.iinc (X := i1995) (n := 1) (Y := i1995 + 1) (ls1 := [some (.ref x), some (ti p0), some (ti i1617), some (ti (i1995 + 1)), some (ti z2341)]) dX12_strikes_117 rfl rfl rfl rfl ?_
                refine GO.goto (tgt := 33) dX12_strikes_120 (by decide) ?_
                refine GO.drop [true, true, true, true, false] rfl ?_
                exact ih2329 (i1995 + 1) Wi1995 ⟨by omega, by omega, (by first | exact RS3.beg hr2 | exact RS3.n1 hr3 (by omega) (by omega) hMT (by assumption) (by omega) (by omega) | exact RS3.n2 hr3 (by omega) (by omega) (by assumption) (by omega) (by omega) | exact RS3.n3 hr3 (by omega) (by omega) hMT (by assumption) (by omega) (by omega) | exact RS3.hit hr3 (by omega) (by omega) hMT hBB (by omega) (by omega) (by assumption) (by omega) (by omega) (by omega) rfl (by assumption) (K_ne h_x (by assumption) (by simp)) (by omega)), trivial⟩ (by show (2147483647 - (i1995 + 1)).toNat < (2147483647 - i1995).toNat; omega)
              ·
                refine GO.aload_n dX12_strikes_93 rfl rfl ?_
                refine GO.getRaw h_x fl_RX12_160 hv2347 dX12_strikes_94 ?_
                refine GO.bipush dX12_strikes_97 rfl ?_
                refine GO.aload_n dX12_strikes_99 rfl rfl ?_
                refine GO.getRaw h_x fl_RX12_136 hv2352 dX12_strikes_100 ?_
                refine GO.iload dX12_strikes_103 rfl ?_
                refine GO.iald (t := 48) rfl rfl h2351 ⟨by omega, by omega⟩ (by omega) (by omega) dX12_strikes_105 (fun l2360 u2361 => ?_)
                refine GO.imul dX12_strikes_106 ?_
                refine GO.aload_n dX12_strikes_107 rfl rfl ?_
                refine GO.getA (n := 240) h_x fl_RX12_139 rfl rfl rfl rfl dX12_strikes_108 (fun hv2363 h2362 => ?_)
                refine GO.iload dX12_strikes_111 rfl ?_
                refine GO.iald (t := 49) rfl rfl h2362 ⟨by omega, by omega⟩ (by omega) (by omega) dX12_strikes_113 (fun l2364 u2365 => ?_)
                refine GO.iadd dX12_strikes_114 ?_
                refine GO.iconst dX12_strikes_115 ?_
                refine GO.zast (t := 56) rfl rfl (by decide +kernel) h2346 ⟨by omega, by omega⟩ (by omega) (by omega) (by omega) (by omega) (by omega) dX12_strikes_116 (fun V2367 e2366 => ?_)
                refine GO.iinc (X := i1995) (n := 1) (Y := i1995 + 1) (ls1 := [some (.ref x), some (ti p0), some (ti i1617), some (ti (i1995 + 1)), some (ti z2341)]) dX12_strikes_117 rfl rfl rfl rfl ?_
                refine GO.goto (tgt := 33) dX12_strikes_120 (by decide) ?_
                refine GO.drop [true, true, true, true, false] rfl ?_
                exact ih2329 (i1995 + 1) V2367 ⟨by omega, by omega, (by first | exact RS3.beg hr2 | exact RS3.n1 hr3 (by omega) (by omega) hMT (by assumption) (by omega) (by omega) | exact RS3.n2 hr3 (by omega) (by omega) (by assumption) (by omega) (by omega) | exact RS3.n3 hr3 (by omega) (by omega) hMT (by assumption) (by omega) (by omega) | exact RS3.hit hr3 (by omega) (by omega) hMT hBB (by omega) (by omega) (by assumption) (by omega) (by omega) (by omega) rfl (by assumption) (K_ne h_x (by assumption) (by simp)) (by omega)), trivial⟩ (by show (2147483647 - (i1995 + 1)).toNat < (2147483647 - i1995).toNat; omega)
  ·
    refine GO.aload_n dX12_strikes_10 rfl rfl ?_
    refine GO.getA (n := 240) h_x fl_RX12_160 rfl rfl rfl rfl dX12_strikes_11 (fun hv2369 h2368 => ?_)
    refine GO.iload_n dX12_strikes_14 rfl rfl ?_
    refine GO.iconst dX12_strikes_15 ?_
    refine GO.zast (t := 56) rfl rfl (by decide +kernel) h2368 r_i1 (by omega) (by omega) (by omega) (by omega) (by omega) dX12_strikes_16 (fun V2371 e2370 => ?_)
    refine GO.iinc (X := i1) (n := 1) (Y := i1 + 1) (ls1 := [some (.ref x), some (ti p0), some (ti (i1 + 1)), none, none]) dX12_strikes_17 rfl rfl rfl rfl ?_
    refine GO.goto (tgt := 2) dX12_strikes_20 (by decide) ?_
    exact ih1611 (i1 + 1) V2371 ⟨by omega, by omega, (by first | exact RS1.beg | exact RS1.step hr1 (by assumption) (K_ne h_x (by assumption) (by simp)) (by omega) (by omega)), trivial⟩ (by show (2147483647 - (i1 + 1)).toNat < (2147483647 - i1).toNat; omega)

set_option maxHeartbeats 1000000 in
theorem t_X12_numberBy {K : Kmap} {V : Vmap} {x : Nat} {p0 : Int} {p1 : Int} {p2 : Int} {p3 : Int} (h_x : K x = some (0, 11)) (r_p0 : ir p0) (r_p1 : ir p1) (r_p2 : ir p2) (r_p3 : ir p3) (q_0 : p3 ≥ 0) (q_1 : p3 ≤ 20) : MC mX12_numberBy K V [.ref x, ti p0, ti p1, ti p2, ti p3] (IP K V (fun X => (X ≥ (-2147483648) ∧ X ≤ 2147483647) ∧ (NMB V x p0 p1 p2 p3 X))) := by
  refine MC.start 3 (by decide +kernel) rfl rfl rfl (ls0 := [some (.ref x), some (ti p0), some (ti p1), some (ti p2), some (ti p3), none, none, none]) rfl ?_
  refine GO.iload dX12_numberBy_0 rfl ?_
  refine GO.iconst dX12_numberBy_2 ?_
  refine GO.isub dX12_numberBy_3 ?_
  refine GO.name (fun z1 hz2 => ?_)
  refine GO.istore (ls1 := [some (.ref x), some (ti p0), some (ti p1), some (ti p2), some (ti p3), some (ti z1), none, none]) dX12_numberBy_4 rfl rfl ?_
  have q4 : -2147483648 ≤ p3 ∧ p3 ≤ 2147483647 := r_p3
  refine GO.loop1 (fun i3 W => (-1) ≤ i3 ∧ i3 ≤ 19 ∧ (i3 < p3) ∧ (NB1 V x p0 p1 p2 p3 i3) ∧ V = W) (fun i3 => [some (.ref x), some (ti p0), some (ti p1), some (ti p2), some (ti p3), some (ti i3), none, none]) (fun i3 W => (i3 + 2147483648).toNat) z1 ⟨by omega, by omega, by omega, (by first | exact NB1.beg (by omega) (by omega)), rfl⟩ rfl (fun i3 V74 hp76 ih75 => ?_)
  obtain ⟨l_i3, u_i3, n_i3, hn1, rfl⟩ := hp76
  have r_i3 : ir i3 := ⟨by omega, by omega⟩
  show GO mX12_numberBy K V (IP K V (fun X => (X ≥ (-2147483648) ∧ X ≤ 2147483647) ∧ (NMB V x p0 p1 p2 p3 X))) K V 0 0 6 [some (.ref x), some (ti p0), some (ti p1), some (ti p2), some (ti p3), some (ti i3), none, none] []
  refine GO.iload dX12_numberBy_6 rfl ?_
  refine GO.if_lt (tgt := 110) dX12_numberBy_8 (by decide) r_i3 (fun c77 => ?_) (fun c77 => ?_)
  ·
    refine GO.iconst dX12_numberBy_110 ?_
    exact GO.reti rfl rfl dX12_numberBy_111 ⟨rfl, rfl, _, rfl, (ir_c rfl), ⟨(by first | exact trivial | omega), (by first | exact NMB.none hn1 (by omega) rfl)⟩⟩
  ·
    refine GO.aload_n dX12_numberBy_11 rfl rfl ?_
    refine GO.getA (n := 20) h_x fl_RX12_115 rfl rfl rfl rfl dX12_numberBy_12 (fun hv79 h78 => ?_)
    refine GO.iload dX12_numberBy_15 rfl ?_
    refine GO.iald (t := 41) rfl rfl h78 r_i3 (by omega) (by omega) dX12_numberBy_17 (fun l80 u81 => ?_)
    refine GO.iconst dX12_numberBy_18 ?_
    refine GO.isub dX12_numberBy_19 ?_
    refine GO.name (fun z82 hz83 => ?_)
    refine GO.istore (ls1 := [some (.ref x), some (ti p0), some (ti p1), some (ti p2), some (ti p3), some (ti i3), some (ti z82), none]) dX12_numberBy_20 rfl rfl ?_
    refine GO.loop1 (fun i84 W => (-1) ≤ i84 ∧ i84 ≤ 11 ∧ (NB2 V x p0 p1 p2 p3 i3 i84) ∧ V = W) (fun i84 => [some (.ref x), some (ti p0), some (ti p1), some (ti p2), some (ti p3), some (ti i3), some (ti i84), none]) (fun i84 W => (i84 + 2147483648).toNat) z82 ⟨by omega, by omega, (by first | exact NB2.beg (by omega) (by omega) (by omega)), rfl⟩ rfl (fun i84 V114 hp116 ih115 => ?_)
    obtain ⟨l_i84, u_i84, hn2, rfl⟩ := hp116
    have r_i84 : ir i84 := ⟨by omega, by omega⟩
    show GO mX12_numberBy K V (IP K V (fun X => (X ≥ (-2147483648) ∧ X ≤ 2147483647) ∧ (NMB V x p0 p1 p2 p3 X))) K V 0 0 22 [some (.ref x), some (ti p0), some (ti p1), some (ti p2), some (ti p3), some (ti i3), some (ti i84), none] []
    refine GO.iload dX12_numberBy_22 rfl ?_
    refine GO.if_lt (tgt := 104) dX12_numberBy_24 (by decide) r_i84 (fun c117 => ?_) (fun c117 => ?_)
    ·
      refine GO.iinc (X := i3) (n := (-1)) (Y := i3 + (-1)) (ls1 := [some (.ref x), some (ti p0), some (ti p1), some (ti p2), some (ti p3), some (ti (i3 + (-1))), some (ti i84), none]) dX12_numberBy_104 rfl rfl rfl rfl ?_
      refine GO.goto (tgt := 6) dX12_numberBy_107 (by decide) ?_
      refine GO.drop [true, true, true, true, true, true, false, true] rfl ?_
      exact ih75 (i3 + (-1)) V ⟨by omega, by omega, by omega, (by first | exact NB1.beg (by omega) (by omega) | exact NB1.step hn1 hn2 (by omega) (by omega) (by omega) | exact NB1.skip hn1 (by omega) (by omega) (by omega)), rfl⟩ (by show ((i3 + (-1)) + 2147483648).toNat < (i3 + 2147483648).toNat; omega)
    ·
      refine GO.aload_n dX12_numberBy_27 rfl rfl ?_
      refine GO.getA (n := 20) h_x fl_RX12_157 rfl rfl rfl rfl dX12_numberBy_28 (fun hv119 h118 => ?_)
      refine GO.iload dX12_numberBy_31 rfl ?_
      refine GO.zald (t := 55) rfl rfl h118 r_i3 (by omega) (by omega) dX12_numberBy_33 (fun l120 u121 => ?_)
      refine GO.if_eq (tgt := 104) dX12_numberBy_34 (by decide) vi_ir (fun c122 => ?_) (fun c122 => ?_)
      ·
        refine GO.iinc (X := i3) (n := (-1)) (Y := i3 + (-1)) (ls1 := [some (.ref x), some (ti p0), some (ti p1), some (ti p2), some (ti p3), some (ti (i3 + (-1))), some (ti i84), none]) dX12_numberBy_104 rfl rfl rfl rfl ?_
        refine GO.goto (tgt := 6) dX12_numberBy_107 (by decide) ?_
        refine GO.drop [true, true, true, true, true, true, false, true] rfl ?_
        exact ih75 (i3 + (-1)) V ⟨by omega, by omega, by omega, (by first | exact NB1.beg (by omega) (by omega) | exact NB1.step hn1 hn2 (by omega) (by omega) (by omega) | exact NB1.skip hn1 (by omega) (by omega) (by omega)), rfl⟩ (by show ((i3 + (-1)) + 2147483648).toNat < (i3 + 2147483648).toNat; omega)
      ·
        refine GO.bipush dX12_numberBy_37 rfl ?_
        refine GO.iload dX12_numberBy_39 rfl ?_
        refine GO.imul dX12_numberBy_41 ?_
        refine GO.iload dX12_numberBy_42 rfl ?_
        refine GO.iadd dX12_numberBy_44 ?_
        refine GO.name (fun z123 hz124 => ?_)
        refine GO.istore (ls1 := [some (.ref x), some (ti p0), some (ti p1), some (ti p2), some (ti p3), some (ti i3), some (ti i84), some (ti z123)]) dX12_numberBy_45 rfl rfl ?_
        refine GO.aload_n dX12_numberBy_47 rfl rfl ?_
        refine GO.getA (n := 240) h_x fl_RX12_124 rfl rfl rfl rfl dX12_numberBy_48 (fun hv126 h125 => ?_)
        refine GO.iload dX12_numberBy_51 rfl ?_
        refine GO.iald (t := 44) rfl rfl h125 ⟨by omega, by omega⟩ (by omega) (by omega) dX12_numberBy_53 (fun _ _ => ?_)
        refine GO.iload_n dX12_numberBy_54 rfl rfl ?_
        refine GO.icmp_ne (tgt := 98) dX12_numberBy_55 (by decide) vi_ir r_p0 (fun c127 => ?_) (fun c127 => ?_)
        ·
          refine GO.iinc (X := i84) (n := (-1)) (Y := i84 + (-1)) (ls1 := [some (.ref x), some (ti p0), some (ti p1), some (ti p2), some (ti p3), some (ti i3), some (ti (i84 + (-1))), some (ti z123)]) dX12_numberBy_98 rfl rfl rfl rfl ?_
          refine GO.goto (tgt := 22) dX12_numberBy_101 (by decide) ?_
          refine GO.drop [true, true, true, true, true, true, true, false] rfl ?_
          exact ih115 (i84 + (-1)) V ⟨by omega, by omega, (by first | exact NB2.beg (by omega) (by omega) (by omega) | exact NB2.n0 hn2 (by omega) (by omega) (by omega) (by assumption) (by omega) (by omega) | exact NB2.ns hn2 (by omega) (by omega) (by omega) (by assumption) (by omega) (by omega) | exact NB2.na hn2 (by omega) (by omega) (by omega) (by assumption) (by omega) (by omega) | exact NB2.nb hn2 (by omega) (by omega) (by omega) (by assumption) (by omega) (by omega)), rfl⟩ (by show ((i84 + (-1)) + 2147483648).toNat < (i84 + 2147483648).toNat; omega)
        ·
          refine GO.aload_n dX12_numberBy_58 rfl rfl ?_
          refine GO.getA (n := 240) h_x fl_RX12_160 rfl rfl rfl rfl dX12_numberBy_59 (fun hv129 h128 => ?_)
          refine GO.iload dX12_numberBy_62 rfl ?_
          refine GO.zald (t := 56) rfl rfl h128 ⟨by omega, by omega⟩ (by omega) (by omega) dX12_numberBy_64 (fun l130 u131 => ?_)
          refine GO.if_ne (tgt := 98) dX12_numberBy_65 (by decide) vi_ir (fun c132 => ?_) (fun c132 => ?_)
          ·
            refine GO.iinc (X := i84) (n := (-1)) (Y := i84 + (-1)) (ls1 := [some (.ref x), some (ti p0), some (ti p1), some (ti p2), some (ti p3), some (ti i3), some (ti (i84 + (-1))), some (ti z123)]) dX12_numberBy_98 rfl rfl rfl rfl ?_
            refine GO.goto (tgt := 22) dX12_numberBy_101 (by decide) ?_
            refine GO.drop [true, true, true, true, true, true, true, false] rfl ?_
            exact ih115 (i84 + (-1)) V ⟨by omega, by omega, (by first | exact NB2.beg (by omega) (by omega) (by omega) | exact NB2.n0 hn2 (by omega) (by omega) (by omega) (by assumption) (by omega) (by omega) | exact NB2.ns hn2 (by omega) (by omega) (by omega) (by assumption) (by omega) (by omega) | exact NB2.na hn2 (by omega) (by omega) (by omega) (by assumption) (by omega) (by omega) | exact NB2.nb hn2 (by omega) (by omega) (by omega) (by assumption) (by omega) (by omega)), rfl⟩ (by show ((i84 + (-1)) + 2147483648).toNat < (i84 + 2147483648).toNat; omega)
          ·
            refine GO.aload_n dX12_numberBy_68 rfl rfl ?_
            refine GO.getA (n := 240) h_x fl_RX12_136 rfl rfl rfl rfl dX12_numberBy_69 (fun hv134 h133 => ?_)
            refine GO.iload dX12_numberBy_72 rfl ?_
            refine GO.iald (t := 48) rfl rfl h133 ⟨by omega, by omega⟩ (by omega) (by omega) dX12_numberBy_74 (fun l135 u136 => ?_)
            refine GO.iload_n dX12_numberBy_75 rfl rfl ?_
            refine GO.icmp_ne (tgt := 98) dX12_numberBy_76 (by decide) vi_ir r_p1 (fun c137 => ?_) (fun c137 => ?_)
            ·
              refine GO.iinc (X := i84) (n := (-1)) (Y := i84 + (-1)) (ls1 := [some (.ref x), some (ti p0), some (ti p1), some (ti p2), some (ti p3), some (ti i3), some (ti (i84 + (-1))), some (ti z123)]) dX12_numberBy_98 rfl rfl rfl rfl ?_
              refine GO.goto (tgt := 22) dX12_numberBy_101 (by decide) ?_
              refine GO.drop [true, true, true, true, true, true, true, false] rfl ?_
              exact ih115 (i84 + (-1)) V ⟨by omega, by omega, (by first | exact NB2.beg (by omega) (by omega) (by omega) | exact NB2.n0 hn2 (by omega) (by omega) (by omega) (by assumption) (by omega) (by omega) | exact NB2.ns hn2 (by omega) (by omega) (by omega) (by assumption) (by omega) (by omega) | exact NB2.na hn2 (by omega) (by omega) (by omega) (by assumption) (by omega) (by omega) | exact NB2.nb hn2 (by omega) (by omega) (by omega) (by assumption) (by omega) (by omega)), rfl⟩ (by show ((i84 + (-1)) + 2147483648).toNat < (i84 + 2147483648).toNat; omega)
            ·
              refine GO.aload_n dX12_numberBy_79 rfl rfl ?_
              refine GO.getA (n := 240) h_x fl_RX12_139 rfl rfl rfl rfl dX12_numberBy_80 (fun hv139 h138 => ?_)
              refine GO.iload dX12_numberBy_83 rfl ?_
              refine GO.iald (t := 49) rfl rfl h138 ⟨by omega, by omega⟩ (by omega) (by omega) dX12_numberBy_85 (fun l140 u141 => ?_)
              refine GO.iload_n dX12_numberBy_86 rfl rfl ?_
              refine GO.icmp_ne (tgt := 98) dX12_numberBy_87 (by decide) vi_ir r_p2 (fun c142 => ?_) (fun c142 => ?_)
              ·
                refine GO.iinc (X := i84) (n := (-1)) (Y := i84 + (-1)) (ls1 := [some (.ref x), some (ti p0), some (ti p1), some (ti p2), some (ti p3), some (ti i3), some (ti (i84 + (-1))), some (ti z123)]) dX12_numberBy_98 rfl rfl rfl rfl ?_
                refine GO.goto (tgt := 22) dX12_numberBy_101 (by decide) ?_
                refine GO.drop [true, true, true, true, true, true, true, false] rfl ?_
                exact ih115 (i84 + (-1)) V ⟨by omega, by omega, (by first | exact NB2.beg (by omega) (by omega) (by omega) | exact NB2.n0 hn2 (by omega) (by omega) (by omega) (by assumption) (by omega) (by omega) | exact NB2.ns hn2 (by omega) (by omega) (by omega) (by assumption) (by omega) (by omega) | exact NB2.na hn2 (by omega) (by omega) (by omega) (by assumption) (by omega) (by omega) | exact NB2.nb hn2 (by omega) (by omega) (by omega) (by assumption) (by omega) (by omega)), rfl⟩ (by show ((i84 + (-1)) + 2147483648).toNat < (i84 + 2147483648).toNat; omega)
              ·
                refine GO.aload_n dX12_numberBy_90 rfl rfl ?_
                refine GO.getA (n := 240) h_x fl_RX12_133 rfl rfl rfl rfl dX12_numberBy_91 (fun hv144 h143 => ?_)
                refine GO.iload dX12_numberBy_94 rfl ?_
                refine GO.iald (t := 47) rfl rfl h143 ⟨by omega, by omega⟩ (by omega) (by omega) dX12_numberBy_96 (fun _ _ => ?_)
                have q145 : -2147483648 ≤ vi V (vq V x 56) (z123).toNat ∧ vi V (vq V x 56) (z123).toNat ≤ 2147483647 := vi_ir
                exact GO.reti rfl rfl dX12_numberBy_97 ⟨rfl, rfl, _, rfl, vi_ir, ⟨(by first | exact trivial | omega), (by first | exact NMB.none hn1 (by omega) rfl | exact NMB.hit hn1 hn2 (by omega) (by omega) (by omega) (by omega) (by assumption) (by omega) (by omega) (by omega) (by omega) rfl)⟩⟩

set_option maxHeartbeats 1000000 in
theorem t_X12_binds {K : Kmap} {V : Vmap} {x : Nat} {p0 : Int} {p1 : Int} (h_x : K x = some (0, 11)) (r_p0 : ir p0) (r_p1 : ir p1) (q_0 : p0 ≥ 0) (q_1 : p0 ≤ 8) : MC mX12_binds K V [.ref x, ti p0, ti p1] (VS K (fun V1 => (True) ∧ (RBD V V1 x p0 p1))) := by
  refine MC.start 4 (by decide +kernel) rfl rfl rfl (ls0 := [some (.ref x), some (ti p0), some (ti p1), none, none, none, none]) rfl ?_
  refine GO.useWT (fun hW_0 => ?_)
  refine GO.iconst dX12_binds_0 ?_
  refine GO.istore_n (ls1 := [some (.ref x), some (ti p0), some (ti p1), some (ti 0), none, none, none]) dX12_binds_1 rfl rfl rfl ?_
  refine GO.loop1 (fun i1 W => 0 ≤ i1 ∧ i1 ≤ 20 ∧ (RB1 V W x p0 p1 i1) ∧ True) (fun i1 => [some (.ref x), some (ti p0), some (ti p1), some (ti i1), none, none, none]) (fun i1 W => (2147483647 - i1).toNat) 0 ⟨by omega, by omega, (by first | exact RB1.beg | exact RB1.nf hrb hMT (by omega) (by omega) (by omega) (by assumption) (K_ne h_x (by assumption) (by simp)) (by omega) | exact RB1.ny hrb (by omega) (by omega) hYY (by omega) (by assumption) (K_ne h_x (by assumption) (by simp)) (by omega) | exact RB1.g (g1 := 0) (by assumption) hrb hMT hMT2 (by omega) (by omega) (by omega) ⟨by omega, by omega⟩ hYY (by assumption) (by omega) (by omega) (by omega) rw58 hBB2 rw67 (Or.inl ⟨by omega, rfl⟩) (by assumption) (by constructor <;> intro _ <;> omega) (ir_c rfl) (K_ne h_x (by assumption) (by simp)) (by omega) | exact RB1.ga (by assumption) hrb hMT hMT2 (by omega) (by omega) (by omega) ⟨by omega, by omega⟩ hYY (by assumption) (by omega) (by omega) (by omega) rw58 hBB2 rw67 (by omega) (by assumption) (by constructor <;> intro _ <;> omega) (ir_c rfl) (K_ne h_x (by assumption) (by simp)) (by omega)), trivial⟩ rfl (fun i1 Wi1 hp600 ih599 => ?_)
  obtain ⟨l_i1, u_i1, hrb, -⟩ := hp600
  have r_i1 : ir i1 := ⟨by omega, by omega⟩
  show GO mX12_binds K V (VS K (fun V1 => (True) ∧ (RBD V V1 x p0 p1))) K Wi1 0 0 2 [some (.ref x), some (ti p0), some (ti p1), some (ti i1), none, none, none] []
  refine GO.useFR (fun hFs => ?_)
  have hMT : ∀ L, MTS V x L → MTS Wi1 x L := fun L h => h.fr hFs ext.rf hW_0 h_x (by decide +kernel)
  have hYY : ∀ q u, yrm Wi1 x q u = yrm V x q u := (YMS.fr hFs ext.rf hW_0 h_x (by decide +kernel)).2
  refine GO.useWT (fun hWh => ?_)
  refine GO.iload_n dX12_binds_2 rfl rfl ?_
  refine GO.aload_n dX12_binds_3 rfl rfl ?_
  refine GO.getI h_x fl_RX12_535 rfl rfl dX12_binds_4 (fun l601 u602 => ?_)
  refine GO.icmp_ge (tgt := 122) dX12_binds_7 (by decide) r_i1 vi_ir (fun c603 => ?_) (fun c603 => ?_)
  ·
    refine GO.aload_n dX12_binds_122 rfl rfl ?_
    refine GO.aload_n dX12_binds_123 rfl rfl ?_
    refine GO.getI h_x fl_RX12_535 rfl rfl dX12_binds_124 (fun l604 u605 => ?_)
    refine GO.callV (ci := 11) (N := mX12_strikes) dX12_binds_127 (RX12, TX12, 151) rfl gV_RX12_550 h_x (t_X12_strikes h_x vi_ir (by omega) (by omega)) rfl [] rfl rfl (Nat.le_of_ble_eq_true rfl) rfl (k_vs fun V608 h607 hF606 => ?_)
    have raw_strikes := h607.2
    have rw127 := h607.2
    refine GO.useFR (fun hFs => ?_)
    have hMT2 : ∀ L, MTS V x L → MTS V608 x L := fun L h => h.fr hFs ext.rf hW_0 h_x (by decide +kernel)
    have hBB2 := isb_fr (V1 := V608) (m := x) hF606 h_x hWh (by decide +kernel) (by decide +kernel)
    exact GO.retv rfl rfl dX12_binds_130 ⟨rfl, rfl, ⟨trivial, RBD.mk hrb hMT hMT2 (by omega) hBB2 rw127⟩⟩
  ·
    refine GO.iload_n dX12_binds_10 rfl rfl ?_
    refine GO.aload_n dX12_binds_11 rfl rfl ?_
    refine GO.getA (n := 20) h_x fl_RX12_118 rfl rfl rfl rfl dX12_binds_12 (fun hv610 h609 => ?_)
    refine GO.iload_n dX12_binds_15 rfl rfl ?_
    refine GO.iald (t := 42) rfl rfl h609 r_i1 (by omega) (by omega) dX12_binds_16 (fun _ _ => ?_)
    refine GO.aload_n dX12_binds_17 rfl rfl ?_
    refine GO.getA (n := 20) h_x fl_RX12_121 rfl rfl rfl rfl dX12_binds_18 (fun hv612 h611 => ?_)
    refine GO.iload_n dX12_binds_21 rfl rfl ?_
    refine GO.iald (t := 43) rfl rfl h611 r_i1 (by omega) (by omega) dX12_binds_22 (fun _ _ => ?_)
    refine GO.callS (N := mX12_in) dX12_binds_23 gS_RX12_371 (t_X12_in r_p1 vi_ir vi_ir) rfl [] rfl rfl (Nat.le_of_ble_eq_true rfl) rfl (k_ip fun X613 r614 h615 => ?_)
    have raw_in := h615.2.2.2
    have rw23 := h615.2.2.2
    refine GO.istore (ls1 := [some (.ref x), some (ti p0), some (ti p1), some (ti i1), some (ti X613), none, none]) dX12_binds_26 rfl rfl ?_
    refine GO.aload_n dX12_binds_28 rfl rfl ?_
    refine GO.getA (n := 180) h_x fl_RX12_142 rfl rfl rfl rfl dX12_binds_29 (fun hv617 h616 => ?_)
    refine GO.bipush dX12_binds_32 rfl ?_
    refine GO.iload_n dX12_binds_34 rfl rfl ?_
    refine GO.imul dX12_binds_35 ?_
    refine GO.iload_n dX12_binds_36 rfl rfl ?_
    refine GO.iadd dX12_binds_37 ?_
    have q618 : -2147483648 ≤ p0 ∧ p0 ≤ 2147483647 := r_p0
    refine GO.iald (t := 50) rfl rfl h616 ⟨by omega, by omega⟩ (by omega) (by omega) dX12_binds_38 (fun l619 u620 => ?_)
    refine GO.name (fun z621 hz622 => ?_)
    have r623 : ir z621 := hz622 ▸ vi_ir
    refine GO.istore (ls1 := [some (.ref x), some (ti p0), some (ti p1), some (ti i1), some (ti X613), some (ti z621), none]) dX12_binds_39 rfl rfl ?_
    refine GO.iload_n dX12_binds_41 rfl rfl ?_
    refine GO.if_le (tgt := 101) dX12_binds_42 (by decide) r_i1 (fun c624 => ?_) (fun c624 => ?_)
    ·
      refine GO.iload_n dX12_binds_101 rfl rfl ?_
      refine GO.if_le (tgt := 108) dX12_binds_102 (by decide) r_i1 (fun c625 => ?_) (fun h => by exfalso; omega)
      refine GO.aload_n dX12_binds_108 rfl rfl ?_
      refine GO.getA (n := 20) h_x fl_RX12_157 rfl rfl rfl rfl dX12_binds_109 (fun hv627 h626 => ?_)
      refine GO.iload_n dX12_binds_112 rfl rfl ?_
      refine GO.iload dX12_binds_113 rfl ?_
      refine GO.zast (t := 55) rfl rfl (by decide +kernel) h626 r_i1 (by omega) (by omega) (by omega) (by omega) (by omega) dX12_binds_115 (fun V629 e628 => ?_)
      refine GO.iinc (X := i1) (n := 1) (Y := i1 + 1) (ls1 := [some (.ref x), some (ti p0), some (ti p1), some (ti (i1 + 1)), some (ti X613), some (ti z621), none]) dX12_binds_116 rfl rfl rfl rfl ?_
      refine GO.goto (tgt := 2) dX12_binds_119 (by decide) ?_
      refine GO.drop [true, true, true, true, false, false, true] rfl ?_
      exact ih599 (i1 + 1) V629 ⟨by omega, by omega, (by first | exact RB1.beg | exact RB1.zz (by assumption) hrb hMT (by omega) (by omega) rw23 (by assumption) (K_ne h_x (by assumption) (by simp)) (by omega) | exact RB1.nf hrb hMT (by omega) (by omega) (by omega) (by assumption) (K_ne h_x (by assumption) (by simp)) (by omega) | exact RB1.ny hrb (by omega) (by omega) hYY (by omega) (by assumption) (K_ne h_x (by assumption) (by simp)) (by omega) | exact RB1.g (g1 := 0) (by assumption) hrb hMT hMT2 (by omega) (by omega) (by omega) ⟨by omega, by omega⟩ hYY (by assumption) (by omega) (by omega) (by omega) rw58 hBB2 rw67 (Or.inl ⟨by omega, rfl⟩) (by assumption) (by constructor <;> intro _ <;> omega) (ir_c rfl) (K_ne h_x (by assumption) (by simp)) (by omega) | exact RB1.ga (by assumption) hrb hMT hMT2 (by omega) (by omega) (by omega) ⟨by omega, by omega⟩ hYY (by assumption) (by omega) (by omega) (by omega) rw58 hBB2 rw67 (by omega) (by assumption) (by constructor <;> intro _ <;> omega) (ir_c rfl) (K_ne h_x (by assumption) (by simp)) (by omega)), trivial⟩ (by show (2147483647 - (i1 + 1)).toNat < (2147483647 - i1).toNat; omega)
    ·
      refine GO.iload dX12_binds_45 rfl ?_
      refine GO.if_eq (tgt := 101) dX12_binds_47 (by decide) r614 (fun c630 => ?_) (fun c630 => ?_)
      ·
        have q631 := h615.2.2.1 (by omega)
        refine GO.iload_n dX12_binds_101 rfl rfl ?_
        refine GO.if_le (tgt := 108) dX12_binds_102 (by decide) r_i1 (fun h => by exfalso; omega) (fun c632 => ?_)
        refine GO.iconst dX12_binds_105 ?_
        refine GO.istore (ls1 := [some (.ref x), some (ti p0), some (ti p1), some (ti i1), some (ti 0), some (ti z621), none]) dX12_binds_106 rfl rfl ?_
        refine GO.aload_n dX12_binds_108 rfl rfl ?_
        refine GO.getA (n := 20) h_x fl_RX12_157 rfl rfl rfl rfl dX12_binds_109 (fun hv634 h633 => ?_)
        refine GO.iload_n dX12_binds_112 rfl rfl ?_
        refine GO.iload dX12_binds_113 rfl ?_
        refine GO.zast (t := 55) rfl rfl (by decide +kernel) h633 r_i1 (by omega) (by omega) (by omega) (by omega) (by omega) dX12_binds_115 (fun V636 e635 => ?_)
        refine GO.iinc (X := i1) (n := 1) (Y := i1 + 1) (ls1 := [some (.ref x), some (ti p0), some (ti p1), some (ti (i1 + 1)), some (ti 0), some (ti z621), none]) dX12_binds_116 rfl rfl rfl rfl ?_
        refine GO.goto (tgt := 2) dX12_binds_119 (by decide) ?_
        refine GO.drop [true, true, true, true, false, false, true] rfl ?_
        exact ih599 (i1 + 1) V636 ⟨by omega, by omega, (by first | exact RB1.beg | exact RB1.zz (by assumption) hrb hMT (by omega) (by omega) rw23 (by assumption) (K_ne h_x (by assumption) (by simp)) (by omega) | exact RB1.nf hrb hMT (by omega) (by omega) (by omega) (by assumption) (K_ne h_x (by assumption) (by simp)) (by omega) | exact RB1.ny hrb (by omega) (by omega) hYY (by omega) (by assumption) (K_ne h_x (by assumption) (by simp)) (by omega) | exact RB1.g (g1 := 0) (by assumption) hrb hMT hMT2 (by omega) (by omega) (by omega) ⟨by omega, by omega⟩ hYY (by assumption) (by omega) (by omega) (by omega) rw58 hBB2 rw67 (Or.inl ⟨by omega, rfl⟩) (by assumption) (by constructor <;> intro _ <;> omega) (ir_c rfl) (K_ne h_x (by assumption) (by simp)) (by omega) | exact RB1.ga (by assumption) hrb hMT hMT2 (by omega) (by omega) (by omega) ⟨by omega, by omega⟩ hYY (by assumption) (by omega) (by omega) (by omega) rw58 hBB2 rw67 (by omega) (by assumption) (by constructor <;> intro _ <;> omega) (ir_c rfl) (K_ne h_x (by assumption) (by simp)) (by omega)), trivial⟩ (by show (2147483647 - (i1 + 1)).toNat < (2147483647 - i1).toNat; omega)
      ·
        have q637 := h615.2.1 (by omega)
        refine GO.iload dX12_binds_50 rfl ?_
        refine GO.iconst dX12_binds_52 ?_
        refine GO.icmp_eq (tgt := 101) dX12_binds_53 (by decide) r623 (ir_c rfl) (fun c638 => ?_) (fun c638 => ?_)
        ·
          refine GO.iload_n dX12_binds_101 rfl rfl ?_
          refine GO.if_le (tgt := 108) dX12_binds_102 (by decide) r_i1 (fun h => by exfalso; omega) (fun c639 => ?_)
          refine GO.iconst dX12_binds_105 ?_
          refine GO.istore (ls1 := [some (.ref x), some (ti p0), some (ti p1), some (ti i1), some (ti 0), some (ti z621), none]) dX12_binds_106 rfl rfl ?_
          refine GO.aload_n dX12_binds_108 rfl rfl ?_
          refine GO.getA (n := 20) h_x fl_RX12_157 rfl rfl rfl rfl dX12_binds_109 (fun hv641 h640 => ?_)
          refine GO.iload_n dX12_binds_112 rfl rfl ?_
          refine GO.iload dX12_binds_113 rfl ?_
          refine GO.zast (t := 55) rfl rfl (by decide +kernel) h640 r_i1 (by omega) (by omega) (by omega) (by omega) (by omega) dX12_binds_115 (fun V643 e642 => ?_)
          refine GO.iinc (X := i1) (n := 1) (Y := i1 + 1) (ls1 := [some (.ref x), some (ti p0), some (ti p1), some (ti (i1 + 1)), some (ti 0), some (ti z621), none]) dX12_binds_116 rfl rfl rfl rfl ?_
          refine GO.goto (tgt := 2) dX12_binds_119 (by decide) ?_
          refine GO.drop [true, true, true, true, false, false, true] rfl ?_
          exact ih599 (i1 + 1) V643 ⟨by omega, by omega, (by first | exact RB1.beg | exact RB1.zz (by assumption) hrb hMT (by omega) (by omega) rw23 (by assumption) (K_ne h_x (by assumption) (by simp)) (by omega) | exact RB1.nf hrb hMT (by omega) (by omega) (by omega) (by assumption) (K_ne h_x (by assumption) (by simp)) (by omega) | exact RB1.ny hrb (by omega) (by omega) hYY (by omega) (by assumption) (K_ne h_x (by assumption) (by simp)) (by omega) | exact RB1.g (g1 := 0) (by assumption) hrb hMT hMT2 (by omega) (by omega) (by omega) ⟨by omega, by omega⟩ hYY (by assumption) (by omega) (by omega) (by omega) rw58 hBB2 rw67 (Or.inl ⟨by omega, rfl⟩) (by assumption) (by constructor <;> intro _ <;> omega) (ir_c rfl) (K_ne h_x (by assumption) (by simp)) (by omega) | exact RB1.ga (by assumption) hrb hMT hMT2 (by omega) (by omega) (by omega) ⟨by omega, by omega⟩ hYY (by assumption) (by omega) (by omega) (by omega) rw58 hBB2 rw67 (by omega) (by assumption) (by constructor <;> intro _ <;> omega) (ir_c rfl) (K_ne h_x (by assumption) (by simp)) (by omega)), trivial⟩ (by show (2147483647 - (i1 + 1)).toNat < (2147483647 - i1).toNat; omega)
        ·
          refine GO.aload_n dX12_binds_56 rfl rfl ?_
          refine GO.iload_n dX12_binds_57 rfl rfl ?_
          refine GO.callV (ci := 11) (N := mX12_strikes) dX12_binds_58 (RX12, TX12, 151) rfl gV_RX12_550 h_x (t_X12_strikes h_x r_i1 (by omega) (by omega)) rfl [] rfl rfl (Nat.le_of_ble_eq_true rfl) rfl (k_vs fun V646 h645 hF644 => ?_)
          have raw_strikes := h645.2
          have rw58 := h645.2
          refine GO.useFR (fun hFs => ?_)
          have hMT2 : ∀ L, MTS V x L → MTS V646 x L := fun L h => h.fr hFs ext.rf hW_0 h_x (by decide +kernel)
          have hBB2 := isb_fr (V1 := V646) (m := x) hF644 h_x hWh (by decide +kernel) (by decide +kernel)
          refine GO.aload_n dX12_binds_61 rfl rfl ?_
          refine GO.bipush dX12_binds_62 rfl ?_
          refine GO.iconst dX12_binds_64 ?_
          refine GO.iconst dX12_binds_65 ?_
          refine GO.iload_n dX12_binds_66 rfl rfl ?_
          refine GO.callV (ci := 11) (N := mX12_numberBy) dX12_binds_67 (RX12, TX12, 151) rfl gV_RX12_553 h_x (t_X12_numberBy h_x (ir_c rfl) (ir_c rfl) (ir_c rfl) r_i1 (by omega) (by omega)) rfl [] rfl rfl (Nat.le_of_ble_eq_true rfl) rfl (k_ip fun X647 r648 h649 => ?_)
          have raw_numberBy := h649.2
          have rw67 := h649.2
          refine GO.istore (ls1 := [some (.ref x), some (ti p0), some (ti p1), some (ti i1), some (ti X613), some (ti z621), some (ti X647)]) dX12_binds_70 rfl rfl ?_
          refine GO.iload_n dX12_binds_72 rfl rfl ?_
          refine GO.iload dX12_binds_73 rfl ?_
          refine GO.isub dX12_binds_75 ?_
          refine GO.norm (fun z650 r651 hn652 => ?_)
          refine GO.iload dX12_binds_76 rfl ?_
          refine GO.iconst dX12_binds_78 ?_
          refine GO.icmp_ne (tgt := 86) dX12_binds_79 (by decide) r648 (ir_c rfl) (fun c653 => ?_) (fun c653 => ?_)
          ·
            refine GO.iload dX12_binds_86 rfl ?_
            refine GO.icmp_lt (tgt := 95) dX12_binds_88 (by decide) r651 r648 (fun c654 => ?_) (fun c654 => ?_)
            ·
              refine GO.iconst dX12_binds_95 ?_
              refine GO.istore (ls1 := [some (.ref x), some (ti p0), some (ti p1), some (ti i1), some (ti 0), some (ti z621), some (ti X647)]) dX12_binds_96 rfl rfl ?_
              refine GO.goto (tgt := 108) dX12_binds_98 (by decide) ?_
              refine GO.aload_n dX12_binds_108 rfl rfl ?_
              refine GO.getA (n := 20) h_x fl_RX12_157 rfl rfl rfl rfl dX12_binds_109 (fun hv656 h655 => ?_)
              refine GO.iload_n dX12_binds_112 rfl rfl ?_
              refine GO.iload dX12_binds_113 rfl ?_
              refine GO.zast (t := 55) rfl rfl (by decide +kernel) h655 r_i1 (by omega) (by omega) (by omega) (by omega) (by omega) dX12_binds_115 (fun V658 e657 => ?_)
              refine GO.iinc (X := i1) (n := 1) (Y := i1 + 1) (ls1 := [some (.ref x), some (ti p0), some (ti p1), some (ti (i1 + 1)), some (ti 0), some (ti z621), some (ti X647)]) dX12_binds_116 rfl rfl rfl rfl ?_
              refine GO.goto (tgt := 2) dX12_binds_119 (by decide) ?_
              refine GO.drop [true, true, true, true, false, false, false] rfl ?_
              exact ih599 (i1 + 1) V658 ⟨by omega, by omega, (by first | exact RB1.beg | exact RB1.zz (by assumption) hrb hMT (by omega) (by omega) rw23 (by assumption) (K_ne h_x (by assumption) (by simp)) (by omega) | exact RB1.nf hrb hMT (by omega) (by omega) (by omega) (by assumption) (K_ne h_x (by assumption) (by simp)) (by omega) | exact RB1.ny hrb (by omega) (by omega) hYY (by omega) (by assumption) (K_ne h_x (by assumption) (by simp)) (by omega) | exact RB1.g (g1 := 0) (by assumption) hrb hMT hMT2 (by omega) (by omega) (by omega) ⟨by omega, by omega⟩ hYY (by assumption) (by omega) (by omega) (by omega) rw58 hBB2 rw67 (Or.inl ⟨by omega, rfl⟩) (by assumption) (by constructor <;> intro _ <;> omega) (ir_c rfl) (K_ne h_x (by assumption) (by simp)) (by omega) | exact RB1.ga (by assumption) hrb hMT hMT2 (by omega) (by omega) (by omega) ⟨by omega, by omega⟩ hYY (by assumption) (by omega) (by omega) (by omega) rw58 hBB2 rw67 (by omega) (by assumption) (by constructor <;> intro _ <;> omega) (ir_c rfl) (K_ne h_x (by assumption) (by simp)) (by omega)), trivial⟩ (by show (2147483647 - (i1 + 1)).toNat < (2147483647 - i1).toNat; omega)
            ·
              refine GO.iconst dX12_binds_91 ?_
              refine GO.goto (tgt := 96) dX12_binds_92 (by decide) ?_
              refine GO.istore (ls1 := [some (.ref x), some (ti p0), some (ti p1), some (ti i1), some (ti 1), some (ti z621), some (ti X647)]) dX12_binds_96 rfl rfl ?_
              refine GO.goto (tgt := 108) dX12_binds_98 (by decide) ?_
              refine GO.aload_n dX12_binds_108 rfl rfl ?_
              refine GO.getA (n := 20) h_x fl_RX12_157 rfl rfl rfl rfl dX12_binds_109 (fun hv660 h659 => ?_)
              refine GO.iload_n dX12_binds_112 rfl rfl ?_
              refine GO.iload dX12_binds_113 rfl ?_
              refine GO.zast (t := 55) rfl rfl (by decide +kernel) h659 r_i1 (by omega) (by omega) (by omega) (by omega) (by omega) dX12_binds_115 (fun V662 e661 => ?_)
              refine GO.iinc (X := i1) (n := 1) (Y := i1 + 1) (ls1 := [some (.ref x), some (ti p0), some (ti p1), some (ti (i1 + 1)), some (ti 1), some (ti z621), some (ti X647)]) dX12_binds_116 rfl rfl rfl rfl ?_
              refine GO.goto (tgt := 2) dX12_binds_119 (by decide) ?_
              refine GO.drop [true, true, true, true, false, false, false] rfl ?_
              exact ih599 (i1 + 1) V662 ⟨by omega, by omega, (by first | exact RB1.beg | exact RB1.zz (by assumption) hrb hMT (by omega) (by omega) rw23 (by assumption) (K_ne h_x (by assumption) (by simp)) (by omega) | exact RB1.nf hrb hMT (by omega) (by omega) (by omega) (by assumption) (K_ne h_x (by assumption) (by simp)) (by omega) | exact RB1.ny hrb (by omega) (by omega) hYY (by omega) (by assumption) (K_ne h_x (by assumption) (by simp)) (by omega) | exact RB1.g (g1 := 0) (by assumption) hrb hMT hMT2 (by omega) (by omega) (by omega) ⟨by omega, by omega⟩ hYY (by assumption) (by omega) (by omega) (by omega) rw58 hBB2 rw67 (Or.inl ⟨by omega, rfl⟩) (by assumption) (by constructor <;> intro _ <;> omega) (ir_c rfl) (K_ne h_x (by assumption) (by simp)) (by omega) | exact RB1.ga (by assumption) hrb hMT hMT2 (by omega) (by omega) (by omega) ⟨by omega, by omega⟩ hYY (by assumption) (by omega) (by omega) (by omega) rw58 hBB2 rw67 (by omega) (by assumption) (by constructor <;> intro _ <;> omega) (ir_c rfl) (K_ne h_x (by assumption) (by simp)) (by omega)), trivial⟩ (by show (2147483647 - (i1 + 1)).toNat < (2147483647 - i1).toNat; omega)
          ·
            refine GO.iconst dX12_binds_82 ?_
            refine GO.goto (tgt := 88) dX12_binds_83 (by decide) ?_
            refine GO.icmp_lt (tgt := 95) dX12_binds_88 (by decide) r651 (ir_c rfl) (fun c663 => ?_) (fun c663 => ?_)
            ·
              refine GO.iconst dX12_binds_95 ?_
              refine GO.istore (ls1 := [some (.ref x), some (ti p0), some (ti p1), some (ti i1), some (ti 0), some (ti z621), some (ti X647)]) dX12_binds_96 rfl rfl ?_
              refine GO.goto (tgt := 108) dX12_binds_98 (by decide) ?_
              refine GO.aload_n dX12_binds_108 rfl rfl ?_
              refine GO.getA (n := 20) h_x fl_RX12_157 rfl rfl rfl rfl dX12_binds_109 (fun hv665 h664 => ?_)
              refine GO.iload_n dX12_binds_112 rfl rfl ?_
              refine GO.iload dX12_binds_113 rfl ?_
              refine GO.zast (t := 55) rfl rfl (by decide +kernel) h664 r_i1 (by omega) (by omega) (by omega) (by omega) (by omega) dX12_binds_115 (fun V667 e666 => ?_)
              refine GO.iinc (X := i1) (n := 1) (Y := i1 + 1) (ls1 := [some (.ref x), some (ti p0), some (ti p1), some (ti (i1 + 1)), some (ti 0), some (ti z621), some (ti X647)]) dX12_binds_116 rfl rfl rfl rfl ?_
              refine GO.goto (tgt := 2) dX12_binds_119 (by decide) ?_
              refine GO.drop [true, true, true, true, false, false, false] rfl ?_
              exact ih599 (i1 + 1) V667 ⟨by omega, by omega, (by first | exact RB1.beg | exact RB1.zz (by assumption) hrb hMT (by omega) (by omega) rw23 (by assumption) (K_ne h_x (by assumption) (by simp)) (by omega) | exact RB1.nf hrb hMT (by omega) (by omega) (by omega) (by assumption) (K_ne h_x (by assumption) (by simp)) (by omega) | exact RB1.ny hrb (by omega) (by omega) hYY (by omega) (by assumption) (K_ne h_x (by assumption) (by simp)) (by omega) | exact RB1.g (g1 := 0) (by assumption) hrb hMT hMT2 (by omega) (by omega) (by omega) ⟨by omega, by omega⟩ hYY (by assumption) (by omega) (by omega) (by omega) rw58 hBB2 rw67 (Or.inl ⟨by omega, rfl⟩) (by assumption) (by constructor <;> intro _ <;> omega) (ir_c rfl) (K_ne h_x (by assumption) (by simp)) (by omega) | exact RB1.ga (by assumption) hrb hMT hMT2 (by omega) (by omega) (by omega) ⟨by omega, by omega⟩ hYY (by assumption) (by omega) (by omega) (by omega) rw58 hBB2 rw67 (by omega) (by assumption) (by constructor <;> intro _ <;> omega) (ir_c rfl) (K_ne h_x (by assumption) (by simp)) (by omega)), trivial⟩ (by show (2147483647 - (i1 + 1)).toNat < (2147483647 - i1).toNat; omega)
            ·
              refine GO.iconst dX12_binds_91 ?_
              refine GO.goto (tgt := 96) dX12_binds_92 (by decide) ?_
              refine GO.istore (ls1 := [some (.ref x), some (ti p0), some (ti p1), some (ti i1), some (ti 1), some (ti z621), some (ti X647)]) dX12_binds_96 rfl rfl ?_
              refine GO.goto (tgt := 108) dX12_binds_98 (by decide) ?_
              refine GO.aload_n dX12_binds_108 rfl rfl ?_
              refine GO.getA (n := 20) h_x fl_RX12_157 rfl rfl rfl rfl dX12_binds_109 (fun hv669 h668 => ?_)
              refine GO.iload_n dX12_binds_112 rfl rfl ?_
              refine GO.iload dX12_binds_113 rfl ?_
              refine GO.zast (t := 55) rfl rfl (by decide +kernel) h668 r_i1 (by omega) (by omega) (by omega) (by omega) (by omega) dX12_binds_115 (fun V671 e670 => ?_)
              refine GO.iinc (X := i1) (n := 1) (Y := i1 + 1) (ls1 := [some (.ref x), some (ti p0), some (ti p1), some (ti (i1 + 1)), some (ti 1), some (ti z621), some (ti X647)]) dX12_binds_116 rfl rfl rfl rfl ?_
              refine GO.goto (tgt := 2) dX12_binds_119 (by decide) ?_
              refine GO.drop [true, true, true, true, false, false, false] rfl ?_
              exact ih599 (i1 + 1) V671 ⟨by omega, by omega, (by first | exact RB1.beg | exact RB1.zz (by assumption) hrb hMT (by omega) (by omega) rw23 (by assumption) (K_ne h_x (by assumption) (by simp)) (by omega) | exact RB1.nf hrb hMT (by omega) (by omega) (by omega) (by assumption) (K_ne h_x (by assumption) (by simp)) (by omega) | exact RB1.ny hrb (by omega) (by omega) hYY (by omega) (by assumption) (K_ne h_x (by assumption) (by simp)) (by omega) | exact RB1.g (g1 := 0) (by assumption) hrb hMT hMT2 (by omega) (by omega) (by omega) ⟨by omega, by omega⟩ hYY (by assumption) (by omega) (by omega) (by omega) rw58 hBB2 rw67 (Or.inl ⟨by omega, rfl⟩) (by assumption) (by constructor <;> intro _ <;> omega) (ir_c rfl) (K_ne h_x (by assumption) (by simp)) (by omega) | exact RB1.ga (by assumption) hrb hMT hMT2 (by omega) (by omega) (by omega) ⟨by omega, by omega⟩ hYY (by assumption) (by omega) (by omega) (by omega) rw58 hBB2 rw67 (by omega) (by assumption) (by constructor <;> intro _ <;> omega) (ir_c rfl) (K_ne h_x (by assumption) (by simp)) (by omega)), trivial⟩ (by show (2147483647 - (i1 + 1)).toNat < (2147483647 - i1).toNat; omega)

set_option maxHeartbeats 1000000 in
theorem t_X12_isAsleep {K : Kmap} {V : Vmap} {x : Nat} {p0 : Int} {p1 : Int} (h_x : K x = some (0, 11)) (r_p0 : ir p0) (r_p1 : ir p1) (q_0 : p0 ≥ 0) (q_1 : p0 ≤ 8) : MC mX12_isAsleep K V [.ref x, ti p0, ti p1] (IS K (fun X V1 => (X = 0 ∨ X = 1) ∧ (X ≠ 0 → True) ∧ (X = 0 → True) ∧ (RSL V V1 x p0 p1 X))) := by
  refine MC.start 0 (by decide +kernel) rfl rfl rfl (ls0 := [some (.ref x), some (ti p0), some (ti p1)]) rfl ?_
  refine GO.aload_n dX12_isAsleep_0 rfl rfl ?_
  refine GO.iload_n dX12_isAsleep_1 rfl rfl ?_
  refine GO.iload_n dX12_isAsleep_2 rfl rfl ?_
  have q1 : -2147483648 ≤ p0 ∧ p0 ≤ 2147483647 := r_p0
  refine GO.callV (ci := 11) (N := mX12_binds) dX12_isAsleep_3 (RX12, TX12, 151) rfl gV_RX12_557 h_x (t_X12_binds h_x r_p0 r_p1 (by omega) (by omega)) rfl [] rfl rfl (Nat.le_of_ble_eq_true rfl) rfl (k_vs fun V4 h3 hF2 => ?_)
  have raw_binds := h3.2
  have rw3 := h3.2
  refine GO.aload_n dX12_isAsleep_6 rfl rfl ?_
  refine GO.bipush dX12_isAsleep_7 rfl ?_
  refine GO.iconst dX12_isAsleep_9 ?_
  refine GO.iconst dX12_isAsleep_10 ?_
  refine GO.aload_n dX12_isAsleep_11 rfl rfl ?_
  refine GO.getI h_x fl_RX12_535 rfl rfl dX12_isAsleep_12 (fun l5 u6 => ?_)
  refine GO.callV (ci := 11) (N := mX12_numberBy) dX12_isAsleep_15 (RX12, TX12, 151) rfl gV_RX12_553 h_x (t_X12_numberBy h_x (ir_c rfl) (ir_c rfl) (ir_c rfl) vi_ir (by omega) (by omega)) rfl [] rfl rfl (Nat.le_of_ble_eq_true rfl) rfl (k_ip fun X8 r9 h10 => ?_)
  have raw_numberBy := h10.2
  have rw15 := h10.2
  refine GO.iconst dX12_isAsleep_18 ?_
  refine GO.icmp_eq (tgt := 26) dX12_isAsleep_19 (by decide) r9 (ir_c rfl) (fun c11 => ?_) (fun c11 => ?_)
  ·
    refine GO.iconst dX12_isAsleep_26 ?_
    exact GO.retz rfl rfl dX12_isAsleep_27 (Or.inl rfl) ⟨rfl, _, rfl, (ir_c rfl), ⟨Or.inl rfl, fun _ => trivial, fun _ => trivial, ⟨_, RNM.mk rw3 rw15, (by constructor <;> intro _ <;> omega)⟩⟩⟩
  ·
    refine GO.iconst dX12_isAsleep_22 ?_
    refine GO.goto (tgt := 27) dX12_isAsleep_23 (by decide) ?_
    exact GO.retz rfl rfl dX12_isAsleep_27 (Or.inr rfl) ⟨rfl, _, rfl, (ir_c rfl), ⟨Or.inr rfl, fun _ => trivial, fun _ => trivial, ⟨_, RNM.mk rw3 rw15, (by constructor <;> intro _ <;> omega)⟩⟩⟩

set_option maxHeartbeats 1000000 in
theorem t_X12_claim {K : Kmap} {V : Vmap} {x : Nat} {p0 : Int} {p1 : Int} {p2 : Int} {p3 : Int} (h_x : K x = some (0, 11)) (r_p0 : ir p0) (r_p1 : ir p1) (r_p2 : ir p2) (r_p3 : ir p3) (w_0 : PX0 V x) : MC mX12_claim K V [.ref x, ti p0, ti p1, ti p2, ti p3] (IS K (fun X V1 => (X ≥ (-2147483648) ∧ X ≤ 2147483647) ∧ (PX0 V1 x))) := by
  refine MC.start 0 (by decide +kernel) rfl rfl rfl (ls0 := [some (.ref x), some (ti p0), some (ti p1), some (ti p2), some (ti p3)]) rfl ?_
  refine GO.useWT (fun hW1 => ?_)
  have ak2 := hW1.arr h_x 13 15 (by decide) rfl (by decide)
  have ak3 := hW1.arr h_x 14 16 (by decide) rfl (by decide)
  refine GO.aload_n dX12_claim_0 rfl rfl ?_
  refine GO.iload_n dX12_claim_1 rfl rfl ?_
  refine GO.callV (ci := 11) (N := mX12_isParty) dX12_claim_2 (RX12, TX12, 151) rfl gV_RX12_406 h_x (t_X12_isParty h_x r_p0) rfl [] rfl rfl (Nat.le_of_ble_eq_true rfl) rfl (k_ip fun X4 r5 h6 => ?_)
  refine GO.if_eq (tgt := 50) dX12_claim_5 (by decide) r5 (fun c7 => ?_) (fun c7 => ?_)
  ·
    have q8 := h6.2.2 (by omega)
    refine GO.iconst dX12_claim_50 ?_
    exact GO.reti rfl rfl dX12_claim_51 ⟨rfl, _, rfl, (ir_c rfl), ⟨(by first | exact trivial | omega), (by first | exact w_0 | exact PX0.mk w_0 (by omega) (rfl : ar 13 V x = ar 13 V x) (rfl : ar 14 V x = ar 14 V x))⟩⟩
  ·
    have q9 := h6.2.1 (by omega)
    refine GO.aload_n dX12_claim_8 rfl rfl ?_
    refine GO.iload_n dX12_claim_9 rfl rfl ?_
    refine GO.iload_n dX12_claim_10 rfl rfl ?_
    refine GO.callV (ci := 11) (N := mX12_isRectangle) dX12_claim_11 (RX12, TX12, 151) rfl gV_RX12_415 h_x (t_X12_isRectangle h_x r_p1 r_p2) rfl [] rfl rfl (Nat.le_of_ble_eq_true rfl) rfl (k_ip fun X10 r11 h12 => ?_)
    refine GO.if_eq (tgt := 50) dX12_claim_14 (by decide) r11 (fun c13 => ?_) (fun c13 => ?_)
    ·
      refine GO.iconst dX12_claim_50 ?_
      exact GO.reti rfl rfl dX12_claim_51 ⟨rfl, _, rfl, (ir_c rfl), ⟨(by first | exact trivial | omega), (by first | exact w_0 | exact PX0.mk w_0 (by omega) (rfl : ar 13 V x = ar 13 V x) (rfl : ar 14 V x = ar 14 V x))⟩⟩
    ·
      have q14 := h12.2.1 (by omega)
      refine GO.iload dX12_claim_17 rfl ?_
      refine GO.iconst dX12_claim_19 ?_
      refine GO.sipush dX12_claim_20 rfl ?_
      refine GO.callS (N := mX12_in) dX12_claim_23 gS_RX12_371 (t_X12_in r_p3 (ir_c rfl) (ir_c rfl)) rfl [] rfl rfl (Nat.le_of_ble_eq_true rfl) rfl (k_ip fun X15 r16 h17 => ?_)
      have raw_in := h17.2.2.2
      have rw23 := h17.2.2.2
      refine GO.if_eq (tgt := 50) dX12_claim_26 (by decide) r16 (fun c18 => ?_) (fun c18 => ?_)
      ·
        have q19 := h17.2.2.1 (by omega)
        refine GO.iconst dX12_claim_50 ?_
        exact GO.reti rfl rfl dX12_claim_51 ⟨rfl, _, rfl, (ir_c rfl), ⟨(by first | exact trivial | omega), (by first | exact w_0 | exact PX0.mk w_0 (by omega) (rfl : ar 13 V x = ar 13 V x) (rfl : ar 14 V x = ar 14 V x))⟩⟩
      ·
        have q20 := h17.2.1 (by omega)
        refine GO.aload_n dX12_claim_29 rfl rfl ?_
        refine GO.getI h_x fl_RX12_375 rfl rfl dX12_claim_30 (fun l21 u22 => ?_)
        refine GO.bipush dX12_claim_33 rfl ?_
        refine GO.icmp_eq (tgt := 50) dX12_claim_35 (by decide) vi_ir (ir_c rfl) (fun c23 => ?_) (fun c23 => ?_)
        ·
          refine GO.iconst dX12_claim_50 ?_
          exact GO.reti rfl rfl dX12_claim_51 ⟨rfl, _, rfl, (ir_c rfl), ⟨(by first | exact trivial | omega), (by first | exact w_0 | exact PX0.mk w_0 (by omega) (rfl : ar 13 V x = ar 13 V x) (rfl : ar 14 V x = ar 14 V x))⟩⟩
        ·
          refine GO.aload_n dX12_claim_38 rfl rfl ?_
          refine GO.iload_n dX12_claim_39 rfl rfl ?_
          refine GO.aload_n dX12_claim_40 rfl rfl ?_
          refine GO.getI h_x fl_RX12_396 rfl rfl dX12_claim_41 (fun l24 u25 => ?_)
          have q26 : -2147483648 ≤ p0 ∧ p0 ≤ 2147483647 := r_p0
          have q27 : -2147483648 ≤ vi V x 9 ∧ vi V x 9 ≤ 2147483647 := vi_ir
          refine GO.callV (ci := 11) (N := mX12_isAsleep) dX12_claim_44 (RX12, TX12, 151) rfl gV_RX12_418 h_x (t_X12_isAsleep h_x r_p0 vi_ir (by omega) (by omega)) rfl [] rfl rfl (Nat.le_of_ble_eq_true rfl) rfl (k_is fun X28 V32 r29 h30 hF31 => ?_)
          have ak33 := tk_fr hF31 ak2 h_x (by decide +kernel) (by decide +kernel) (rfl : ar 13 V x = ar 13 V x)
          have ak34 := tk_fr hF31 ak3 h_x (by decide +kernel) (by decide +kernel) (rfl : ar 14 V x = ar 14 V x)
          have raw_isAsleep := h30.2.2.2
          have rw44 := h30.2.2.2
          refine GO.if_eq (tgt := 52) dX12_claim_47 (by decide) r29 (fun c35 => ?_) (fun c35 => ?_)
          ·
            refine GO.aload_n dX12_claim_52 rfl rfl ?_
            refine GO.iconst dX12_claim_53 ?_
            refine GO.iload_n dX12_claim_54 rfl rfl ?_
            refine GO.iload_n dX12_claim_55 rfl rfl ?_
            refine GO.iload_n dX12_claim_56 rfl rfl ?_
            refine GO.iload dX12_claim_57 rfl ?_
            have q36 : -2147483648 ≤ p1 ∧ p1 ≤ 2147483647 := r_p1
            have q37 : -2147483648 ≤ p2 ∧ p2 ≤ 2147483647 := r_p2
            have e38 : vi V32 x 10 = vi V x 10 := vi_fr hF31 h_x h_x (by decide +kernel)
            refine GO.callV (ci := 11) (N := mX12_place) dX12_claim_59 (RX12, TX12, 151) rfl gV_RX12_421 h_x (t_X12_place h_x (ir_c rfl) r_p0 r_p1 r_p2 r_p3 (by omega) (by omega) (by omega) (by omega) (by omega) (by omega) (by omega) (by omega) (by omega) ((by first | exact w_0 | exact PX0.mk w_0 (by omega) ak33.2 ak34.2)) ⟨by omega, by omega⟩) rfl [] rfl rfl (Nat.le_of_ble_eq_true rfl) rfl (k_is fun X39 V43 r40 h41 hF42 => ?_)
            refine GO.useWT (fun hW44 => ?_)
            have ak45 := hW44.arr h_x 13 15 (by decide) rfl (by decide)
            have ak46 := hW44.arr h_x 14 16 (by decide) rfl (by decide)
            have raw_place := h41.2
            have rw59 := h41.2
            exact GO.reti rfl rfl dX12_claim_62 ⟨rfl, _, rfl, r40, ⟨(by first | exact trivial | omega), (by first | exact raw_place | exact w_0 | exact PX0.mk w_0 (by omega) (rfl : ar 13 V43 x = ar 13 V43 x) (rfl : ar 14 V43 x = ar 14 V43 x))⟩⟩
          ·
            refine GO.iconst dX12_claim_50 ?_
            have e48 : vi V32 x 10 = vi V x 10 := vi_fr hF31 h_x h_x (by decide +kernel)
            exact GO.reti rfl rfl dX12_claim_51 ⟨rfl, _, rfl, (ir_c rfl), ⟨(by first | exact trivial | omega), (by first | exact w_0 | exact PX0.mk w_0 (by omega) ak33.2 ak34.2)⟩⟩

set_option maxHeartbeats 1000000 in
theorem t_X12_title {K : Kmap} {V : Vmap} {x : Nat} {p0 : Int} {p1 : Int} (h_x : K x = some (0, 11)) (r_p0 : ir p0) (r_p1 : ir p1) (w_0 : PX0 V x) : MC mX12_title K V [.ref x, ti p0, ti p1] (IS K (fun X V1 => (X = 0 ∨ X = 1) ∧ (X ≠ 0 → True) ∧ (X = 0 → True))) := by
  refine MC.start 0 (by decide +kernel) rfl rfl rfl (ls0 := [some (.ref x), some (ti p0), some (ti p1)]) rfl ?_
  refine GO.aload_n dX12_title_0 rfl rfl ?_
  refine GO.iload_n dX12_title_1 rfl rfl ?_
  refine GO.iconst dX12_title_2 ?_
  refine GO.callV (ci := 11) (N := mX12_isPlace) dX12_title_3 (RX12, TX12, 151) rfl gV_RX12_399 h_x (t_X12_isPlace h_x r_p0 (ir_c rfl)) rfl [] rfl rfl (Nat.le_of_ble_eq_true rfl) rfl (k_ip fun X1 r2 h3 => ?_)
  have raw_isPlace := h3.2.2.2
  have rw3 := h3.2.2.2
  refine GO.if_eq (tgt := 47) dX12_title_6 (by decide) r2 (fun c4 => ?_) (fun c4 => ?_)
  ·
    refine GO.iconst dX12_title_47 ?_
    exact GO.retz rfl rfl dX12_title_48 (Or.inl rfl) ⟨rfl, _, rfl, (ir_c rfl), ⟨Or.inl rfl, fun _ => trivial, fun _ => trivial⟩⟩
  ·
    have q5 := h3.2.1 (by omega)
    refine GO.iload_n dX12_title_9 rfl rfl ?_
    refine GO.iconst dX12_title_10 ?_
    refine GO.sipush dX12_title_11 rfl ?_
    refine GO.callS (N := mX12_in) dX12_title_14 gS_RX12_371 (t_X12_in r_p1 (ir_c rfl) (ir_c rfl)) rfl [] rfl rfl (Nat.le_of_ble_eq_true rfl) rfl (k_ip fun X6 r7 h8 => ?_)
    have raw_in := h8.2.2.2
    have rw14 := h8.2.2.2
    refine GO.if_eq (tgt := 47) dX12_title_17 (by decide) r7 (fun c9 => ?_) (fun c9 => ?_)
    ·
      have q10 := h8.2.2.1 (by omega)
      refine GO.iconst dX12_title_47 ?_
      exact GO.retz rfl rfl dX12_title_48 (Or.inl rfl) ⟨rfl, _, rfl, (ir_c rfl), ⟨Or.inl rfl, fun _ => trivial, fun _ => trivial⟩⟩
    ·
      have q11 := h8.2.1 (by omega)
      refine GO.iload_n dX12_title_20 rfl rfl ?_
      refine GO.aload_n dX12_title_21 rfl rfl ?_
      refine GO.getA (n := 60) h_x fl_RX12_47 rfl rfl rfl rfl dX12_title_22 (fun hv13 h12 => ?_)
      refine GO.iload_n dX12_title_25 rfl rfl ?_
      have q14 : -2147483648 ≤ p0 ∧ p0 ≤ 2147483647 := r_p0
      refine GO.iald (t := 19) rfl rfl h12 r_p0 (by omega) (by omega) dX12_title_26 (fun _ _ => ?_)
      refine GO.icmp_le (tgt := 49) dX12_title_27 (by decide) r_p1 vi_ir (fun c15 => ?_) (fun c15 => ?_)
      ·
        refine GO.aload_n dX12_title_49 rfl rfl ?_
        refine GO.getRaw h_x fl_RX12_47 hv13 dX12_title_50 ?_
        refine GO.iload_n dX12_title_53 rfl rfl ?_
        refine GO.iload_n dX12_title_54 rfl rfl ?_
        refine GO.iast (t := 19) rfl rfl (by decide +kernel) h12 r_p0 (by omega) (by omega) r_p1 (r_p1).1 (r_p1).2 dX12_title_55 (fun V19 e18 => ?_)
        refine GO.iconst dX12_title_56 ?_
        exact GO.retz rfl rfl dX12_title_57 (Or.inr rfl) ⟨rfl, _, rfl, (ir_c rfl), ⟨Or.inr rfl, fun _ => trivial, fun _ => trivial⟩⟩
      ·
        have hp := PX0.at w_0 (k := p0) (by omega) (raw_isPlace (by omega)).1 (raw_isPlace (by omega)).2
        refine GO.aload_n dX12_title_30 rfl rfl ?_
        refine GO.aload_n dX12_title_31 rfl rfl ?_
        refine GO.getA (n := 60) h_x fl_RX12_38 rfl rfl rfl rfl dX12_title_32 (fun hv21 h20 => ?_)
        refine GO.iload_n dX12_title_35 rfl rfl ?_
        refine GO.iald (t := 16) rfl rfl h20 r_p0 (by omega) (by omega) dX12_title_36 (fun l22 u23 => ?_)
        refine GO.aload_n dX12_title_37 rfl rfl ?_
        refine GO.getI h_x fl_RX12_396 rfl rfl dX12_title_38 (fun l24 u25 => ?_)
        refine GO.callV (ci := 11) (N := mX12_isAsleep) dX12_title_41 (RX12, TX12, 151) rfl gV_RX12_418 h_x (t_X12_isAsleep h_x vi_ir vi_ir (by omega) (by omega)) rfl [] rfl rfl (Nat.le_of_ble_eq_true rfl) rfl (k_is fun X26 V30 r27 h28 hF29 => ?_)
        have raw_isAsleep := h28.2.2.2
        have rw41 := h28.2.2.2
        refine GO.if_eq (tgt := 49) dX12_title_44 (by decide) r27 (fun c31 => ?_) (fun c31 => ?_)
        ·
          refine GO.aload_n dX12_title_49 rfl rfl ?_
          refine GO.getRaw h_x fl_RX12_47 (Eq.trans (hF29 _ _ _ h_x h_x (by decide +kernel)) hv13) dX12_title_50 ?_
          refine GO.iload_n dX12_title_53 rfl rfl ?_
          refine GO.iload_n dX12_title_54 rfl rfl ?_
          refine GO.iast (t := 19) rfl rfl (by decide +kernel) h12 r_p0 (by omega) (by omega) r_p1 (r_p1).1 (r_p1).2 dX12_title_55 (fun V35 e34 => ?_)
          refine GO.iconst dX12_title_56 ?_
          exact GO.retz rfl rfl dX12_title_57 (Or.inr rfl) ⟨rfl, _, rfl, (ir_c rfl), ⟨Or.inr rfl, fun _ => trivial, fun _ => trivial⟩⟩
        ·
          refine GO.iconst dX12_title_47 ?_
          exact GO.retz rfl rfl dX12_title_48 (Or.inl rfl) ⟨rfl, _, rfl, (ir_c rfl), ⟨Or.inl rfl, fun _ => trivial, fun _ => trivial⟩⟩
